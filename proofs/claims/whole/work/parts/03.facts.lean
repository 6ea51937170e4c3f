def sm_pl0 : List Nat := [466, 468, 470, 472, 474]
theorem sm_pk0 : (List.range 5).all (fun k => decide (lw_tbl[sm_pl0.getD k 0]? = some (u_lay "WireBus" sm_f0 k))) = true := by decide +kernel
theorem sm_pt0 : (List.range 5).all (fun k => decide (parseFieldDescriptor (sm_f0 k).2.2.1 = some (sm_y0 k)) && (sm_isR (sm_y0 k) || decide (sm_y0 k = .int) || decide (sm_y0 k = .boolean))) = true := by decide +kernel
theorem sm_pn0 : (List.range 5).all (fun a => (List.range 5).all (fun b => decide (a = b) || !decide ((sm_f0 a).2.1 = (sm_f0 b).2.1))) = true := by decide +kernel
theorem sm_pi0 : lw_tbl[98]? = some (Jvm.Cond.instantiable "WireBus" 5) ∧ lw_tbl[82]? = some (Jvm.Cond.initialized "WireBus") := by decide +kernel
def sm_pl1 : List Nat := [119, 121, 123]
theorem sm_pk1 : (List.range 3).all (fun k => decide (lw_tbl[sm_pl1.getD k 0]? = some (u_lay "WireBus$Bytes" sm_f1 k))) = true := by decide +kernel
theorem sm_pt1 : (List.range 3).all (fun k => decide (parseFieldDescriptor (sm_f1 k).2.2.1 = some (sm_y1 k)) && (sm_isR (sm_y1 k) || decide (sm_y1 k = .int) || decide (sm_y1 k = .boolean))) = true := by decide +kernel
theorem sm_pn1 : (List.range 3).all (fun a => (List.range 3).all (fun b => decide (a = b) || !decide ((sm_f1 a).2.1 = (sm_f1 b).2.1))) = true := by decide +kernel
theorem sm_pi1 : lw_tbl[106]? = some (Jvm.Cond.instantiable "WireBus$Bytes" 3) ∧ lw_tbl[83]? = some (Jvm.Cond.initialized "WireBus$Bytes") := by decide +kernel
def sm_pl2 : List Nat := [197, 199, 201, 203]
theorem sm_pk2 : (List.range 4).all (fun k => decide (lw_tbl[sm_pl2.getD k 0]? = some (u_lay "WireBus$Coder" sm_f2 k))) = true := by decide +kernel
theorem sm_pt2 : (List.range 4).all (fun k => decide (parseFieldDescriptor (sm_f2 k).2.2.1 = some (sm_y2 k)) && (sm_isR (sm_y2 k) || decide (sm_y2 k = .int) || decide (sm_y2 k = .boolean))) = true := by decide +kernel
theorem sm_pn2 : (List.range 4).all (fun a => (List.range 4).all (fun b => decide (a = b) || !decide ((sm_f2 a).2.1 = (sm_f2 b).2.1))) = true := by decide +kernel
theorem sm_pi2 : lw_tbl[186]? = some (Jvm.Cond.instantiable "WireBus$Coder" 4) ∧ lw_tbl[87]? = some (Jvm.Cond.initialized "WireBus$Coder") := by decide +kernel
def sm_pl3 : List Nat := [232, 234, 236, 238, 240, 242, 244, 246, 248, 250]
theorem sm_pk3 : (List.range 10).all (fun k => decide (lw_tbl[sm_pl3.getD k 0]? = some (u_lay "WireBus$ControlPoint" sm_f3 k))) = true := by decide +kernel
theorem sm_pt3 : (List.range 10).all (fun k => decide (parseFieldDescriptor (sm_f3 k).2.2.1 = some (sm_y3 k)) && (sm_isR (sm_y3 k) || decide (sm_y3 k = .int) || decide (sm_y3 k = .boolean))) = true := by decide +kernel
theorem sm_pn3 : (List.range 10).all (fun a => (List.range 10).all (fun b => decide (a = b) || !decide ((sm_f3 a).2.1 = (sm_f3 b).2.1))) = true := by decide +kernel
theorem sm_pi3 : lw_tbl[216]? = some (Jvm.Cond.instantiable "WireBus$ControlPoint" 10) ∧ lw_tbl[89]? = some (Jvm.Cond.initialized "WireBus$ControlPoint") := by decide +kernel
def sm_pl4 : List Nat := [279, 281, 283, 285, 287, 289, 291, 293, 295, 297, 299, 301, 303]
theorem sm_pk4 : (List.range 13).all (fun k => decide (lw_tbl[sm_pl4.getD k 0]? = some (u_lay "WireBus$Device" sm_f4 k))) = true := by decide +kernel
theorem sm_pt4 : (List.range 13).all (fun k => decide (parseFieldDescriptor (sm_f4 k).2.2.1 = some (sm_y4 k)) && (sm_isR (sm_y4 k) || decide (sm_y4 k = .int) || decide (sm_y4 k = .boolean))) = true := by decide +kernel
theorem sm_pn4 : (List.range 13).all (fun a => (List.range 13).all (fun b => decide (a = b) || !decide ((sm_f4 a).2.1 = (sm_f4 b).2.1))) = true := by decide +kernel
theorem sm_pi4 : lw_tbl[208]? = some (Jvm.Cond.instantiable "WireBus$Device" 13) ∧ lw_tbl[88]? = some (Jvm.Cond.initialized "WireBus$Device") := by decide +kernel
def sm_pl5 : List Nat := [553, 555, 557, 559, 561, 563, 565]
theorem sm_pk5 : (List.range 7).all (fun k => decide (lw_tbl[sm_pl5.getD k 0]? = some (u_lay "WireBus$Endpoint" sm_f5 k))) = true := by decide +kernel
theorem sm_pt5 : (List.range 7).all (fun k => decide (parseFieldDescriptor (sm_f5 k).2.2.1 = some (sm_y5 k)) && (sm_isR (sm_y5 k) || decide (sm_y5 k = .int) || decide (sm_y5 k = .boolean))) = true := by decide +kernel
theorem sm_pn5 : (List.range 7).all (fun a => (List.range 7).all (fun b => decide (a = b) || !decide ((sm_f5 a).2.1 = (sm_f5 b).2.1))) = true := by decide +kernel
theorem sm_pi5 : lw_tbl[531]? = some (Jvm.Cond.instantiable "WireBus$Endpoint" 7) ∧ lw_tbl[94]? = some (Jvm.Cond.initialized "WireBus$Endpoint") := by decide +kernel
def sm_pl6 : List Nat := [438, 440, 442, 444, 446, 448, 450, 452, 454]
theorem sm_pk6 : (List.range 9).all (fun k => decide (lw_tbl[sm_pl6.getD k 0]? = some (u_lay "WireBus$Host" sm_f6 k))) = true := by decide +kernel
theorem sm_pt6 : (List.range 9).all (fun k => decide (parseFieldDescriptor (sm_f6 k).2.2.1 = some (sm_y6 k)) && (sm_isR (sm_y6 k) || decide (sm_y6 k = .int) || decide (sm_y6 k = .boolean))) = true := by decide +kernel
theorem sm_pn6 : (List.range 9).all (fun a => (List.range 9).all (fun b => decide (a = b) || !decide ((sm_f6 a).2.1 = (sm_f6 b).2.1))) = true := by decide +kernel
theorem sm_pi6 : lw_tbl[341]? = some (Jvm.Cond.instantiable "WireBus$Host" 9) ∧ lw_tbl[90]? = some (Jvm.Cond.initialized "WireBus$Host") := by decide +kernel
def sm_pl7 : List Nat := [168, 170, 172, 174, 176, 178, 180, 182]
theorem sm_pk7 : (List.range 8).all (fun k => decide (lw_tbl[sm_pl7.getD k 0]? = some (u_lay "WireBus$Packet" sm_f7 k))) = true := by decide +kernel
theorem sm_pt7 : (List.range 8).all (fun k => decide (parseFieldDescriptor (sm_f7 k).2.2.1 = some (sm_y7 k)) && (sm_isR (sm_y7 k) || decide (sm_y7 k = .int) || decide (sm_y7 k = .boolean))) = true := by decide +kernel
theorem sm_pn7 : (List.range 8).all (fun a => (List.range 8).all (fun b => decide (a = b) || !decide ((sm_f7 a).2.1 = (sm_f7 b).2.1))) = true := by decide +kernel
theorem sm_pi7 : lw_tbl[135]? = some (Jvm.Cond.instantiable "WireBus$Packet" 8) ∧ lw_tbl[86]? = some (Jvm.Cond.initialized "WireBus$Packet") := by decide +kernel
def sm_pl8 : List Nat := [411, 413, 415, 417, 419, 421]
theorem sm_pk8 : (List.range 6).all (fun k => decide (lw_tbl[sm_pl8.getD k 0]? = some (u_lay "WireBus$Peer" sm_f8 k))) = true := by decide +kernel
theorem sm_pt8 : (List.range 6).all (fun k => decide (parseFieldDescriptor (sm_f8 k).2.2.1 = some (sm_y8 k)) && (sm_isR (sm_y8 k) || decide (sm_y8 k = .int) || decide (sm_y8 k = .boolean))) = true := by decide +kernel
theorem sm_pn8 : (List.range 6).all (fun a => (List.range 6).all (fun b => decide (a = b) || !decide ((sm_f8 a).2.1 = (sm_f8 b).2.1))) = true := by decide +kernel
theorem sm_pi8 : lw_tbl[391]? = some (Jvm.Cond.instantiable "WireBus$Peer" 6) ∧ lw_tbl[92]? = some (Jvm.Cond.initialized "WireBus$Peer") := by decide +kernel
def sm_pl9 : List Nat := [374, 376, 378, 380, 382, 384, 386, 388]
theorem sm_pk9 : (List.range 8).all (fun k => decide (lw_tbl[sm_pl9.getD k 0]? = some (u_lay "WireBus$Pipe" sm_f9 k))) = true := by decide +kernel
theorem sm_pt9 : (List.range 8).all (fun k => decide (parseFieldDescriptor (sm_f9 k).2.2.1 = some (sm_y9 k)) && (sm_isR (sm_y9 k) || decide (sm_y9 k = .int) || decide (sm_y9 k = .boolean))) = true := by decide +kernel
theorem sm_pn9 : (List.range 8).all (fun a => (List.range 8).all (fun b => decide (a = b) || !decide ((sm_f9 a).2.1 = (sm_f9 b).2.1))) = true := by decide +kernel
theorem sm_pi9 : lw_tbl[351]? = some (Jvm.Cond.instantiable "WireBus$Pipe" 8) ∧ lw_tbl[91]? = some (Jvm.Cond.initialized "WireBus$Pipe") := by decide +kernel
def sm_pl10 : List Nat := [650, 652, 654, 656, 658, 660, 662, 664, 666, 668, 670, 672, 674]
theorem sm_pk10 : (List.range 13).all (fun k => decide (lw_tbl[sm_pl10.getD k 0]? = some (u_lay "WireBus$Transfer" sm_f10 k))) = true := by decide +kernel
theorem sm_pt10 : (List.range 13).all (fun k => decide (parseFieldDescriptor (sm_f10 k).2.2.1 = some (sm_y10 k)) && (sm_isR (sm_y10 k) || decide (sm_y10 k = .int) || decide (sm_y10 k = .boolean))) = true := by decide +kernel
theorem sm_pn10 : (List.range 13).all (fun a => (List.range 13).all (fun b => decide (a = b) || !decide ((sm_f10 a).2.1 = (sm_f10 b).2.1))) = true := by decide +kernel
theorem sm_pi10 : lw_tbl[615]? = some (Jvm.Cond.instantiable "WireBus$Transfer" 13) ∧ lw_tbl[95]? = some (Jvm.Cond.initialized "WireBus$Transfer") := by decide +kernel
def sm_pl11 : List Nat := [319, 321, 323, 325, 327, 329, 331, 333, 335, 337]
theorem sm_pk11 : (List.range 10).all (fun k => decide (lw_tbl[sm_pl11.getD k 0]? = some (u_lay "WireBus$Wire" sm_f11 k))) = true := by decide +kernel
theorem sm_pt11 : (List.range 10).all (fun k => decide (parseFieldDescriptor (sm_f11 k).2.2.1 = some (sm_y11 k)) && (sm_isR (sm_y11 k) || decide (sm_y11 k = .int) || decide (sm_y11 k = .boolean))) = true := by decide +kernel
theorem sm_pn11 : (List.range 10).all (fun a => (List.range 10).all (fun b => decide (a = b) || !decide ((sm_f11 a).2.1 = (sm_f11 b).2.1))) = true := by decide +kernel
theorem sm_pi11 : lw_tbl[128]? = some (Jvm.Cond.instantiable "WireBus$Wire" 10) ∧ lw_tbl[85]? = some (Jvm.Cond.initialized "WireBus$Wire") := by decide +kernel
def sm_pl12 : List Nat := [1271, 1273, 1275, 1277, 1279, 1281, 1283, 1285, 1287, 1289, 1291, 1293, 1295, 1297, 1299, 1301, 1303, 1305, 1307, 1309, 1311, 1313, 1315, 1317, 1319, 1321, 1323, 1325, 1327, 1329, 1331, 1333, 1335, 1337, 1339, 1341, 1343, 1345, 1347, 1349, 1351, 1353, 1355, 1357, 1359, 1361, 1363, 1365, 1367, 1369, 1371, 1373, 1375, 1377, 1379, 1381, 1383, 1385, 1387, 1389, 1391, 1393, 1395, 1397, 1399, 1401, 1403, 1405, 1407, 1409, 1411, 1413, 1415, 1417, 1419, 1421, 1423, 1425, 1427, 1429, 1431, 1433, 1435, 1437, 1439, 1441, 1443, 1445]
theorem sm_pk12 : (List.range 88).all (fun k => decide (lw_tbl[sm_pl12.getD k 0]? = some (u_lay "WireBusModel" sm_f12 k))) = true := by decide +kernel
theorem sm_pt12 : (List.range 88).all (fun k => decide (parseFieldDescriptor (sm_f12 k).2.2.1 = some (sm_y12 k)) && (sm_isR (sm_y12 k) || decide (sm_y12 k = .int) || decide (sm_y12 k = .boolean))) = true := by decide +kernel
theorem sm_pn12 : (List.range 88).all (fun a => (List.range 88).all (fun b => decide (a = b) || !decide ((sm_f12 a).2.1 = (sm_f12 b).2.1))) = true := by decide +kernel
theorem sm_pi12 : lw_tbl[1177]? = some (Jvm.Cond.instantiable "WireBusModel" 88) ∧ lw_tbl[93]? = some (Jvm.Cond.initialized "WireBusModel") := by decide +kernel
theorem sm_clok0 {C : String} {T : u_T} {Y : Nat → FieldType} {N : Nat} {pl : List Nat} {i1 i2 : Nat} (h1 : (List.range N).all (fun k => decide (lw_tbl[pl.getD k 0]? = some (u_lay C T k))) = true) (h2 : (List.range N).all (fun k => decide (parseFieldDescriptor (T k).2.2.1 = some (Y k)) && (sm_isR (Y k) || decide (Y k = .int) || decide (Y k = .boolean))) = true) (h3 : (List.range N).all (fun a => (List.range N).all (fun b => decide (a = b) || !decide ((T a).2.1 = (T b).2.1))) = true) (h4 : lw_tbl[i1]? = some (Jvm.Cond.instantiable C N) ∧ lw_tbl[i2]? = some (Jvm.Cond.initialized C)) :
    (∀ w ∈ u_ws C T N, w ∈ sm_gws) ∧ (∀ k, k < N → parseFieldDescriptor (T k).2.2.1 = some (Y k)) ∧ (∀ a, a < N → ∀ b, b < N → a ≠ b → (T a).2.1 ≠ (T b).2.1) ∧ Cond.instantiable C N ∈ sm_gws ∧ Cond.initialized C ∈ sm_gws ∧ (∀ k, k < N → sm_isR (Y k) = true ∨ Y k = .int ∨ Y k = .boolean) := by
  have a1 : ∀ k, k < N → lw_tbl[pl.getD k 0]? = some (u_lay C T k) := fun k hk => of_decide_eq_true (List.all_eq_true.mp h1 k (List.mem_range.mpr hk))
  have a2 : ∀ k, k < N → (decide (parseFieldDescriptor (T k).2.2.1 = some (Y k)) && (sm_isR (Y k) || decide (Y k = .int) || decide (Y k = .boolean))) = true := fun k hk => List.all_eq_true.mp h2 k (List.mem_range.mpr hk)
  refine ⟨fun w hw => ?_, fun k hk => ?_, fun a ha b hb hab => ?_, sm_gw h4.1 rfl, sm_gw h4.2 rfl, fun k hk => ?_⟩
  · obtain ⟨k, hk, rfl⟩ := List.mem_map.mp hw
    refine sm_gw (a1 k (List.mem_range.mp hk)) ?_
    unfold u_lay
    split <;> rfl
  · have := a2 k hk
    rw [Bool.and_eq_true, decide_eq_true_eq] at this
    exact this.1
  · have := List.all_eq_true.mp (List.all_eq_true.mp h3 a (List.mem_range.mpr ha)) b (List.mem_range.mpr hb)
    simpa [hab] using this
  · have := a2 k hk
    simp only [Bool.and_eq_true, Bool.or_eq_true, decide_eq_true_eq] at this
    rcases this.2 with (h | h) | h
    · exact Or.inl h
    · exact Or.inr (Or.inl h)
    · exact Or.inr (Or.inr h)
def sm_ClOk (ci : Nat) : Prop := sm_cl[ci]? = some (sm_cn ci, sm_ft ci, sm_nf ci) ∧ (∀ w ∈ u_ws (sm_cn ci) (sm_ft ci) (sm_nf ci), w ∈ sm_gws) ∧ (∀ k, k < sm_nf ci → parseFieldDescriptor (sm_ft ci k).2.2.1 = some (sm_ty ci k)) ∧ (∀ a, a < sm_nf ci → ∀ b, b < sm_nf ci → a ≠ b → (sm_ft ci a).2.1 ≠ (sm_ft ci b).2.1) ∧ Cond.instantiable (sm_cn ci) (sm_nf ci) ∈ sm_gws ∧ Cond.initialized (sm_cn ci) ∈ sm_gws ∧ (∀ k, k < sm_nf ci → sm_isR (sm_ty ci k) = true ∨ sm_ty ci k = .int ∨ sm_ty ci k = .boolean)
theorem sm_clokA : ∀ ci, ci < sm_nc → sm_ClOk ci
  | 0, _ => ⟨rfl, sm_clok0 sm_pk0 sm_pt0 sm_pn0 sm_pi0⟩
  | 1, _ => ⟨rfl, sm_clok0 sm_pk1 sm_pt1 sm_pn1 sm_pi1⟩
  | 2, _ => ⟨rfl, sm_clok0 sm_pk2 sm_pt2 sm_pn2 sm_pi2⟩
  | 3, _ => ⟨rfl, sm_clok0 sm_pk3 sm_pt3 sm_pn3 sm_pi3⟩
  | 4, _ => ⟨rfl, sm_clok0 sm_pk4 sm_pt4 sm_pn4 sm_pi4⟩
  | 5, _ => ⟨rfl, sm_clok0 sm_pk5 sm_pt5 sm_pn5 sm_pi5⟩
  | 6, _ => ⟨rfl, sm_clok0 sm_pk6 sm_pt6 sm_pn6 sm_pi6⟩
  | 7, _ => ⟨rfl, sm_clok0 sm_pk7 sm_pt7 sm_pn7 sm_pi7⟩
  | 8, _ => ⟨rfl, sm_clok0 sm_pk8 sm_pt8 sm_pn8 sm_pi8⟩
  | 9, _ => ⟨rfl, sm_clok0 sm_pk9 sm_pt9 sm_pn9 sm_pi9⟩
  | 10, _ => ⟨rfl, sm_clok0 sm_pk10 sm_pt10 sm_pn10 sm_pi10⟩
  | 11, _ => ⟨rfl, sm_clok0 sm_pk11 sm_pt11 sm_pn11 sm_pi11⟩
  | 12, _ => ⟨rfl, sm_clok0 sm_pk12 sm_pt12 sm_pn12 sm_pi12⟩
  | n + 13, h => absurd h (by unfold sm_nc; omega)
theorem sm_clok : ∀ ci, ci < sm_nc → sm_cl[ci]? = some (sm_cn ci, sm_ft ci, sm_nf ci) ∧ (∀ w ∈ u_ws (sm_cn ci) (sm_ft ci) (sm_nf ci), w ∈ sm_gws) ∧ (∀ k, k < sm_nf ci → parseFieldDescriptor (sm_ft ci k).2.2.1 = some (sm_ty ci k)) ∧ (∀ a, a < sm_nf ci → ∀ b, b < sm_nf ci → a ≠ b → (sm_ft ci a).2.1 ≠ (sm_ft ci b).2.1) ∧ Cond.instantiable (sm_cn ci) (sm_nf ci) ∈ sm_gws ∧ Cond.initialized (sm_cn ci) ∈ sm_gws := fun ci h => by
  obtain ⟨h1, h2, h3, h4, h5, h6, -⟩ := sm_clokA ci h
  exact ⟨h1, h2, h3, h4, h5, h6⟩
theorem sm_tyok : ∀ ci, ci < sm_nc → ∀ k, k < sm_nf ci → sm_isR (sm_ty ci k) = true ∨ sm_ty ci k = .int ∨ sm_ty ci k = .boolean := fun ci h => (sm_clokA ci h).2.2.2.2.2.2
theorem sm_arr_lt {ci : Nat} (h : ci ∈ sm_arrs) : ci < sm_nc := by
  have h1 : ∀ x ∈ sm_arrs, x < sm_nc := by decide
  exact h1 ci h
theorem sm_w_oi : Cond.instanceMethod Lib.objectInit ∈ sm_gws := sm_gw (pos := 103) (by decide +kernel) rfl
theorem sm_w_oc : Cond.code Lib.objectInit ⟨#[0xb1]⟩ 1 none ∈ sm_gws := sm_gw (pos := 104) (by decide +kernel) rfl
theorem sm_w_ms : Cond.static Lib.Math.max.name ∈ sm_gws := sm_gw (pos := 112) (by decide +kernel) rfl
theorem sm_w_mc : Cond.code Lib.Math.max.name Lib.Math.max.code 2 (some .int) ∈ sm_gws := sm_gw (pos := 113) (by decide +kernel) rfl
theorem sm_w_ns : Cond.static Lib.Math.min.name ∈ sm_gws := sm_gw (pos := 458) (by decide +kernel) rfl
theorem sm_w_nc : Cond.code Lib.Math.min.name Lib.Math.min.code 2 (some .int) ∈ sm_gws := sm_gw (pos := 459) (by decide +kernel) rfl
theorem sm_w_mi : Cond.initialized "java/lang/Math" ∈ sm_gws := sm_gw (pos := 84) (by decide +kernel) rfl
theorem sm_w_cn : Cond.native arraycopyName ∈ sm_gws := sm_gw (pos := 921) (by decide +kernel) rfl
theorem sm_w_cs : Cond.static arraycopyName ∈ sm_gws := sm_gw (pos := 920) (by decide +kernel) rfl
theorem sm_w_ci : Cond.initialized "java/lang/System" ∈ sm_gws := sm_gw (pos := 96) (by decide +kernel) rfl
theorem sm_w_ai : Cond.arrayClass .int ∈ sm_gws := sm_gw (pos := 126) (by decide +kernel) rfl
theorem sm_w_ab : Cond.arrayClass .boolean ∈ sm_gws := sm_gw (pos := 1448) (by decide +kernel) rfl
theorem sm_nfw : nativeFrameWords "java/lang/System" "arraycopy" 5 + 11 ≤ 35 := by decide
def sm_yp : List (Nat × Nat × Nat × Nat) := [(101, 82, 100, 0), (480, 82, 478, 479), (484, 82, 483, 0), (488, 82, 486, 487), (504, 82, 502, 503), (519, 82, 517, 518), (583, 82, 581, 582), (688, 82, 686, 687), (700, 82, 698, 699), (730, 82, 728, 729), (734, 82, 732, 733), (747, 82, 745, 746), (1116, 82, 1114, 1115), (1126, 82, 1124, 1125), (1120, 82, 1119, 40), (1130, 82, 1128, 1129), (1138, 82, 1136, 1137), (1142, 82, 1140, 1141), (1147, 82, 1145, 1146), (1151, 82, 1149, 1150), (1156, 82, 1154, 1155), (507, 82, 506, 0), (510, 82, 509, 0), (522, 82, 521, 0), (790, 82, 789, 0), (849, 82, 848, 0), (806, 82, 805, 0), (874, 82, 873, 0), (949, 82, 948, 0), (109, 83, 108, 0), (492, 83, 490, 491), (575, 83, 573, 574), (500, 83, 499, 1), (496, 83, 494, 495), (721, 83, 719, 720), (717, 83, 715, 716), (725, 83, 723, 724), (189, 87, 188, 0), (779, 87, 777, 778), (787, 87, 786, 9), (783, 87, 782, 8), (798, 87, 797, 10), (802, 87, 801, 11), (817, 87, 816, 13), (810, 87, 809, 12), (813, 87, 812, 0), (821, 87, 819, 820), (825, 87, 824, 14), (829, 87, 828, 15), (838, 87, 837, 17), (842, 87, 841, 18), (833, 87, 832, 16), (219, 89, 218, 0), (889, 89, 887, 888), (900, 89, 899, 20), (862, 89, 860, 861), (969, 89, 967, 968), (942, 89, 940, 941), (946, 89, 945, 26), (211, 88, 210, 0), (515, 88, 513, 514), (526, 88, 524, 525), (530, 88, 528, 529), (595, 88, 593, 594), (692, 88, 690, 691), (866, 88, 864, 865), (871, 88, 869, 870), (853, 88, 851, 852), (858, 88, 857, 19), (938, 88, 937, 25), (965, 88, 964, 27), (908, 88, 906, 907), (912, 88, 911, 21), (933, 88, 932, 24), (916, 88, 915, 22), (925, 88, 924, 23), (904, 88, 902, 903), (953, 88, 951, 952), (534, 94, 533, 0), (571, 94, 569, 570), (579, 94, 577, 578), (957, 94, 955, 956), (880, 94, 878, 879), (973, 94, 971, 972), (344, 90, 343, 0), (591, 90, 589, 590), (684, 90, 683, 4), (704, 90, 702, 703), (739, 90, 737, 738), (614, 90, 613, 3), (601, 90, 599, 600), (609, 90, 608, 2), (696, 90, 694, 695), (751, 90, 749, 750), (1112, 90, 1110, 1111), (978, 90, 976, 977), (986, 90, 985, 29), (982, 90, 981, 28), (1006, 90, 1005, 32), (1002, 90, 1001, 31), (998, 90, 997, 30), (1010, 90, 1008, 1009), (1080, 90, 1079, 38), (1084, 90, 1083, 39), (138, 86, 137, 0), (759, 86, 757, 758), (846, 86, 844, 845), (794, 86, 792, 793), (894, 86, 892, 893), (1037, 86, 1035, 1036), (1052, 86, 1050, 1051), (394, 92, 393, 0), (605, 92, 603, 604), (743, 92, 741, 742), (709, 92, 707, 708), (990, 92, 988, 989), (1097, 92, 1095, 1096), (1103, 92, 1101, 1102), (354, 91, 353, 0), (1107, 91, 1105, 1106), (994, 91, 992, 993), (619, 95, 618, 0), (680, 95, 678, 679), (713, 95, 711, 712), (1092, 95, 1090, 1091), (1088, 95, 1086, 1087), (1014, 95, 1012, 1013), (1018, 95, 1016, 1017), (1023, 95, 1021, 1022), (1042, 95, 1041, 33), (1027, 95, 1025, 1026), (1032, 95, 1030, 1031), (1057, 95, 1055, 1056), (1066, 95, 1065, 35), (1076, 95, 1075, 37), (1072, 95, 1071, 36), (1062, 95, 1061, 34), (131, 85, 130, 0), (587, 85, 585, 586), (771, 85, 770, 6), (1134, 85, 1132, 1133), (775, 85, 774, 7), (755, 85, 753, 754), (763, 85, 761, 762), (767, 85, 766, 5), (1047, 85, 1045, 1046), (1160, 85, 1158, 1159), (1168, 85, 1167, 41), (1164, 85, 1162, 1163), (1172, 85, 1170, 1171), (1180, 93, 1179, 0), (1456, 93, 1455, 42), (1452, 93, 1450, 1451), (1460, 93, 1458, 1459), (1505, 93, 1504, 48), (1473, 93, 1472, 43), (1538, 93, 1537, 53), (1542, 93, 1541, 54), (1534, 93, 1533, 52), (1530, 93, 1529, 51), (1559, 93, 1558, 58), (1547, 93, 1546, 55), (1551, 93, 1550, 56), (1555, 93, 1554, 57), (1607, 93, 1606, 69), (1595, 93, 1594, 66), (1603, 93, 1602, 68), (1599, 93, 1598, 67), (1567, 93, 1566, 60), (1575, 93, 1574, 62), (1563, 93, 1562, 59), (1571, 93, 1570, 61), (1581, 93, 1580, 63), (1585, 93, 1584, 64), (1591, 93, 1590, 65), (1489, 93, 1488, 46), (1485, 93, 1484, 45), (1501, 93, 1500, 47), (1526, 93, 1525, 50), (1623, 93, 1622, 73), (1619, 93, 1618, 72), (1628, 93, 1627, 74), (1632, 93, 1631, 75), (1636, 93, 1635, 76), (1644, 93, 1643, 78), (1615, 93, 1614, 71), (1611, 93, 1610, 70), (1640, 93, 1639, 77), (1481, 93, 1480, 44), (1648, 93, 1647, 79), (1652, 93, 1651, 80), (1522, 93, 1521, 49), (1464, 93, 1462, 1463), (1469, 93, 1467, 1468), (1477, 93, 1475, 1476), (1493, 93, 1491, 1492), (1497, 93, 1495, 1496), (1509, 93, 1507, 1508), (1513, 93, 1511, 1512), (1518, 93, 1516, 1517), (1656, 93, 1654, 1655), (1660, 93, 1658, 1659), (1664, 93, 1662, 1663), (1668, 93, 1666, 1667), (1672, 93, 1670, 1671), (1676, 93, 1674, 1675), (1680, 93, 1678, 1679), (1684, 93, 1682, 1683), (1175, 81, 1174, 0)]
def sm_cq (n : MethodName) (k : Nat) (r : Option FieldType) (w : Option Cond) : Bool := match w with
  | some (.code n2 _ k2 r2) => decide (n2 = n ∧ k2 = k ∧ r2 = r)
  | _ => false
theorem sm_cqo {n : MethodName} {k : Nat} {r : Option FieldType} {w : Option Cond} (h : sm_cq n k r w = true) : w = some (Cond.code n (sm_cb w) k r) := by
  unfold sm_cq at h
  split at h
  · obtain ⟨rfl, rfl, rfl⟩ := of_decide_eq_true h
    rfl
  · cases h
def sm_yc (y : Nat) : Bool := plainName (sm_yn y).cls && (sm_cq (sm_yn y) (sm_mx y) (sm_rt y) lw_tbl[sm_cp.getD y 0]? && (decide (lw_tbl[(sm_yp.getD y (0, 0, 0, 0)).2.1]? = some (Cond.initialized (sm_yn y).cls)) && (decide ((sm_yn y).cls ≠ "java/lang/invoke/MethodHandle" ∧ (sm_yn y).cls ≠ "java/lang/invoke/VarHandle" ∧ (parseMethodDescriptor (sm_yn y).desc).map (fun d => d.parameters.length) = some (sm_np y)) && (decide (sm_mx y ≤ 24) && (decide (sm_ii y = true → (sm_yn y).name = "<init>") && (bif sm_st y then decide (lw_tbl[(sm_yp.getD y (0, 0, 0, 0)).2.2.1]? = some (Cond.static (sm_yn y))) && decide (sm_np y ≤ sm_mx y) else decide (lw_tbl[(sm_yp.getD y (0, 0, 0, 0)).2.2.1]? = some (Cond.instanceMethod (sm_yn y))) && (decide (sm_np y + 1 ≤ sm_mx y) && (sm_ii y || decide (lw_tbl[(sm_yp.getD y (0, 0, 0, 0)).2.2.2]? = some (Cond.selects (sm_yn y).cls (sm_yn y) (sm_yn y)))))))))))
theorem sm_ya0 : (List.range 30).all (fun k => sm_yc (0 + k)) = true := by decide +kernel
theorem sm_ya1 : (List.range 30).all (fun k => sm_yc (30 + k)) = true := by decide +kernel
theorem sm_ya2 : (List.range 30).all (fun k => sm_yc (60 + k)) = true := by decide +kernel
theorem sm_ya3 : (List.range 30).all (fun k => sm_yc (90 + k)) = true := by decide +kernel
theorem sm_ya4 : (List.range 30).all (fun k => sm_yc (120 + k)) = true := by decide +kernel
theorem sm_ya5 : (List.range 30).all (fun k => sm_yc (150 + k)) = true := by decide +kernel
theorem sm_ya6 : (List.range 29).all (fun k => sm_yc (180 + k)) = true := by decide +kernel
theorem sm_yall : ∀ y, y < sm_nm → sm_yc y = true := by
  intro y hy
  have hy : y < 209 := hy
  by_cases h0 : y < 30
  · have h := List.all_eq_true.mp sm_ya0 (y - 0) (List.mem_range.mpr (by omega))
    rw [show 0 + (y - 0) = y by omega] at h
    exact h
  by_cases h1 : y < 60
  · have h := List.all_eq_true.mp sm_ya1 (y - 30) (List.mem_range.mpr (by omega))
    rw [show 30 + (y - 30) = y by omega] at h
    exact h
  by_cases h2 : y < 90
  · have h := List.all_eq_true.mp sm_ya2 (y - 60) (List.mem_range.mpr (by omega))
    rw [show 60 + (y - 60) = y by omega] at h
    exact h
  by_cases h3 : y < 120
  · have h := List.all_eq_true.mp sm_ya3 (y - 90) (List.mem_range.mpr (by omega))
    rw [show 90 + (y - 90) = y by omega] at h
    exact h
  by_cases h4 : y < 150
  · have h := List.all_eq_true.mp sm_ya4 (y - 120) (List.mem_range.mpr (by omega))
    rw [show 120 + (y - 120) = y by omega] at h
    exact h
  by_cases h5 : y < 180
  · have h := List.all_eq_true.mp sm_ya5 (y - 150) (List.mem_range.mpr (by omega))
    rw [show 150 + (y - 150) = y by omega] at h
    exact h
  by_cases h6 : y < 209
  · have h := List.all_eq_true.mp sm_ya6 (y - 180) (List.mem_range.mpr (by omega))
    rw [show 180 + (y - 180) = y by omega] at h
    exact h
  omega
theorem sm_mok : ∀ y, y < sm_nm → plainName (sm_yn y).cls = true ∧ Cond.code (sm_yn y) (sm_by y) (sm_mx y) (sm_rt y) ∈ sm_gws ∧ Cond.initialized (sm_yn y).cls ∈ sm_gws ∧ ((sm_yn y).cls ≠ "java/lang/invoke/MethodHandle" ∧ (sm_yn y).cls ≠ "java/lang/invoke/VarHandle" ∧ (parseMethodDescriptor (sm_yn y).desc).map (fun d => d.parameters.length) = some (sm_np y)) ∧ sm_mx y ≤ 24 ∧ (sm_yn y).cls = sm_ow y ∧ (sm_ii y = true → (sm_yn y).name = "<init>") ∧ (bif sm_st y then (Cond.static (sm_yn y) ∈ sm_gws ∧ sm_np y ≤ sm_mx y) else (Cond.instanceMethod (sm_yn y) ∈ sm_gws ∧ sm_np y + 1 ≤ sm_mx y ∧ (sm_ii y = false → Cond.selects (sm_yn y).cls (sm_yn y) (sm_yn y) ∈ sm_gws))) := by
  intro y hy
  have h := sm_yall y hy
  unfold sm_yc at h
  rw [Bool.and_eq_true, Bool.and_eq_true, Bool.and_eq_true, Bool.and_eq_true, Bool.and_eq_true, Bool.and_eq_true, decide_eq_true_eq, decide_eq_true_eq, decide_eq_true_eq, decide_eq_true_eq] at h
  obtain ⟨h1, h2, h3, h4, h5, h6, h7⟩ := h
  have hy9 : y < 209 := hy
  have h2 := sm_cqo h2
  rw [show sm_cb lw_tbl[sm_cp.getD y 0]? = sm_by y by unfold sm_by; rw [if_pos hy9]] at h2
  refine ⟨h1, sm_gw h2 rfl, sm_gw h3 rfl, h4, h5, rfl, h6, ?_⟩
  cases hs : sm_st y with
  | true =>
    rw [hs] at h7
    simp only [cond_true, Bool.and_eq_true, decide_eq_true_eq] at h7
    exact ⟨sm_gw h7.1 rfl, h7.2⟩
  | false =>
    rw [hs] at h7
    simp only [cond_false, Bool.and_eq_true, Bool.or_eq_true, decide_eq_true_eq] at h7
    refine ⟨sm_gw h7.1 rfl, h7.2.1, fun hi => ?_⟩
    rcases h7.2.2 with h | h
    · rw [hi] at h; cases h
    · exact sm_gw h rfl
