theorem zz_c1 (i : Nat) {w : Cond} (h : tables_1_1[i]? = some w) (g : goodWord w = true) : w ∈ zz_T := zz_m (List.mem_append_right _ (List.mem_append_left _ (List.mem_of_getElem? h))) g
theorem zz_d1 (i : Nat) {w : Cond} (h : tables_1_1[i]? = some w) (g : zz_isN w = true) : w ∈ zz_nw := List.mem_filter.mpr ⟨List.mem_append_right _ (List.mem_append_left _ (List.mem_of_getElem? h)), g⟩
theorem zz_c2 (i : Nat) {w : Cond} (h : tables_1_2[i]? = some w) (g : goodWord w = true) : w ∈ zz_T := zz_m (List.mem_append_right _ (List.mem_append_right _ (List.mem_append_left _ (List.mem_of_getElem? h)))) g
theorem zz_d2 (i : Nat) {w : Cond} (h : tables_1_2[i]? = some w) (g : zz_isN w = true) : w ∈ zz_nw := List.mem_filter.mpr ⟨List.mem_append_right _ (List.mem_append_right _ (List.mem_append_left _ (List.mem_of_getElem? h))), g⟩
theorem zz_c3 (i : Nat) {w : Cond} (h : tables_1_3[i]? = some w) (g : goodWord w = true) : w ∈ zz_T := zz_m (List.mem_append_right _ (List.mem_append_right _ (List.mem_append_right _ (List.mem_append_left _ (List.mem_of_getElem? h))))) g
theorem zz_d3 (i : Nat) {w : Cond} (h : tables_1_3[i]? = some w) (g : zz_isN w = true) : w ∈ zz_nw := List.mem_filter.mpr ⟨List.mem_append_right _ (List.mem_append_right _ (List.mem_append_right _ (List.mem_append_left _ (List.mem_of_getElem? h)))), g⟩
theorem zz_c4 (i : Nat) {w : Cond} (h : tables_1_4[i]? = some w) (g : goodWord w = true) : w ∈ zz_T := zz_m (List.mem_append_right _ (List.mem_append_right _ (List.mem_append_right _ (List.mem_append_right _ (List.mem_append_left _ (List.mem_of_getElem? h)))))) g
theorem zz_d4 (i : Nat) {w : Cond} (h : tables_1_4[i]? = some w) (g : zz_isN w = true) : w ∈ zz_nw := List.mem_filter.mpr ⟨List.mem_append_right _ (List.mem_append_right _ (List.mem_append_right _ (List.mem_append_right _ (List.mem_append_left _ (List.mem_of_getElem? h))))), g⟩
theorem zz_c5 (i : Nat) {w : Cond} (h : tables_1_5[i]? = some w) (g : goodWord w = true) : w ∈ zz_T := zz_m (List.mem_append_right _ (List.mem_append_right _ (List.mem_append_right _ (List.mem_append_right _ (List.mem_append_right _ (List.mem_append_left _ (List.mem_of_getElem? h))))))) g
theorem zz_d5 (i : Nat) {w : Cond} (h : tables_1_5[i]? = some w) (g : zz_isN w = true) : w ∈ zz_nw := List.mem_filter.mpr ⟨List.mem_append_right _ (List.mem_append_right _ (List.mem_append_right _ (List.mem_append_right _ (List.mem_append_right _ (List.mem_append_left _ (List.mem_of_getElem? h)))))), g⟩
theorem zz_c6 (i : Nat) {w : Cond} (h : tables_1_6[i]? = some w) (g : goodWord w = true) : w ∈ zz_T := zz_m (List.mem_append_right _ (List.mem_append_right _ (List.mem_append_right _ (List.mem_append_right _ (List.mem_append_right _ (List.mem_append_right _ (List.mem_append_left _ (List.mem_of_getElem? h)))))))) g
theorem zz_d6 (i : Nat) {w : Cond} (h : tables_1_6[i]? = some w) (g : zz_isN w = true) : w ∈ zz_nw := List.mem_filter.mpr ⟨List.mem_append_right _ (List.mem_append_right _ (List.mem_append_right _ (List.mem_append_right _ (List.mem_append_right _ (List.mem_append_right _ (List.mem_append_left _ (List.mem_of_getElem? h))))))), g⟩
theorem zz_c7 (i : Nat) {w : Cond} (h : tables_1_7[i]? = some w) (g : goodWord w = true) : w ∈ zz_T := zz_m (List.mem_append_right _ (List.mem_append_right _ (List.mem_append_right _ (List.mem_append_right _ (List.mem_append_right _ (List.mem_append_right _ (List.mem_append_right _ (List.mem_append_left _ (List.mem_of_getElem? h))))))))) g
theorem zz_d7 (i : Nat) {w : Cond} (h : tables_1_7[i]? = some w) (g : zz_isN w = true) : w ∈ zz_nw := List.mem_filter.mpr ⟨List.mem_append_right _ (List.mem_append_right _ (List.mem_append_right _ (List.mem_append_right _ (List.mem_append_right _ (List.mem_append_right _ (List.mem_append_right _ (List.mem_append_left _ (List.mem_of_getElem? h)))))))), g⟩
theorem zz_c8 (i : Nat) {w : Cond} (h : tables_1_8[i]? = some w) (g : goodWord w = true) : w ∈ zz_T := zz_m (List.mem_append_right _ (List.mem_append_right _ (List.mem_append_right _ (List.mem_append_right _ (List.mem_append_right _ (List.mem_append_right _ (List.mem_append_right _ (List.mem_append_right _ (List.mem_of_getElem? h))))))))) g
theorem zz_d8 (i : Nat) {w : Cond} (h : tables_1_8[i]? = some w) (g : zz_isN w = true) : w ∈ zz_nw := List.mem_filter.mpr ⟨List.mem_append_right _ (List.mem_append_right _ (List.mem_append_right _ (List.mem_append_right _ (List.mem_append_right _ (List.mem_append_right _ (List.mem_append_right _ (List.mem_append_right _ (List.mem_of_getElem? h)))))))), g⟩
theorem zz_sp {y : MethodName} {n : Nat} (h : (y, n) ∈ lw_privs) (g : goodWord (Cond.selects y.cls y y) = true) : Cond.selects y.cls y y ∈ zz_T := zz_m (List.mem_append_left _ (List.mem_map.mpr ⟨(y, n), h, rfl⟩)) g
theorem zz_s1 (i : Nat) {y : MethodName} {n : Nat} (h : lw_privs_1[i]? = some (y, n)) (g : goodWord (Cond.selects y.cls y y) = true) : Cond.selects y.cls y y ∈ zz_T := zz_sp (List.mem_append_left _ (List.mem_of_getElem? h)) g
theorem zz_s2 (i : Nat) {y : MethodName} {n : Nat} (h : lw_privs_2[i]? = some (y, n)) (g : goodWord (Cond.selects y.cls y y) = true) : Cond.selects y.cls y y ∈ zz_T := zz_sp (List.mem_append_right _ (List.mem_append_left _ (List.mem_of_getElem? h))) g
theorem zz_s3 (i : Nat) {y : MethodName} {n : Nat} (h : lw_privs_3[i]? = some (y, n)) (g : goodWord (Cond.selects y.cls y y) = true) : Cond.selects y.cls y y ∈ zz_T := zz_sp (List.mem_append_right _ (List.mem_append_right _ (List.mem_append_left _ (List.mem_of_getElem? h)))) g
theorem zz_s4 (i : Nat) {y : MethodName} {n : Nat} (h : lw_privs_4[i]? = some (y, n)) (g : goodWord (Cond.selects y.cls y y) = true) : Cond.selects y.cls y y ∈ zz_T := zz_sp (List.mem_append_right _ (List.mem_append_right _ (List.mem_append_right _ (List.mem_append_left _ (List.mem_of_getElem? h))))) g
theorem zz_s5 (i : Nat) {y : MethodName} {n : Nat} (h : lw_privs_5[i]? = some (y, n)) (g : goodWord (Cond.selects y.cls y y) = true) : Cond.selects y.cls y y ∈ zz_T := zz_sp (List.mem_append_right _ (List.mem_append_right _ (List.mem_append_right _ (List.mem_append_right _ (List.mem_append_left _ (List.mem_of_getElem? h)))))) g
theorem zz_s6 (i : Nat) {y : MethodName} {n : Nat} (h : lw_privs_6[i]? = some (y, n)) (g : goodWord (Cond.selects y.cls y y) = true) : Cond.selects y.cls y y ∈ zz_T := zz_sp (List.mem_append_right _ (List.mem_append_right _ (List.mem_append_right _ (List.mem_append_right _ (List.mem_append_right _ (List.mem_append_left _ (List.mem_of_getElem? h))))))) g
theorem zz_s7 (i : Nat) {y : MethodName} {n : Nat} (h : lw_privs_7[i]? = some (y, n)) (g : goodWord (Cond.selects y.cls y y) = true) : Cond.selects y.cls y y ∈ zz_T := zz_sp (List.mem_append_right _ (List.mem_append_right _ (List.mem_append_right _ (List.mem_append_right _ (List.mem_append_right _ (List.mem_append_right _ (List.mem_of_getElem? h))))))) g
theorem ipX0 : ∀ w ∈ u_ws RX0 TX0 4, w ∈ zz_T := by
  have h : u_ws RX0 TX0 4 = [256, 258, 260, 262].filterMap (fun i => tables_1[i]?) := by decide +kernel
  intro w hw
  have g : (u_ws RX0 TX0 4).all goodWord = true := by decide +kernel
  have g1 := List.all_eq_true.mp g w hw
  rw [h] at hw
  obtain ⟨i, -, hi⟩ := List.mem_filterMap.mp hw
  exact zz_t i hi g1
theorem kX0 : zz_CL 0 RX0 TX0 4 := ⟨rfl, ipX0, tyX0, tyX0_ok, nmX0⟩
theorem ipX1 : ∀ w ∈ u_ws RX1 TX1 5, w ∈ zz_T := by
  have h : u_ws RX1 TX1 5 = [276, 278, 280, 282, 284].filterMap (fun i => tables_1[i]?) := by decide +kernel
  intro w hw
  have g : (u_ws RX1 TX1 5).all goodWord = true := by decide +kernel
  have g1 := List.all_eq_true.mp g w hw
  rw [h] at hw
  obtain ⟨i, -, hi⟩ := List.mem_filterMap.mp hw
  exact zz_t i hi g1
theorem kX1 : zz_CL 1 RX1 TX1 5 := ⟨rfl, ipX1, tyX1, tyX1_ok, nmX1⟩
theorem ipX2 : ∀ w ∈ u_ws RX2 TX2 5, w ∈ zz_T := by
  have h : u_ws RX2 TX2 5 = [104, 106, 108, 110, 112].filterMap (fun i => tables_1[i]?) := by decide +kernel
  intro w hw
  have g : (u_ws RX2 TX2 5).all goodWord = true := by decide +kernel
  have g1 := List.all_eq_true.mp g w hw
  rw [h] at hw
  obtain ⟨i, -, hi⟩ := List.mem_filterMap.mp hw
  exact zz_t i hi g1
theorem kX2 : zz_CL 2 RX2 TX2 5 := ⟨rfl, ipX2, tyX2, tyX2_ok, nmX2⟩
theorem ipX3 : ∀ w ∈ u_ws RX3 TX3 3, w ∈ zz_T := by
  have h : u_ws RX3 TX3 3 = [300, 302, 304].filterMap (fun i => tables_1[i]?) := by decide +kernel
  intro w hw
  have g : (u_ws RX3 TX3 3).all goodWord = true := by decide +kernel
  have g1 := List.all_eq_true.mp g w hw
  rw [h] at hw
  obtain ⟨i, -, hi⟩ := List.mem_filterMap.mp hw
  exact zz_t i hi g1
theorem kX3 : zz_CL 3 RX3 TX3 3 := ⟨rfl, ipX3, tyX3, tyX3_ok, nmX3⟩
theorem ipX4 : ∀ w ∈ u_ws RX4 TX4 8, w ∈ zz_T := by
  have h : u_ws RX4 TX4 8 = [69, 71, 73, 75, 77, 79, 81, 83].filterMap (fun i => tables_1[i]?) := by decide +kernel
  intro w hw
  have g : (u_ws RX4 TX4 8).all goodWord = true := by decide +kernel
  have g1 := List.all_eq_true.mp g w hw
  rw [h] at hw
  obtain ⟨i, -, hi⟩ := List.mem_filterMap.mp hw
  exact zz_t i hi g1
theorem kX4 : zz_CL 4 RX4 TX4 8 := ⟨rfl, ipX4, tyX4, tyX4_ok, nmX4⟩
theorem ipX5 : ∀ w ∈ u_ws RX5 TX5 13, w ∈ zz_T := by
  have h : u_ws RX5 TX5 13 = [175, 177, 179, 181, 183, 185, 187, 189, 191, 193, 195, 197, 199].filterMap (fun i => tables_1[i]?) := by decide +kernel
  intro w hw
  have g : (u_ws RX5 TX5 13).all goodWord = true := by decide +kernel
  have g1 := List.all_eq_true.mp g w hw
  rw [h] at hw
  obtain ⟨i, -, hi⟩ := List.mem_filterMap.mp hw
  exact zz_t i hi g1
theorem kX5 : zz_CL 5 RX5 TX5 13 := ⟨rfl, ipX5, tyX5, tyX5_ok, nmX5⟩
theorem ipX6 : ∀ w ∈ u_ws RX6 TX6 7, w ∈ zz_T := by
  have h : u_ws RX6 TX6 7 = [227, 229, 231, 233, 235, 237, 239].filterMap (fun i => tables_1[i]?) := by decide +kernel
  intro w hw
  have g : (u_ws RX6 TX6 7).all goodWord = true := by decide +kernel
  have g1 := List.all_eq_true.mp g w hw
  rw [h] at hw
  obtain ⟨i, -, hi⟩ := List.mem_filterMap.mp hw
  exact zz_t i hi g1
theorem kX6 : zz_CL 6 RX6 TX6 7 := ⟨rfl, ipX6, tyX6, tyX6_ok, nmX6⟩
theorem ipX7 : ∀ w ∈ u_ws RX7 TX7 4, w ∈ zz_T := by
  have h : u_ws RX7 TX7 4 = [48, 50, 52, 54].filterMap (fun i => tables_1[i]?) := by decide +kernel
  intro w hw
  have g : (u_ws RX7 TX7 4).all goodWord = true := by decide +kernel
  have g1 := List.all_eq_true.mp g w hw
  rw [h] at hw
  obtain ⟨i, -, hi⟩ := List.mem_filterMap.mp hw
  exact zz_t i hi g1
theorem kX7 : zz_CL 7 RX7 TX7 4 := ⟨rfl, ipX7, tyX7, tyX7_ok, nmX7⟩
theorem ipX8 : ∀ w ∈ u_ws RX8 TX8 4, w ∈ zz_T := by
  have h : u_ws RX8 TX8 4 = [318, 320, 322, 324].filterMap (fun i => tables_1[i]?) := by decide +kernel
  intro w hw
  have g : (u_ws RX8 TX8 4).all goodWord = true := by decide +kernel
  have g1 := List.all_eq_true.mp g w hw
  rw [h] at hw
  obtain ⟨i, -, hi⟩ := List.mem_filterMap.mp hw
  exact zz_t i hi g1
theorem kX8 : zz_CL 8 RX8 TX8 4 := ⟨rfl, ipX8, tyX8, tyX8_ok, nmX8⟩
theorem ipX9 : ∀ w ∈ u_ws RX9 TX9 14, w ∈ zz_T := by
  have h : u_ws RX9 TX9 14 = [342, 344, 346, 348, 350, 352, 354, 356, 358, 360, 362, 364, 366, 368].filterMap (fun i => tables_1[i]?) := by decide +kernel
  intro w hw
  have g : (u_ws RX9 TX9 14).all goodWord = true := by decide +kernel
  have g1 := List.all_eq_true.mp g w hw
  rw [h] at hw
  obtain ⟨i, -, hi⟩ := List.mem_filterMap.mp hw
  exact zz_t i hi g1
theorem kX9 : zz_CL 9 RX9 TX9 14 := ⟨rfl, ipX9, tyX9, tyX9_ok, nmX9⟩
theorem ipX10 : ∀ w ∈ u_ws RX10 TX10 67, w ∈ zz_T := by
  have h : u_ws RX10 TX10 67 = [1164, 1166, 1168, 1170, 1172, 1174, 1176, 1178, 1180, 1182, 1184, 1186, 1188, 1190, 1192, 1194, 1196, 1198, 1200, 1202, 1204, 1206, 1208, 1210, 1212, 1214, 1216, 1218, 1220, 1222, 1224, 1226, 1228, 1230, 1232, 1234, 1236, 1238, 1240, 1242, 1244, 1246, 1248, 1250, 1252, 1254, 1256, 1258, 1260, 1262, 1264, 1266, 1268, 1270, 1272, 1274, 1276, 1278, 1280, 1282, 1284, 1286, 1288, 1290, 1292, 1294, 1296].filterMap (fun i => tables_1[i]?) := by decide +kernel
  intro w hw
  have g : (u_ws RX10 TX10 67).all goodWord = true := by decide +kernel
  have g1 := List.all_eq_true.mp g w hw
  rw [h] at hw
  obtain ⟨i, -, hi⟩ := List.mem_filterMap.mp hw
  exact zz_t i hi g1
theorem kX10 : zz_CL 10 RX10 TX10 67 := ⟨rfl, ipX10, tyX10, tyX10_ok, nmX10⟩
theorem fgX9_9 : zz_FL RX9 9 9 0 := ⟨_, _, _, kX9, by decide, Or.inl (zz_c2 88 rfl rfl)⟩
theorem fgX9_13 : zz_FL RX9 13 9 1 := ⟨_, _, _, kX9, by decide, Or.inl (zz_c2 89 rfl rfl)⟩
theorem fgX9_20 : zz_FL RX9 20 9 2 := ⟨_, _, _, kX9, by decide, Or.inl (zz_c2 90 rfl rfl)⟩
theorem fgX9_24 : zz_FL RX9 24 9 3 := ⟨_, _, _, kX9, by decide, Or.inl (zz_c2 91 rfl rfl)⟩
theorem fgX9_30 : zz_FL RX9 30 9 4 := ⟨_, _, _, kX9, by decide, Or.inl (zz_c2 92 rfl rfl)⟩
theorem fgX9_34 : zz_FL RX9 34 9 5 := ⟨_, _, _, kX9, by decide, Or.inl (zz_c2 93 rfl rfl)⟩
theorem fgX9_40 : zz_FL RX9 40 9 6 := ⟨_, _, _, kX9, by decide, Or.inl (zz_c2 94 rfl rfl)⟩
theorem fgX9_44 : zz_FL RX9 44 9 7 := ⟨_, _, _, kX9, by decide, Or.inl (zz_c2 95 rfl rfl)⟩
theorem fgX9_50 : zz_FL RX9 50 9 8 := ⟨_, _, _, kX9, by decide, Or.inl (zz_c2 96 rfl rfl)⟩
theorem fgX9_57 : zz_FL RX9 57 9 9 := ⟨_, _, _, kX9, by decide, Or.inl (zz_c2 97 rfl rfl)⟩
theorem fgX9_64 : zz_FL RX9 64 9 10 := ⟨_, _, _, kX9, by decide, Or.inl (zz_c2 98 rfl rfl)⟩
theorem fgX9_71 : zz_FL RX9 71 9 11 := ⟨_, _, _, kX9, by decide, Or.inl (zz_c2 99 rfl rfl)⟩
theorem fgX9_75 : zz_FL RX9 75 9 12 := ⟨_, _, _, kX9, by decide, Or.inl (zz_c2 100 rfl rfl)⟩
theorem fgX9_79 : zz_FL RX9 79 9 13 := ⟨_, _, _, kX9, by decide, Or.inl (zz_c2 101 rfl rfl)⟩
theorem fgX9_91 : zz_FL RX9 91 4 5 := ⟨_, _, _, kX4, by decide, Or.inr ⟨"UnderstudyShow", zz_d1 66 rfl rfl⟩⟩
theorem fgX9_105 : zz_FL RX9 105 5 9 := ⟨_, _, _, kX5, by decide, Or.inr ⟨"UnderstudyShow", zz_d1 160 rfl rfl⟩⟩
theorem fgX9_108 : zz_FL RX9 108 5 10 := ⟨_, _, _, kX5, by decide, Or.inr ⟨"UnderstudyShow", zz_d1 165 rfl rfl⟩⟩
theorem fgX9_125 : zz_FL RX9 125 6 0 := ⟨_, _, _, kX6, by decide, Or.inr ⟨"UnderstudyShow", zz_d1 210 rfl rfl⟩⟩
theorem fgX9_129 : zz_FL RX9 129 5 2 := ⟨_, _, _, kX5, by decide, Or.inr ⟨"UnderstudyShow", zz_d1 143 rfl rfl⟩⟩
theorem fgX9_132 : zz_FL RX9 132 5 3 := ⟨_, _, _, kX5, by decide, Or.inr ⟨"UnderstudyShow", zz_d1 145 rfl rfl⟩⟩
theorem fgX9_135 : zz_FL RX9 135 6 2 := ⟨_, _, _, kX6, by decide, Or.inr ⟨"UnderstudyShow", zz_d1 216 rfl rfl⟩⟩
theorem fgX9_145 : zz_FL RX9 145 0 1 := ⟨_, _, _, kX0, by decide, Or.inr ⟨"UnderstudyShow", zz_d2 11 rfl rfl⟩⟩
theorem fgX9_157 : zz_FL RX9 157 6 1 := ⟨_, _, _, kX6, by decide, Or.inr ⟨"UnderstudyShow", zz_d1 214 rfl rfl⟩⟩
theorem fgX9_160 : zz_FL RX9 160 5 5 := ⟨_, _, _, kX5, by decide, Or.inr ⟨"UnderstudyShow", zz_d1 150 rfl rfl⟩⟩
theorem fgX9_163 : zz_FL RX9 163 5 6 := ⟨_, _, _, kX5, by decide, Or.inr ⟨"UnderstudyShow", zz_d1 152 rfl rfl⟩⟩
theorem fgX9_166 : zz_FL RX9 166 0 0 := ⟨_, _, _, kX0, by decide, Or.inr ⟨"UnderstudyShow", zz_d2 9 rfl rfl⟩⟩
theorem fgX9_169 : zz_FL RX9 169 5 4 := ⟨_, _, _, kX5, by decide, Or.inr ⟨"UnderstudyShow", zz_d1 148 rfl rfl⟩⟩
theorem fgX9_187 : zz_FL RX9 187 6 4 := ⟨_, _, _, kX6, by decide, Or.inr ⟨"UnderstudyShow", zz_d1 219 rfl rfl⟩⟩
theorem fgX9_190 : zz_FL RX9 190 5 12 := ⟨_, _, _, kX5, by decide, Or.inr ⟨"UnderstudyShow", zz_d1 174 rfl rfl⟩⟩
theorem fgX9_197 : zz_FL RX9 197 6 5 := ⟨_, _, _, kX6, by decide, Or.inr ⟨"UnderstudyShow", zz_d1 223 rfl rfl⟩⟩
theorem fgX9_207 : zz_FL RX9 207 0 3 := ⟨_, _, _, kX0, by decide, Or.inr ⟨"UnderstudyShow", zz_d2 15 rfl rfl⟩⟩
theorem fgX9_220 : zz_FL RX9 220 5 11 := ⟨_, _, _, kX5, by decide, Or.inr ⟨"UnderstudyShow", zz_d1 171 rfl rfl⟩⟩
theorem fgX9_261 : zz_FL RX9 261 0 2 := ⟨_, _, _, kX0, by decide, Or.inr ⟨"UnderstudyShow", zz_d2 13 rfl rfl⟩⟩
theorem fgX9_278 : zz_FL RX9 278 8 3 := ⟨_, _, _, kX8, by decide, Or.inr ⟨"UnderstudyShow", zz_d2 77 rfl rfl⟩⟩
theorem fgX9_303 : zz_FL RX9 303 6 6 := ⟨_, _, _, kX6, by decide, Or.inr ⟨"UnderstudyShow", zz_d1 226 rfl rfl⟩⟩
theorem fgX9_306 : zz_FL RX9 306 3 2 := ⟨_, _, _, kX3, by decide, Or.inr ⟨"UnderstudyShow", zz_d2 59 rfl rfl⟩⟩
theorem fpX9_9 : zz_FF RX9 9 9 0 (.array .byte) := ⟨_, _, _, kX9, by decide, (zz_c2 88 rfl rfl), rfl, by decide +kernel, rfl⟩
theorem fpX9_13 : zz_FP RX9 13 9 1 .int := ⟨_, _, _, kX9, by decide, Or.inl (zz_c2 89 rfl rfl), rfl, by decide +kernel⟩
theorem fpX9_20 : zz_FF RX9 20 9 2 (.object "UnderstudyShow$Reader") := ⟨_, _, _, kX9, by decide, (zz_c2 90 rfl rfl), rfl, by decide +kernel, rfl⟩
theorem fpX9_24 : zz_FP RX9 24 9 3 .int := ⟨_, _, _, kX9, by decide, Or.inl (zz_c2 91 rfl rfl), rfl, by decide +kernel⟩
theorem fpX9_30 : zz_FP RX9 30 9 4 (.object "UnderstudyShow$Script") := ⟨_, _, _, kX9, by decide, Or.inl (zz_c2 92 rfl rfl), rfl, by decide +kernel⟩
theorem fpX9_34 : zz_FP RX9 34 9 5 (.object "UnderstudyShow$Script") := ⟨_, _, _, kX9, by decide, Or.inl (zz_c2 93 rfl rfl), rfl, by decide +kernel⟩
theorem fpX9_40 : zz_FF RX9 40 9 6 (.object "UnderstudyShow$State") := ⟨_, _, _, kX9, by decide, (zz_c2 94 rfl rfl), rfl, by decide +kernel, rfl⟩
theorem fpX9_44 : zz_FF RX9 44 9 7 (.object "UnderstudyShow$State") := ⟨_, _, _, kX9, by decide, (zz_c2 95 rfl rfl), rfl, by decide +kernel, rfl⟩
theorem fpX9_50 : zz_FF RX9 50 9 8 (.object "UnderstudyShow$Cast") := ⟨_, _, _, kX9, by decide, (zz_c2 96 rfl rfl), rfl, by decide +kernel, rfl⟩
theorem fpX9_57 : zz_FF RX9 57 9 9 (.object "UnderstudyShow$Giving") := ⟨_, _, _, kX9, by decide, (zz_c2 97 rfl rfl), rfl, by decide +kernel, rfl⟩
theorem fpX9_64 : zz_FF RX9 64 9 10 (.object "UnderstudyShow$Past") := ⟨_, _, _, kX9, by decide, (zz_c2 98 rfl rfl), rfl, by decide +kernel, rfl⟩
theorem fpX9_71 : zz_FF RX9 71 9 11 (.object "UnderstudyShow$Told") := ⟨_, _, _, kX9, by decide, (zz_c2 99 rfl rfl), rfl, by decide +kernel, rfl⟩
theorem fpX9_75 : zz_FF RX9 75 9 12 (.array (.object "UnderstudyShow$State")) := ⟨_, _, _, kX9, by decide, (zz_c2 100 rfl rfl), rfl, by decide +kernel, rfl⟩
theorem fpX9_79 : zz_FF RX9 79 9 13 (.array .boolean) := ⟨_, _, _, kX9, by decide, (zz_c2 101 rfl rfl), rfl, by decide +kernel, rfl⟩
theorem fpX9_187 : zz_FP RX9 187 6 4 .int := ⟨_, _, _, kX6, by decide, Or.inr ⟨"UnderstudyShow", zz_d1 219 rfl rfl⟩, rfl, by decide +kernel⟩
theorem fgX0_9 : zz_FL RX0 9 0 0 := ⟨_, _, _, kX0, by decide, Or.inl (zz_c2 8 rfl rfl)⟩
theorem fgX0_15 : zz_FL RX0 15 0 1 := ⟨_, _, _, kX0, by decide, Or.inl (zz_c2 10 rfl rfl)⟩
theorem fgX0_18 : zz_FL RX0 18 0 2 := ⟨_, _, _, kX0, by decide, Or.inl (zz_c2 12 rfl rfl)⟩
theorem fgX0_22 : zz_FL RX0 22 0 3 := ⟨_, _, _, kX0, by decide, Or.inl (zz_c2 14 rfl rfl)⟩
theorem fgX0_25 : zz_FL RX0 25 5 10 := ⟨_, _, _, kX5, by decide, Or.inr ⟨"UnderstudyShow", zz_d1 164 rfl rfl⟩⟩
theorem fgX0_34 : zz_FL RX0 34 5 9 := ⟨_, _, _, kX5, by decide, Or.inr ⟨"UnderstudyShow", zz_d1 158 rfl rfl⟩⟩
theorem fgX0_47 : zz_FL RX0 47 5 11 := ⟨_, _, _, kX5, by decide, Or.inr ⟨"UnderstudyShow", zz_d1 168 rfl rfl⟩⟩
theorem fgX0_58 : zz_FL RX0 58 6 5 := ⟨_, _, _, kX6, by decide, Or.inr ⟨"UnderstudyShow", zz_d1 221 rfl rfl⟩⟩
theorem fgX0_61 : zz_FL RX0 61 6 1 := ⟨_, _, _, kX6, by decide, Or.inr ⟨"UnderstudyShow", zz_d1 213 rfl rfl⟩⟩
theorem fgX0_84 : zz_FL RX0 84 6 6 := ⟨_, _, _, kX6, by decide, Or.inr ⟨"UnderstudyShow", zz_d1 225 rfl rfl⟩⟩
theorem fpX0_9 : zz_FF RX0 9 0 0 (.array .int) := ⟨_, _, _, kX0, by decide, (zz_c2 8 rfl rfl), rfl, by decide +kernel, rfl⟩
theorem fpX0_15 : zz_FF RX0 15 0 1 (.array .int) := ⟨_, _, _, kX0, by decide, (zz_c2 10 rfl rfl), rfl, by decide +kernel, rfl⟩
theorem fpX0_18 : zz_FP RX0 18 0 2 .int := ⟨_, _, _, kX0, by decide, Or.inl (zz_c2 12 rfl rfl), rfl, by decide +kernel⟩
theorem fpX0_22 : zz_FP RX0 22 0 3 .int := ⟨_, _, _, kX0, by decide, Or.inl (zz_c2 14 rfl rfl), rfl, by decide +kernel⟩
theorem fpX0_58 : zz_FP RX0 58 6 5 .int := ⟨_, _, _, kX6, by decide, Or.inr ⟨"UnderstudyShow", zz_d1 221 rfl rfl⟩, rfl, by decide +kernel⟩
theorem fpX0_84 : zz_FP RX0 84 6 6 .int := ⟨_, _, _, kX6, by decide, Or.inr ⟨"UnderstudyShow", zz_d1 225 rfl rfl⟩, rfl, by decide +kernel⟩
theorem fgX1_9 : zz_FL RX1 9 1 0 := ⟨_, _, _, kX1, by decide, Or.inl (zz_c2 31 rfl rfl)⟩
theorem fgX1_15 : zz_FL RX1 15 1 1 := ⟨_, _, _, kX1, by decide, Or.inl (zz_c2 32 rfl rfl)⟩
theorem fgX1_18 : zz_FL RX1 18 1 2 := ⟨_, _, _, kX1, by decide, Or.inl (zz_c2 33 rfl rfl)⟩
theorem fgX1_21 : zz_FL RX1 21 1 3 := ⟨_, _, _, kX1, by decide, Or.inl (zz_c2 34 rfl rfl)⟩
theorem fgX1_25 : zz_FL RX1 25 1 4 := ⟨_, _, _, kX1, by decide, Or.inl (zz_c2 35 rfl rfl)⟩
theorem fgX1_28 : zz_FL RX1 28 5 9 := ⟨_, _, _, kX5, by decide, Or.inr ⟨"UnderstudyShow", zz_d1 157 rfl rfl⟩⟩
theorem fgX1_31 : zz_FL RX1 31 5 10 := ⟨_, _, _, kX5, by decide, Or.inr ⟨"UnderstudyShow", zz_d1 163 rfl rfl⟩⟩
theorem fgX1_32 : zz_FL RX1 32 5 11 := ⟨_, _, _, kX5, by decide, Or.inr ⟨"UnderstudyShow", zz_d1 169 rfl rfl⟩⟩
theorem fpX1_9 : zz_FF RX1 9 1 0 (.array .int) := ⟨_, _, _, kX1, by decide, (zz_c2 31 rfl rfl), rfl, by decide +kernel, rfl⟩
theorem fpX1_15 : zz_FF RX1 15 1 1 (.array .int) := ⟨_, _, _, kX1, by decide, (zz_c2 32 rfl rfl), rfl, by decide +kernel, rfl⟩
theorem fpX1_18 : zz_FF RX1 18 1 2 (.array .int) := ⟨_, _, _, kX1, by decide, (zz_c2 33 rfl rfl), rfl, by decide +kernel, rfl⟩
theorem fpX1_21 : zz_FP RX1 21 1 3 .int := ⟨_, _, _, kX1, by decide, Or.inl (zz_c2 34 rfl rfl), rfl, by decide +kernel⟩
theorem fpX1_25 : zz_FP RX1 25 1 4 .int := ⟨_, _, _, kX1, by decide, Or.inl (zz_c2 35 rfl rfl), rfl, by decide +kernel⟩
theorem fgX2_9 : zz_FL RX2 9 2 0 := ⟨_, _, _, kX2, by decide, Or.inl (zz_c1 99 rfl rfl)⟩
theorem fgX2_13 : zz_FL RX2 13 2 1 := ⟨_, _, _, kX2, by decide, Or.inl (zz_c1 100 rfl rfl)⟩
theorem fgX2_16 : zz_FL RX2 16 2 2 := ⟨_, _, _, kX2, by decide, Or.inl (zz_c1 101 rfl rfl)⟩
theorem fgX2_19 : zz_FL RX2 19 2 3 := ⟨_, _, _, kX2, by decide, Or.inl (zz_c1 102 rfl rfl)⟩
theorem fgX2_23 : zz_FL RX2 23 2 4 := ⟨_, _, _, kX2, by decide, Or.inl (zz_c1 103 rfl rfl)⟩
theorem fpX2_9 : zz_FF RX2 9 2 0 (.array .int) := ⟨_, _, _, kX2, by decide, (zz_c1 99 rfl rfl), rfl, by decide +kernel, rfl⟩
theorem fpX2_13 : zz_FF RX2 13 2 1 (.array .int) := ⟨_, _, _, kX2, by decide, (zz_c1 100 rfl rfl), rfl, by decide +kernel, rfl⟩
theorem fpX2_16 : zz_FF RX2 16 2 2 (.array .int) := ⟨_, _, _, kX2, by decide, (zz_c1 101 rfl rfl), rfl, by decide +kernel, rfl⟩
theorem fpX2_19 : zz_FP RX2 19 2 3 .int := ⟨_, _, _, kX2, by decide, Or.inl (zz_c1 102 rfl rfl), rfl, by decide +kernel⟩
theorem fpX2_23 : zz_FP RX2 23 2 4 .int := ⟨_, _, _, kX2, by decide, Or.inl (zz_c1 103 rfl rfl), rfl, by decide +kernel⟩
theorem fgX3_11 : zz_FL RX3 11 3 0 := ⟨_, _, _, kX3, by decide, Or.inl (zz_c2 56 rfl rfl)⟩
theorem fgX3_15 : zz_FL RX3 15 3 1 := ⟨_, _, _, kX3, by decide, Or.inl (zz_c2 57 rfl rfl)⟩
theorem fgX3_19 : zz_FL RX3 19 3 2 := ⟨_, _, _, kX3, by decide, Or.inl (zz_c2 58 rfl rfl)⟩
theorem fpX3_11 : zz_FF RX3 11 3 0 (.array (.object "UnderstudyShow$State")) := ⟨_, _, _, kX3, by decide, (zz_c2 56 rfl rfl), rfl, by decide +kernel, rfl⟩
theorem fpX3_15 : zz_FP RX3 15 3 1 .int := ⟨_, _, _, kX3, by decide, Or.inl (zz_c2 57 rfl rfl), rfl, by decide +kernel⟩
theorem fpX3_19 : zz_FP RX3 19 3 2 .int := ⟨_, _, _, kX3, by decide, Or.inl (zz_c2 58 rfl rfl), rfl, by decide +kernel⟩
theorem fgX4_12 : zz_FL RX4 12 4 0 := ⟨_, _, _, kX4, by decide, Or.inl (zz_c1 60 rfl rfl)⟩
theorem fgX4_20 : zz_FL RX4 20 4 1 := ⟨_, _, _, kX4, by decide, Or.inl (zz_c1 61 rfl rfl)⟩
theorem fgX4_24 : zz_FL RX4 24 4 2 := ⟨_, _, _, kX4, by decide, Or.inl (zz_c1 62 rfl rfl)⟩
theorem fgX4_28 : zz_FL RX4 28 4 3 := ⟨_, _, _, kX4, by decide, Or.inl (zz_c1 63 rfl rfl)⟩
theorem fgX4_31 : zz_FL RX4 31 4 4 := ⟨_, _, _, kX4, by decide, Or.inl (zz_c1 64 rfl rfl)⟩
theorem fgX4_37 : zz_FL RX4 37 4 6 := ⟨_, _, _, kX4, by decide, Or.inl (zz_c1 67 rfl rfl)⟩
theorem fgX4_40 : zz_FL RX4 40 4 7 := ⟨_, _, _, kX4, by decide, Or.inl (zz_c1 68 rfl rfl)⟩
theorem fgX4_60 : zz_FL RX4 60 7 0 := ⟨_, _, _, kX7, by decide, Or.inr ⟨"UnderstudyShow", zz_d1 41 rfl rfl⟩⟩
theorem fgX4_63 : zz_FL RX4 63 7 1 := ⟨_, _, _, kX7, by decide, Or.inr ⟨"UnderstudyShow", zz_d1 43 rfl rfl⟩⟩
theorem fgX4_77 : zz_FL RX4 77 5 7 := ⟨_, _, _, kX5, by decide, Or.inr ⟨"UnderstudyShow", zz_d1 154 rfl rfl⟩⟩
theorem fgX4_98 : zz_FL RX4 98 5 9 := ⟨_, _, _, kX5, by decide, Or.inr ⟨"UnderstudyShow", zz_d1 161 rfl rfl⟩⟩
theorem fgX4_101 : zz_FL RX4 101 5 10 := ⟨_, _, _, kX5, by decide, Or.inr ⟨"UnderstudyShow", zz_d1 166 rfl rfl⟩⟩
theorem fgX4_115 : zz_FL RX4 115 7 3 := ⟨_, _, _, kX7, by decide, Or.inr ⟨"UnderstudyShow", zz_d1 47 rfl rfl⟩⟩
theorem fgX4_126 : zz_FL RX4 126 7 2 := ⟨_, _, _, kX7, by decide, Or.inr ⟨"UnderstudyShow", zz_d1 45 rfl rfl⟩⟩
theorem fpX4_12 : zz_FF RX4 12 4 0 (.object "UnderstudyShow$Tokens") := ⟨_, _, _, kX4, by decide, (zz_c1 60 rfl rfl), rfl, by decide +kernel, rfl⟩
theorem fpX4_20 : zz_FF RX4 20 4 1 (.array .int) := ⟨_, _, _, kX4, by decide, (zz_c1 61 rfl rfl), rfl, by decide +kernel, rfl⟩
theorem fpX4_24 : zz_FP RX4 24 4 2 .int := ⟨_, _, _, kX4, by decide, Or.inl (zz_c1 62 rfl rfl), rfl, by decide +kernel⟩
theorem fpX4_28 : zz_FP RX4 28 4 3 .int := ⟨_, _, _, kX4, by decide, Or.inl (zz_c1 63 rfl rfl), rfl, by decide +kernel⟩
theorem fpX4_31 : zz_FP RX4 31 4 4 .int := ⟨_, _, _, kX4, by decide, Or.inl (zz_c1 64 rfl rfl), rfl, by decide +kernel⟩
theorem fpX4_34 : zz_FP RX4 34 4 5 .int := ⟨_, _, _, kX4, by decide, Or.inl (zz_c1 65 rfl rfl), rfl, by decide +kernel⟩
theorem fpX4_37 : zz_FP RX4 37 4 6 .int := ⟨_, _, _, kX4, by decide, Or.inl (zz_c1 67 rfl rfl), rfl, by decide +kernel⟩
theorem fpX4_40 : zz_FP RX4 40 4 7 .int := ⟨_, _, _, kX4, by decide, Or.inl (zz_c1 68 rfl rfl), rfl, by decide +kernel⟩
theorem fpX4_89 : zz_FP RX4 89 5 11 .int := ⟨_, _, _, kX5, by decide, Or.inr ⟨"UnderstudyShow", zz_d1 170 rfl rfl⟩, rfl, by decide +kernel⟩
theorem fpX4_95 : zz_FP RX4 95 5 12 .int := ⟨_, _, _, kX5, by decide, Or.inr ⟨"UnderstudyShow", zz_d1 173 rfl rfl⟩, rfl, by decide +kernel⟩
theorem fgX5_9 : zz_FL RX5 9 5 0 := ⟨_, _, _, kX5, by decide, Or.inl (zz_c1 139 rfl rfl)⟩
theorem fgX5_15 : zz_FL RX5 15 5 1 := ⟨_, _, _, kX5, by decide, Or.inl (zz_c1 140 rfl rfl)⟩
theorem fgX5_19 : zz_FL RX5 19 5 2 := ⟨_, _, _, kX5, by decide, Or.inl (zz_c1 142 rfl rfl)⟩
theorem fgX5_22 : zz_FL RX5 22 5 3 := ⟨_, _, _, kX5, by decide, Or.inl (zz_c1 144 rfl rfl)⟩
theorem fgX5_25 : zz_FL RX5 25 5 4 := ⟨_, _, _, kX5, by decide, Or.inl (zz_c1 146 rfl rfl)⟩
theorem fgX5_28 : zz_FL RX5 28 5 5 := ⟨_, _, _, kX5, by decide, Or.inl (zz_c1 149 rfl rfl)⟩
theorem fgX5_31 : zz_FL RX5 31 5 6 := ⟨_, _, _, kX5, by decide, Or.inl (zz_c1 151 rfl rfl)⟩
theorem fgX5_36 : zz_FL RX5 36 5 7 := ⟨_, _, _, kX5, by decide, Or.inl (zz_c1 153 rfl rfl)⟩
theorem fgX5_40 : zz_FL RX5 40 5 8 := ⟨_, _, _, kX5, by decide, Or.inl (zz_c1 155 rfl rfl)⟩
theorem fgX5_43 : zz_FL RX5 43 5 9 := ⟨_, _, _, kX5, by decide, Or.inl (zz_c1 156 rfl rfl)⟩
theorem fgX5_47 : zz_FL RX5 47 5 10 := ⟨_, _, _, kX5, by decide, Or.inl (zz_c1 162 rfl rfl)⟩
theorem fgX5_68 : zz_FL RX5 68 6 0 := ⟨_, _, _, kX6, by decide, Or.inr ⟨"UnderstudyShow", zz_d1 209 rfl rfl⟩⟩
theorem fgX5_71 : zz_FL RX5 71 6 1 := ⟨_, _, _, kX6, by decide, Or.inr ⟨"UnderstudyShow", zz_d1 212 rfl rfl⟩⟩
theorem fgX5_82 : zz_FL RX5 82 6 5 := ⟨_, _, _, kX6, by decide, Or.inr ⟨"UnderstudyShow", zz_d1 222 rfl rfl⟩⟩
theorem fpX5_9 : zz_FF RX5 9 5 0 (.array .long) := ⟨_, _, _, kX5, by decide, (zz_c1 139 rfl rfl), rfl, by decide +kernel, rfl⟩
theorem fpX5_15 : zz_FF RX5 15 5 1 (.array .int) := ⟨_, _, _, kX5, by decide, (zz_c1 140 rfl rfl), rfl, by decide +kernel, rfl⟩
theorem fpX5_19 : zz_FF RX5 19 5 2 (.array .int) := ⟨_, _, _, kX5, by decide, (zz_c1 142 rfl rfl), rfl, by decide +kernel, rfl⟩
theorem fpX5_22 : zz_FF RX5 22 5 3 (.array .int) := ⟨_, _, _, kX5, by decide, (zz_c1 144 rfl rfl), rfl, by decide +kernel, rfl⟩
theorem fpX5_25 : zz_FF RX5 25 5 4 (.array .int) := ⟨_, _, _, kX5, by decide, (zz_c1 146 rfl rfl), rfl, by decide +kernel, rfl⟩
theorem fpX5_28 : zz_FF RX5 28 5 5 (.array .int) := ⟨_, _, _, kX5, by decide, (zz_c1 149 rfl rfl), rfl, by decide +kernel, rfl⟩
theorem fpX5_31 : zz_FF RX5 31 5 6 (.array .int) := ⟨_, _, _, kX5, by decide, (zz_c1 151 rfl rfl), rfl, by decide +kernel, rfl⟩
theorem fpX5_36 : zz_FF RX5 36 5 7 (.array (.object "UnderstudyShow$Law")) := ⟨_, _, _, kX5, by decide, (zz_c1 153 rfl rfl), rfl, by decide +kernel, rfl⟩
theorem fpX5_40 : zz_FF RX5 40 5 8 (.array .int) := ⟨_, _, _, kX5, by decide, (zz_c1 155 rfl rfl), rfl, by decide +kernel, rfl⟩
theorem fpX5_43 : zz_FP RX5 43 5 9 .int := ⟨_, _, _, kX5, by decide, Or.inl (zz_c1 156 rfl rfl), rfl, by decide +kernel⟩
theorem fpX5_47 : zz_FP RX5 47 5 10 .int := ⟨_, _, _, kX5, by decide, Or.inl (zz_c1 162 rfl rfl), rfl, by decide +kernel⟩
theorem fpX5_50 : zz_FP RX5 50 5 11 .int := ⟨_, _, _, kX5, by decide, Or.inl (zz_c1 167 rfl rfl), rfl, by decide +kernel⟩
theorem fpX5_53 : zz_FP RX5 53 5 12 .int := ⟨_, _, _, kX5, by decide, Or.inl (zz_c1 172 rfl rfl), rfl, by decide +kernel⟩
theorem fgX6_9 : zz_FL RX6 9 6 0 := ⟨_, _, _, kX6, by decide, Or.inl (zz_c1 208 rfl rfl)⟩
theorem fgX6_15 : zz_FL RX6 15 6 1 := ⟨_, _, _, kX6, by decide, Or.inl (zz_c1 211 rfl rfl)⟩
theorem fgX6_18 : zz_FL RX6 18 6 2 := ⟨_, _, _, kX6, by decide, Or.inl (zz_c1 215 rfl rfl)⟩
theorem fgX6_21 : zz_FL RX6 21 6 3 := ⟨_, _, _, kX6, by decide, Or.inl (zz_c1 217 rfl rfl)⟩
theorem fgX6_24 : zz_FL RX6 24 6 4 := ⟨_, _, _, kX6, by decide, Or.inl (zz_c1 218 rfl rfl)⟩
theorem fgX6_28 : zz_FL RX6 28 6 5 := ⟨_, _, _, kX6, by decide, Or.inl (zz_c1 220 rfl rfl)⟩
theorem fgX6_31 : zz_FL RX6 31 6 6 := ⟨_, _, _, kX6, by decide, Or.inl (zz_c1 224 rfl rfl)⟩
theorem fgX6_34 : zz_FL RX6 34 5 1 := ⟨_, _, _, kX5, by decide, Or.inr ⟨"UnderstudyShow", zz_d1 141 rfl rfl⟩⟩
theorem fgX6_43 : zz_FL RX6 43 5 4 := ⟨_, _, _, kX5, by decide, Or.inr ⟨"UnderstudyShow", zz_d1 147 rfl rfl⟩⟩
theorem fpX6_9 : zz_FF RX6 9 6 0 (.array .int) := ⟨_, _, _, kX6, by decide, (zz_c1 208 rfl rfl), rfl, by decide +kernel, rfl⟩
theorem fpX6_15 : zz_FF RX6 15 6 1 (.array .int) := ⟨_, _, _, kX6, by decide, (zz_c1 211 rfl rfl), rfl, by decide +kernel, rfl⟩
theorem fpX6_18 : zz_FF RX6 18 6 2 (.array .int) := ⟨_, _, _, kX6, by decide, (zz_c1 215 rfl rfl), rfl, by decide +kernel, rfl⟩
theorem fpX6_21 : zz_FF RX6 21 6 3 (.array .int) := ⟨_, _, _, kX6, by decide, (zz_c1 217 rfl rfl), rfl, by decide +kernel, rfl⟩
theorem fpX6_24 : zz_FP RX6 24 6 4 .int := ⟨_, _, _, kX6, by decide, Or.inl (zz_c1 218 rfl rfl), rfl, by decide +kernel⟩
theorem fpX6_28 : zz_FP RX6 28 6 5 .int := ⟨_, _, _, kX6, by decide, Or.inl (zz_c1 220 rfl rfl), rfl, by decide +kernel⟩
theorem fpX6_31 : zz_FP RX6 31 6 6 .int := ⟨_, _, _, kX6, by decide, Or.inl (zz_c1 224 rfl rfl), rfl, by decide +kernel⟩
theorem fgX7_9 : zz_FL RX7 9 7 0 := ⟨_, _, _, kX7, by decide, Or.inl (zz_c1 40 rfl rfl)⟩
theorem fgX7_13 : zz_FL RX7 13 7 1 := ⟨_, _, _, kX7, by decide, Or.inl (zz_c1 42 rfl rfl)⟩
theorem fgX7_16 : zz_FL RX7 16 7 2 := ⟨_, _, _, kX7, by decide, Or.inl (zz_c1 44 rfl rfl)⟩
theorem fgX7_19 : zz_FL RX7 19 7 3 := ⟨_, _, _, kX7, by decide, Or.inl (zz_c1 46 rfl rfl)⟩
theorem fpX7_9 : zz_FF RX7 9 7 0 (.array .int) := ⟨_, _, _, kX7, by decide, (zz_c1 40 rfl rfl), rfl, by decide +kernel, rfl⟩
theorem fpX7_13 : zz_FF RX7 13 7 1 (.array .int) := ⟨_, _, _, kX7, by decide, (zz_c1 42 rfl rfl), rfl, by decide +kernel, rfl⟩
theorem fpX7_16 : zz_FF RX7 16 7 2 (.array .int) := ⟨_, _, _, kX7, by decide, (zz_c1 44 rfl rfl), rfl, by decide +kernel, rfl⟩
theorem fpX7_19 : zz_FF RX7 19 7 3 (.array .long) := ⟨_, _, _, kX7, by decide, (zz_c1 46 rfl rfl), rfl, by decide +kernel, rfl⟩
theorem fgX8_11 : zz_FL RX8 11 8 0 := ⟨_, _, _, kX8, by decide, Or.inl (zz_c2 73 rfl rfl)⟩
theorem fgX8_15 : zz_FL RX8 15 8 1 := ⟨_, _, _, kX8, by decide, Or.inl (zz_c2 74 rfl rfl)⟩
theorem fgX8_18 : zz_FL RX8 18 8 2 := ⟨_, _, _, kX8, by decide, Or.inl (zz_c2 75 rfl rfl)⟩
theorem fgX8_22 : zz_FL RX8 22 8 3 := ⟨_, _, _, kX8, by decide, Or.inl (zz_c2 76 rfl rfl)⟩
theorem fgX8_26 : zz_FL RX8 26 5 9 := ⟨_, _, _, kX5, by decide, Or.inr ⟨"UnderstudyShow", zz_d1 159 rfl rfl⟩⟩
theorem fpX8_11 : zz_FF RX8 11 8 0 (.array .int) := ⟨_, _, _, kX8, by decide, (zz_c2 73 rfl rfl), rfl, by decide +kernel, rfl⟩
theorem fpX8_15 : zz_FF RX8 15 8 1 (.array .int) := ⟨_, _, _, kX8, by decide, (zz_c2 74 rfl rfl), rfl, by decide +kernel, rfl⟩
theorem fpX8_18 : zz_FF RX8 18 8 2 (.array .boolean) := ⟨_, _, _, kX8, by decide, (zz_c2 75 rfl rfl), rfl, by decide +kernel, rfl⟩
theorem fpX8_22 : zz_FP RX8 22 8 3 .int := ⟨_, _, _, kX8, by decide, Or.inl (zz_c2 76 rfl rfl), rfl, by decide +kernel⟩
theorem fgX10_13 : zz_FL RX10 13 10 1 := ⟨_, _, _, kX10, by decide, Or.inl (zz_c5 138 rfl rfl)⟩
theorem fgX10_17 : zz_FL RX10 17 10 3 := ⟨_, _, _, kX10, by decide, Or.inl (zz_c5 140 rfl rfl)⟩
theorem fgX10_20 : zz_FL RX10 20 10 5 := ⟨_, _, _, kX10, by decide, Or.inl (zz_c5 142 rfl rfl)⟩
theorem fgX10_24 : zz_FL RX10 24 10 6 := ⟨_, _, _, kX10, by decide, Or.inl (zz_c5 143 rfl rfl)⟩
theorem fgX10_27 : zz_FL RX10 27 10 7 := ⟨_, _, _, kX10, by decide, Or.inl (zz_c5 144 rfl rfl)⟩
theorem fgX10_30 : zz_FL RX10 30 10 8 := ⟨_, _, _, kX10, by decide, Or.inl (zz_c5 145 rfl rfl)⟩
theorem fgX10_34 : zz_FL RX10 34 10 9 := ⟨_, _, _, kX10, by decide, Or.inl (zz_c5 146 rfl rfl)⟩
theorem fgX10_37 : zz_FL RX10 37 10 17 := ⟨_, _, _, kX10, by decide, Or.inl (zz_c5 154 rfl rfl)⟩
theorem fgX10_40 : zz_FL RX10 40 10 21 := ⟨_, _, _, kX10, by decide, Or.inl (zz_c5 158 rfl rfl)⟩
theorem fgX10_43 : zz_FL RX10 43 10 22 := ⟨_, _, _, kX10, by decide, Or.inl (zz_c5 159 rfl rfl)⟩
theorem fgX10_46 : zz_FL RX10 46 10 23 := ⟨_, _, _, kX10, by decide, Or.inl (zz_c5 160 rfl rfl)⟩
theorem fgX10_49 : zz_FL RX10 49 10 24 := ⟨_, _, _, kX10, by decide, Or.inl (zz_c5 161 rfl rfl)⟩
theorem fgX10_52 : zz_FL RX10 52 10 25 := ⟨_, _, _, kX10, by decide, Or.inl (zz_c5 162 rfl rfl)⟩
theorem fgX10_55 : zz_FL RX10 55 10 26 := ⟨_, _, _, kX10, by decide, Or.inl (zz_c5 163 rfl rfl)⟩
theorem fgX10_58 : zz_FL RX10 58 10 27 := ⟨_, _, _, kX10, by decide, Or.inl (zz_c5 164 rfl rfl)⟩
theorem fgX10_61 : zz_FL RX10 61 10 28 := ⟨_, _, _, kX10, by decide, Or.inl (zz_c5 165 rfl rfl)⟩
theorem fgX10_64 : zz_FL RX10 64 10 29 := ⟨_, _, _, kX10, by decide, Or.inl (zz_c5 166 rfl rfl)⟩
theorem fgX10_67 : zz_FL RX10 67 10 30 := ⟨_, _, _, kX10, by decide, Or.inl (zz_c5 167 rfl rfl)⟩
theorem fgX10_70 : zz_FL RX10 70 10 31 := ⟨_, _, _, kX10, by decide, Or.inl (zz_c5 168 rfl rfl)⟩
theorem fgX10_73 : zz_FL RX10 73 10 32 := ⟨_, _, _, kX10, by decide, Or.inl (zz_c5 169 rfl rfl)⟩
theorem fgX10_76 : zz_FL RX10 76 10 33 := ⟨_, _, _, kX10, by decide, Or.inl (zz_c5 170 rfl rfl)⟩
theorem fgX10_79 : zz_FL RX10 79 10 35 := ⟨_, _, _, kX10, by decide, Or.inl (zz_c5 172 rfl rfl)⟩
theorem fgX10_83 : zz_FL RX10 83 10 36 := ⟨_, _, _, kX10, by decide, Or.inl (zz_c5 173 rfl rfl)⟩
theorem fgX10_86 : zz_FL RX10 86 10 37 := ⟨_, _, _, kX10, by decide, Or.inl (zz_c5 174 rfl rfl)⟩
theorem fgX10_89 : zz_FL RX10 89 10 38 := ⟨_, _, _, kX10, by decide, Or.inl (zz_c5 175 rfl rfl)⟩
theorem fgX10_92 : zz_FL RX10 92 10 39 := ⟨_, _, _, kX10, by decide, Or.inl (zz_c5 176 rfl rfl)⟩
theorem fgX10_95 : zz_FL RX10 95 10 41 := ⟨_, _, _, kX10, by decide, Or.inl (zz_c5 178 rfl rfl)⟩
theorem fgX10_98 : zz_FL RX10 98 10 42 := ⟨_, _, _, kX10, by decide, Or.inl (zz_c5 179 rfl rfl)⟩
theorem fgX10_101 : zz_FL RX10 101 10 43 := ⟨_, _, _, kX10, by decide, Or.inl (zz_c5 180 rfl rfl)⟩
theorem fgX10_104 : zz_FL RX10 104 10 45 := ⟨_, _, _, kX10, by decide, Or.inl (zz_c5 182 rfl rfl)⟩
theorem fgX10_107 : zz_FL RX10 107 10 46 := ⟨_, _, _, kX10, by decide, Or.inl (zz_c5 183 rfl rfl)⟩
theorem fgX10_110 : zz_FL RX10 110 10 48 := ⟨_, _, _, kX10, by decide, Or.inl (zz_c5 185 rfl rfl)⟩
theorem fgX10_113 : zz_FL RX10 113 10 49 := ⟨_, _, _, kX10, by decide, Or.inl (zz_c5 186 rfl rfl)⟩
theorem fgX10_116 : zz_FL RX10 116 10 52 := ⟨_, _, _, kX10, by decide, Or.inl (zz_c5 189 rfl rfl)⟩
theorem fgX10_119 : zz_FL RX10 119 10 53 := ⟨_, _, _, kX10, by decide, Or.inl (zz_c5 190 rfl rfl)⟩
theorem fgX10_122 : zz_FL RX10 122 10 54 := ⟨_, _, _, kX10, by decide, Or.inl (zz_c5 191 rfl rfl)⟩
theorem fgX10_125 : zz_FL RX10 125 10 55 := ⟨_, _, _, kX10, by decide, Or.inl (zz_c5 192 rfl rfl)⟩
theorem fgX10_128 : zz_FL RX10 128 10 57 := ⟨_, _, _, kX10, by decide, Or.inl (zz_c5 194 rfl rfl)⟩
theorem fgX10_131 : zz_FL RX10 131 10 58 := ⟨_, _, _, kX10, by decide, Or.inl (zz_c5 195 rfl rfl)⟩
theorem fgX10_134 : zz_FL RX10 134 10 59 := ⟨_, _, _, kX10, by decide, Or.inl (zz_c5 196 rfl rfl)⟩
theorem fgX10_137 : zz_FL RX10 137 10 60 := ⟨_, _, _, kX10, by decide, Or.inl (zz_c5 197 rfl rfl)⟩
theorem fgX10_140 : zz_FL RX10 140 10 62 := ⟨_, _, _, kX10, by decide, Or.inl (zz_c5 199 rfl rfl)⟩
theorem fgX10_143 : zz_FL RX10 143 10 63 := ⟨_, _, _, kX10, by decide, Or.inl (zz_c5 200 rfl rfl)⟩
theorem fgX10_146 : zz_FL RX10 146 10 64 := ⟨_, _, _, kX10, by decide, Or.inl (zz_c5 201 rfl rfl)⟩
theorem fgX10_149 : zz_FL RX10 149 10 65 := ⟨_, _, _, kX10, by decide, Or.inl (zz_c5 202 rfl rfl)⟩
theorem fgX10_152 : zz_FL RX10 152 10 66 := ⟨_, _, _, kX10, by decide, Or.inl (zz_c5 203 rfl rfl)⟩
theorem fgX10_169 : zz_FL RX10 169 10 2 := ⟨_, _, _, kX10, by decide, Or.inl (zz_c5 139 rfl rfl)⟩
theorem fgX10_175 : zz_FL RX10 175 10 4 := ⟨_, _, _, kX10, by decide, Or.inl (zz_c5 141 rfl rfl)⟩
theorem fgX10_184 : zz_FL RX10 184 10 10 := ⟨_, _, _, kX10, by decide, Or.inl (zz_c5 147 rfl rfl)⟩
theorem fgX10_206 : zz_FL RX10 206 10 13 := ⟨_, _, _, kX10, by decide, Or.inl (zz_c5 150 rfl rfl)⟩
theorem fgX10_209 : zz_FL RX10 209 10 11 := ⟨_, _, _, kX10, by decide, Or.inl (zz_c5 148 rfl rfl)⟩
theorem fgX10_212 : zz_FL RX10 212 10 14 := ⟨_, _, _, kX10, by decide, Or.inl (zz_c5 151 rfl rfl)⟩
theorem fgX10_215 : zz_FL RX10 215 10 15 := ⟨_, _, _, kX10, by decide, Or.inl (zz_c5 152 rfl rfl)⟩
theorem fgX10_218 : zz_FL RX10 218 10 16 := ⟨_, _, _, kX10, by decide, Or.inl (zz_c5 153 rfl rfl)⟩
theorem fgX10_233 : zz_FL RX10 233 10 12 := ⟨_, _, _, kX10, by decide, Or.inl (zz_c5 149 rfl rfl)⟩
theorem fgX10_236 : zz_FL RX10 236 10 18 := ⟨_, _, _, kX10, by decide, Or.inl (zz_c5 155 rfl rfl)⟩
theorem fgX10_239 : zz_FL RX10 239 10 19 := ⟨_, _, _, kX10, by decide, Or.inl (zz_c5 156 rfl rfl)⟩
theorem fgX10_242 : zz_FL RX10 242 10 20 := ⟨_, _, _, kX10, by decide, Or.inl (zz_c5 157 rfl rfl)⟩
theorem fgX10_245 : zz_FL RX10 245 10 34 := ⟨_, _, _, kX10, by decide, Or.inl (zz_c5 171 rfl rfl)⟩
theorem fgX10_248 : zz_FL RX10 248 10 40 := ⟨_, _, _, kX10, by decide, Or.inl (zz_c5 177 rfl rfl)⟩
theorem fgX10_254 : zz_FL RX10 254 10 56 := ⟨_, _, _, kX10, by decide, Or.inl (zz_c5 193 rfl rfl)⟩
theorem fgX10_257 : zz_FL RX10 257 10 61 := ⟨_, _, _, kX10, by decide, Or.inl (zz_c5 198 rfl rfl)⟩
theorem fgX10_293 : zz_FL RX10 293 10 44 := ⟨_, _, _, kX10, by decide, Or.inl (zz_c5 181 rfl rfl)⟩
theorem fgX10_306 : zz_FL RX10 306 10 47 := ⟨_, _, _, kX10, by decide, Or.inl (zz_c5 184 rfl rfl)⟩
theorem fgX10_317 : zz_FL RX10 317 10 50 := ⟨_, _, _, kX10, by decide, Or.inl (zz_c5 187 rfl rfl)⟩
theorem fgX10_320 : zz_FL RX10 320 10 51 := ⟨_, _, _, kX10, by decide, Or.inl (zz_c5 188 rfl rfl)⟩
theorem fpX10_13 : zz_FF RX10 13 10 1 (.array .byte) := ⟨_, _, _, kX10, by decide, (zz_c5 138 rfl rfl), rfl, by decide +kernel, rfl⟩
theorem fpX10_17 : zz_FF RX10 17 10 3 (.array .byte) := ⟨_, _, _, kX10, by decide, (zz_c5 140 rfl rfl), rfl, by decide +kernel, rfl⟩
theorem fpX10_20 : zz_FF RX10 20 10 5 (.array .int) := ⟨_, _, _, kX10, by decide, (zz_c5 142 rfl rfl), rfl, by decide +kernel, rfl⟩
theorem fpX10_24 : zz_FF RX10 24 10 6 (.array .int) := ⟨_, _, _, kX10, by decide, (zz_c5 143 rfl rfl), rfl, by decide +kernel, rfl⟩
theorem fpX10_27 : zz_FF RX10 27 10 7 (.array .int) := ⟨_, _, _, kX10, by decide, (zz_c5 144 rfl rfl), rfl, by decide +kernel, rfl⟩
theorem fpX10_30 : zz_FF RX10 30 10 8 (.array .long) := ⟨_, _, _, kX10, by decide, (zz_c5 145 rfl rfl), rfl, by decide +kernel, rfl⟩
theorem fpX10_34 : zz_FF RX10 34 10 9 (.array .long) := ⟨_, _, _, kX10, by decide, (zz_c5 146 rfl rfl), rfl, by decide +kernel, rfl⟩
theorem fpX10_37 : zz_FP RX10 37 10 17 .int := ⟨_, _, _, kX10, by decide, Or.inl (zz_c5 154 rfl rfl), rfl, by decide +kernel⟩
theorem fpX10_40 : zz_FF RX10 40 10 21 (.array .long) := ⟨_, _, _, kX10, by decide, (zz_c5 158 rfl rfl), rfl, by decide +kernel, rfl⟩
theorem fpX10_43 : zz_FF RX10 43 10 22 (.array .int) := ⟨_, _, _, kX10, by decide, (zz_c5 159 rfl rfl), rfl, by decide +kernel, rfl⟩
theorem fpX10_46 : zz_FF RX10 46 10 23 (.array .int) := ⟨_, _, _, kX10, by decide, (zz_c5 160 rfl rfl), rfl, by decide +kernel, rfl⟩
theorem fpX10_49 : zz_FF RX10 49 10 24 (.array .int) := ⟨_, _, _, kX10, by decide, (zz_c5 161 rfl rfl), rfl, by decide +kernel, rfl⟩
theorem fpX10_52 : zz_FF RX10 52 10 25 (.array .int) := ⟨_, _, _, kX10, by decide, (zz_c5 162 rfl rfl), rfl, by decide +kernel, rfl⟩
theorem fpX10_55 : zz_FF RX10 55 10 26 (.array .int) := ⟨_, _, _, kX10, by decide, (zz_c5 163 rfl rfl), rfl, by decide +kernel, rfl⟩
theorem fpX10_58 : zz_FF RX10 58 10 27 (.array .int) := ⟨_, _, _, kX10, by decide, (zz_c5 164 rfl rfl), rfl, by decide +kernel, rfl⟩
theorem fpX10_61 : zz_FF RX10 61 10 28 (.array .int) := ⟨_, _, _, kX10, by decide, (zz_c5 165 rfl rfl), rfl, by decide +kernel, rfl⟩
theorem fpX10_64 : zz_FF RX10 64 10 29 (.array .int) := ⟨_, _, _, kX10, by decide, (zz_c5 166 rfl rfl), rfl, by decide +kernel, rfl⟩
theorem fpX10_67 : zz_FF RX10 67 10 30 (.array .int) := ⟨_, _, _, kX10, by decide, (zz_c5 167 rfl rfl), rfl, by decide +kernel, rfl⟩
theorem fpX10_70 : zz_FF RX10 70 10 31 (.array .int) := ⟨_, _, _, kX10, by decide, (zz_c5 168 rfl rfl), rfl, by decide +kernel, rfl⟩
theorem fpX10_73 : zz_FF RX10 73 10 32 (.array .int) := ⟨_, _, _, kX10, by decide, (zz_c5 169 rfl rfl), rfl, by decide +kernel, rfl⟩
theorem fpX10_76 : zz_FF RX10 76 10 33 (.array .int) := ⟨_, _, _, kX10, by decide, (zz_c5 170 rfl rfl), rfl, by decide +kernel, rfl⟩
theorem fpX10_79 : zz_FF RX10 79 10 35 (.array .boolean) := ⟨_, _, _, kX10, by decide, (zz_c5 172 rfl rfl), rfl, by decide +kernel, rfl⟩
theorem fpX10_83 : zz_FF RX10 83 10 36 (.array .int) := ⟨_, _, _, kX10, by decide, (zz_c5 173 rfl rfl), rfl, by decide +kernel, rfl⟩
theorem fpX10_86 : zz_FF RX10 86 10 37 (.array .int) := ⟨_, _, _, kX10, by decide, (zz_c5 174 rfl rfl), rfl, by decide +kernel, rfl⟩
theorem fpX10_89 : zz_FF RX10 89 10 38 (.array .int) := ⟨_, _, _, kX10, by decide, (zz_c5 175 rfl rfl), rfl, by decide +kernel, rfl⟩
theorem fpX10_92 : zz_FF RX10 92 10 39 (.array .int) := ⟨_, _, _, kX10, by decide, (zz_c5 176 rfl rfl), rfl, by decide +kernel, rfl⟩
theorem fpX10_95 : zz_FF RX10 95 10 41 (.array .int) := ⟨_, _, _, kX10, by decide, (zz_c5 178 rfl rfl), rfl, by decide +kernel, rfl⟩
theorem fpX10_98 : zz_FF RX10 98 10 42 (.array .int) := ⟨_, _, _, kX10, by decide, (zz_c5 179 rfl rfl), rfl, by decide +kernel, rfl⟩
theorem fpX10_101 : zz_FF RX10 101 10 43 (.array .int) := ⟨_, _, _, kX10, by decide, (zz_c5 180 rfl rfl), rfl, by decide +kernel, rfl⟩
theorem fpX10_104 : zz_FF RX10 104 10 45 (.array .int) := ⟨_, _, _, kX10, by decide, (zz_c5 182 rfl rfl), rfl, by decide +kernel, rfl⟩
theorem fpX10_107 : zz_FF RX10 107 10 46 (.array .int) := ⟨_, _, _, kX10, by decide, (zz_c5 183 rfl rfl), rfl, by decide +kernel, rfl⟩
theorem fpX10_110 : zz_FF RX10 110 10 48 (.array .int) := ⟨_, _, _, kX10, by decide, (zz_c5 185 rfl rfl), rfl, by decide +kernel, rfl⟩
theorem fpX10_113 : zz_FF RX10 113 10 49 (.array .int) := ⟨_, _, _, kX10, by decide, (zz_c5 186 rfl rfl), rfl, by decide +kernel, rfl⟩
theorem fpX10_116 : zz_FF RX10 116 10 52 (.array .int) := ⟨_, _, _, kX10, by decide, (zz_c5 189 rfl rfl), rfl, by decide +kernel, rfl⟩
theorem fpX10_119 : zz_FF RX10 119 10 53 (.array .boolean) := ⟨_, _, _, kX10, by decide, (zz_c5 190 rfl rfl), rfl, by decide +kernel, rfl⟩
theorem fpX10_122 : zz_FF RX10 122 10 54 (.array .boolean) := ⟨_, _, _, kX10, by decide, (zz_c5 191 rfl rfl), rfl, by decide +kernel, rfl⟩
theorem fpX10_125 : zz_FF RX10 125 10 55 (.array .int) := ⟨_, _, _, kX10, by decide, (zz_c5 192 rfl rfl), rfl, by decide +kernel, rfl⟩
theorem fpX10_128 : zz_FF RX10 128 10 57 (.array .int) := ⟨_, _, _, kX10, by decide, (zz_c5 194 rfl rfl), rfl, by decide +kernel, rfl⟩
theorem fpX10_131 : zz_FF RX10 131 10 58 (.array .int) := ⟨_, _, _, kX10, by decide, (zz_c5 195 rfl rfl), rfl, by decide +kernel, rfl⟩
theorem fpX10_134 : zz_FF RX10 134 10 59 (.array .int) := ⟨_, _, _, kX10, by decide, (zz_c5 196 rfl rfl), rfl, by decide +kernel, rfl⟩
theorem fpX10_137 : zz_FF RX10 137 10 60 (.array .int) := ⟨_, _, _, kX10, by decide, (zz_c5 197 rfl rfl), rfl, by decide +kernel, rfl⟩
theorem fpX10_140 : zz_FF RX10 140 10 62 (.array .int) := ⟨_, _, _, kX10, by decide, (zz_c5 199 rfl rfl), rfl, by decide +kernel, rfl⟩
theorem fpX10_143 : zz_FF RX10 143 10 63 (.array .int) := ⟨_, _, _, kX10, by decide, (zz_c5 200 rfl rfl), rfl, by decide +kernel, rfl⟩
theorem fpX10_146 : zz_FF RX10 146 10 64 (.array .boolean) := ⟨_, _, _, kX10, by decide, (zz_c5 201 rfl rfl), rfl, by decide +kernel, rfl⟩
theorem fpX10_149 : zz_FF RX10 149 10 65 (.array .boolean) := ⟨_, _, _, kX10, by decide, (zz_c5 202 rfl rfl), rfl, by decide +kernel, rfl⟩
theorem fpX10_152 : zz_FF RX10 152 10 66 (.array .int) := ⟨_, _, _, kX10, by decide, (zz_c5 203 rfl rfl), rfl, by decide +kernel, rfl⟩
theorem fpX10_169 : zz_FP RX10 169 10 2 .int := ⟨_, _, _, kX10, by decide, Or.inl (zz_c5 139 rfl rfl), rfl, by decide +kernel⟩
theorem fpX10_175 : zz_FP RX10 175 10 4 .int := ⟨_, _, _, kX10, by decide, Or.inl (zz_c5 141 rfl rfl), rfl, by decide +kernel⟩
theorem fpX10_184 : zz_FP RX10 184 10 10 .int := ⟨_, _, _, kX10, by decide, Or.inl (zz_c5 147 rfl rfl), rfl, by decide +kernel⟩
theorem fpX10_206 : zz_FP RX10 206 10 13 .int := ⟨_, _, _, kX10, by decide, Or.inl (zz_c5 150 rfl rfl), rfl, by decide +kernel⟩
theorem fpX10_209 : zz_FP RX10 209 10 11 .int := ⟨_, _, _, kX10, by decide, Or.inl (zz_c5 148 rfl rfl), rfl, by decide +kernel⟩
theorem fpX10_212 : zz_FP RX10 212 10 14 .int := ⟨_, _, _, kX10, by decide, Or.inl (zz_c5 151 rfl rfl), rfl, by decide +kernel⟩
theorem fpX10_215 : zz_FP RX10 215 10 15 .int := ⟨_, _, _, kX10, by decide, Or.inl (zz_c5 152 rfl rfl), rfl, by decide +kernel⟩
theorem fpX10_218 : zz_FP RX10 218 10 16 .int := ⟨_, _, _, kX10, by decide, Or.inl (zz_c5 153 rfl rfl), rfl, by decide +kernel⟩
theorem fpX10_233 : zz_FP RX10 233 10 12 .int := ⟨_, _, _, kX10, by decide, Or.inl (zz_c5 149 rfl rfl), rfl, by decide +kernel⟩
theorem fpX10_236 : zz_FP RX10 236 10 18 .int := ⟨_, _, _, kX10, by decide, Or.inl (zz_c5 155 rfl rfl), rfl, by decide +kernel⟩
theorem fpX10_239 : zz_FP RX10 239 10 19 .int := ⟨_, _, _, kX10, by decide, Or.inl (zz_c5 156 rfl rfl), rfl, by decide +kernel⟩
theorem fpX10_242 : zz_FP RX10 242 10 20 .int := ⟨_, _, _, kX10, by decide, Or.inl (zz_c5 157 rfl rfl), rfl, by decide +kernel⟩
theorem fpX10_245 : zz_FP RX10 245 10 34 .int := ⟨_, _, _, kX10, by decide, Or.inl (zz_c5 171 rfl rfl), rfl, by decide +kernel⟩
theorem fpX10_248 : zz_FP RX10 248 10 40 .int := ⟨_, _, _, kX10, by decide, Or.inl (zz_c5 177 rfl rfl), rfl, by decide +kernel⟩
theorem fpX10_254 : zz_FP RX10 254 10 56 .int := ⟨_, _, _, kX10, by decide, Or.inl (zz_c5 193 rfl rfl), rfl, by decide +kernel⟩
theorem fpX10_257 : zz_FP RX10 257 10 61 .int := ⟨_, _, _, kX10, by decide, Or.inl (zz_c5 198 rfl rfl), rfl, by decide +kernel⟩
theorem fpX10_293 : zz_FP RX10 293 10 44 .int := ⟨_, _, _, kX10, by decide, Or.inl (zz_c5 181 rfl rfl), rfl, by decide +kernel⟩
theorem fpX10_306 : zz_FP RX10 306 10 47 .boolean := ⟨_, _, _, kX10, by decide, Or.inl (zz_c5 184 rfl rfl), rfl, by decide +kernel⟩
theorem fpX10_317 : zz_FP RX10 317 10 50 .int := ⟨_, _, _, kX10, by decide, Or.inl (zz_c5 187 rfl rfl), rfl, by decide +kernel⟩
theorem fpX10_320 : zz_FP RX10 320 10 51 .boolean := ⟨_, _, _, kX10, by decide, Or.inl (zz_c5 188 rfl rfl), rfl, by decide +kernel⟩
