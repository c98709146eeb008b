theorem wsin_X0 : ∀ w ∈ u_ws RX0 TX0 2, w ∈ ALL := inAs [110, 112] (by decide +kernel) (by decide +kernel)
theorem wsin_X1 : ∀ w ∈ u_ws RX1 TX1 4, w ∈ ALL := inAs [120, 122, 124, 126] (by decide +kernel) (by decide +kernel)
theorem wsin_X2 : ∀ w ∈ u_ws RX2 TX2 1, w ∈ ALL := inAs [185] (by decide +kernel) (by decide +kernel)
theorem wsin_X3 : ∀ w ∈ u_ws RX3 TX3 1, w ∈ ALL := inAs [220] (by decide +kernel) (by decide +kernel)
theorem wsin_X4 : ∀ w ∈ u_ws RX4 TX4 5, w ∈ ALL := inAs [470, 472, 474, 476, 478] (by decide +kernel) (by decide +kernel)
theorem wsin_X5 : ∀ w ∈ u_ws RX5 TX5 4, w ∈ ALL := inAs [234, 236, 238, 240] (by decide +kernel) (by decide +kernel)
theorem wsin_X6 : ∀ w ∈ u_ws RX6 TX6 10, w ∈ ALL := inAs [157, 159, 161, 163, 165, 167, 169, 171, 173, 175] (by decide +kernel) (by decide +kernel)
theorem wsin_X7 : ∀ w ∈ u_ws RX7 TX7 6, w ∈ ALL := inAs [200, 202, 204, 206, 208, 210] (by decide +kernel) (by decide +kernel)
theorem wsin_X8 : ∀ w ∈ u_ws RX8 TX8 9, w ∈ ALL := inAs [253, 255, 257, 259, 261, 263, 265, 267, 269] (by decide +kernel) (by decide +kernel)
theorem wsin_X9 : ∀ w ∈ u_ws RX9 TX9 29, w ∈ ALL := inAs [1162, 1164, 1166, 1168, 1170, 1172, 1174, 1176, 1178, 1180, 1182, 1184, 1186, 1188, 1190, 1192, 1194, 1196, 1198, 1200, 1202, 1204, 1206, 1208, 1210, 1212, 1214, 1216, 1218] (by decide +kernel) (by decide +kernel)
def m_X2_ageOf : MI := (⟨RX2, "ageOf", "(I)I"⟩, prog_4_method_3_code, 2, some .int)
theorem gy_X2_ageOf : goodY m_X2_ageOf 1 := ⟨inA 400 (by decide +kernel), by decide +kernel, plainFor_of_name (by decide +kernel)⟩
def m_X2_litOf : MI := (⟨RX2, "litOf", "(I)I"⟩, prog_4_method_4_code, 3, some .int)
theorem gy_X2_litOf : goodY m_X2_litOf 1 := ⟨inA 539 (by decide +kernel), by decide +kernel, plainFor_of_name (by decide +kernel)⟩
def m_X0_at : MI := (⟨RX0, "at", "(I)I"⟩, prog_2_method_5_code, 2, some .int)
theorem gy_X0_at : goodY m_X0_at 1 := ⟨inA 517 (by decide +kernel), by decide +kernel, plainFor_of_name (by decide +kernel)⟩
def m_X0_contains : MI := (⟨RX0, "contains", "(I)Z"⟩, prog_2_method_6_code, 3, some .boolean)
theorem gy_X0_contains : goodY m_X0_contains 1 := ⟨inA 526 (by decide +kernel), by decide +kernel, plainFor_of_name (by decide +kernel)⟩
def m_X1_lineAt : MI := (⟨RX1, "lineAt", "(I)I"⟩, prog_3_method_6_code, 2, some .int)
theorem gy_X1_lineAt : goodY m_X1_lineAt 1 := ⟨inA 436 (by decide +kernel), by decide +kernel, plainFor_of_name (by decide +kernel)⟩
def m_J9_max_7cf53 : MI := (⟨RJ9, "max", "(II)I"⟩, prog_13_method_65_code, 2, some .int)
theorem gy_J9_max_7cf53 : goodY m_J9_max_7cf53 2 := ⟨inA 107 (by decide +kernel), by decide +kernel, jm_plain rfl (by decide +kernel)⟩
def m_X1_overFrom : MI := (⟨RX1, "overFrom", "(I)I"⟩, prog_3_method_7_code, 5, some .int)
theorem gy_X1_overFrom : goodY m_X1_overFrom 1 := ⟨inA 432 (by decide +kernel), by decide +kernel, plainFor_of_name (by decide +kernel)⟩
def m_X9_in : MI := (⟨RX9, "in", "(JJJ)Z"⟩, prog_11_method_3_code, 6, some .boolean)
theorem gy_X9_in : goodY m_X9_in 3 := ⟨inA 1228 (by decide +kernel), by decide +kernel, plainFor_of_name (by decide +kernel)⟩
def m_X9_lineAt : MI := (⟨RX9, "lineAt", "(I)I"⟩, prog_11_method_48_code, 5, some .int)
theorem gy_X9_lineAt : goodY m_X9_lineAt 1 := ⟨inA 1312 (by decide +kernel), by decide +kernel, plainFor_of_name (by decide +kernel)⟩
def m_X8_refuse : MI := (⟨RX8, "refuse", "(I)I"⟩, prog_1_method_70_code, 3, some .int)
theorem gy_X8_refuse : goodY m_X8_refuse 1 := ⟨inA 286 (by decide +kernel), by decide +kernel, plainFor_of_name (by decide +kernel)⟩
def m_X0_add : MI := (⟨RX0, "add", "(I)V"⟩, prog_2_method_4_code, 2, none)
theorem gy_X0_add : goodY m_X0_add 1 := ⟨inA 576 (by decide +kernel), by decide +kernel, plainFor_of_name (by decide +kernel)⟩
def m_X2_outOf : MI := (⟨RX2, "outOf", "(I)I"⟩, prog_4_method_5_code, 3, some .int)
theorem gy_X2_outOf : goodY m_X2_outOf 1 := ⟨inA 419 (by decide +kernel), by decide +kernel, plainFor_of_name (by decide +kernel)⟩
def m_X2_slantOf : MI := (⟨RX2, "slantOf", "(I)I"⟩, prog_4_method_6_code, 4, some .int)
theorem gy_X2_slantOf : goodY m_X2_slantOf 1 := ⟨inA 415 (by decide +kernel), by decide +kernel, plainFor_of_name (by decide +kernel)⟩
def m_X9_age : MI := (⟨RX9, "age", "(I)I"⟩, prog_11_method_42_code, 2, some .int)
theorem gy_X9_age : goodY m_X9_age 1 := ⟨inA 1277 (by decide +kernel), by decide +kernel, plainFor_of_name (by decide +kernel)⟩
def m_X9_out : MI := (⟨RX9, "out", "(I)I"⟩, prog_11_method_44_code, 3, some .int)
theorem gy_X9_out : goodY m_X9_out 1 := ⟨inA 1297 (by decide +kernel), by decide +kernel, plainFor_of_name (by decide +kernel)⟩
def m_X9_slantOf : MI := (⟨RX9, "slantOf", "(I)I"⟩, prog_11_method_45_code, 4, some .int)
theorem gy_X9_slantOf : goodY m_X9_slantOf 1 := ⟨inA 1293 (by decide +kernel), by decide +kernel, plainFor_of_name (by decide +kernel)⟩
def m_X9_mod : MI := (⟨RX9, "mod", "(II)I"⟩, prog_11_method_41_code, 3, some .int)
theorem gy_X9_mod : goodY m_X9_mod 2 := ⟨inA 1300 (by decide +kernel), by decide +kernel, plainFor_of_name (by decide +kernel)⟩
def m_X9_rise : MI := (⟨RX9, "rise", "(I)I"⟩, prog_11_method_46_code, 2, some .int)
theorem gy_X9_rise : goodY m_X9_rise 1 := ⟨inA 1289 (by decide +kernel), by decide +kernel, plainFor_of_name (by decide +kernel)⟩
theorem kb_100 : (Int8.ofInt (100)).toInt32 = (100 : Int32) := by decide
theorem lf_X2_9 : LkF RX2 9 2 0 := ⟨RX2, TX2, 1, rfl, wsin_X2, Nat.le_of_ble_eq_true rfl, inA 184 (by decide +kernel)⟩
theorem lf_X2_21 : LkF RX2 21 6 0 := ⟨RX6, TX6, 10, rfl, wsin_X6, Nat.le_of_ble_eq_true rfl, inA 132 (by decide +kernel)⟩
theorem ks_2953 : (Int16.ofInt (2953)).toInt32 = (2953 : Int32) := by decide
theorem kd_2953 : ¬ (2953 : Int32) = 0 := by decide
theorem lk_X2_27 : LkV RX2 27 m_X2_ageOf 1 := ⟨inAs [397, 398, 399, 66] (by decide +kernel) (by decide +kernel), gy_X2_ageOf⟩
theorem ks_1476 : (Int16.ofInt (1476)).toInt32 = (1476 : Int32) := by decide
theorem ks_1477 : (Int16.ofInt (1477)).toInt32 = (1477 : Int32) := by decide
theorem kd_1477 : ¬ (1477 : Int32) = 0 := by decide
theorem kd_1476 : ¬ (1476 : Int32) = 0 := by decide
theorem ki_m1 : Int32.ofInt (-1) = (-1 : Int32) := by decide
theorem lf_X0_21 : LkF RX0 21 0 1 := ⟨RX0, TX0, 2, rfl, wsin_X0, Nat.le_of_ble_eq_true rfl, inA 109 (by decide +kernel)⟩
theorem lf_X0_15 : LkF RX0 15 0 0 := ⟨RX0, TX0, 2, rfl, wsin_X0, Nat.le_of_ble_eq_true rfl, inA 108 (by decide +kernel)⟩
theorem ki_0 : Int32.ofInt (0) = (0 : Int32) := by decide
theorem lk_X0_25 : LkV RX0 25 m_X0_at 1 := ⟨inAs [527, 515, 516, 64] (by decide +kernel) (by decide +kernel), gy_X0_at⟩
theorem ki_1 : Int32.ofInt (1) = (1 : Int32) := by decide
theorem lf_X1_26 : LkF RX1 26 1 3 := ⟨RX1, TX1, 4, rfl, wsin_X1, Nat.le_of_ble_eq_true rfl, inA 119 (by decide +kernel)⟩
theorem kn_180 : Int32.ofNat 180 = (180 : Int32) := by decide
theorem ks_150 : (Int16.ofInt (150)).toInt32 = (150 : Int32) := by decide
theorem ki_5 : Int32.ofInt (5) = (5 : Int32) := by decide
theorem ki_4 : Int32.ofInt (4) = (4 : Int32) := by decide
theorem kd_4 : ¬ (4 : Int32) = 0 := by decide
theorem lk_X1_51 : LkV RX1 51 m_X1_lineAt 1 := ⟨inAs [433, 434, 435, 63] (by decide +kernel) (by decide +kernel), gy_X1_lineAt⟩
theorem lk_X1_41 : LkS RX1 41 m_J9_max_7cf53 2 := ⟨inAs [437, 106, 65] (by decide +kernel) (by decide +kernel), gy_J9_max_7cf53⟩
theorem lf_X9_116 : LkF RX9 116 9 11 := ⟨RX9, TX9, 29, rfl, wsin_X9, Nat.le_of_ble_eq_true rfl, inA 1144 (by decide +kernel)⟩
theorem lf_X9_45 : LkF RX9 45 9 12 := ⟨RX9, TX9, 29, rfl, wsin_X9, Nat.le_of_ble_eq_true rfl, inA 1145 (by decide +kernel)⟩
theorem lk_X9_63 : LkS RX9 63 m_X9_in 3 := ⟨inAs [1226, 1227, 70] (by decide +kernel) (by decide +kernel), gy_X9_in⟩
theorem ki_2 : Int32.ofInt (2) = (2 : Int32) := by decide
theorem kb_m2 : (Int8.ofInt (-2)).toInt32 = (-2 : Int32) := by decide
theorem lf_X8_51 : LkF RX8 51 8 7 := ⟨RX8, TX8, 9, rfl, wsin_X8, Nat.le_of_ble_eq_true rfl, inA 251 (by decide +kernel)⟩
theorem kn_5 : Int32.ofNat 5 = (5 : Int32) := by decide
theorem xs_62 (cA : Nat → ClassId) (ax : Nat → Nat) (s : XS) (v : (Nat → Int32)) : (xW cA ax s).set 62 (ax 62, .inl (cA 0, 5, .inl v)) = xW cA ax (x_set_ref s v) := rfl
theorem lp_X0_21 : LkP RX0 21 0 1 false .int := ⟨RX0, TX0, 2, tyX0, rfl, wsin_X0, Nat.le_of_ble_eq_true rfl, inA 109 (by decide +kernel), tyX0_ok, nmX0, rfl, by decide +kernel, fun _ => rfl⟩
theorem lf_X2_31 : LkF RX2 31 6 2 := ⟨RX6, TX6, 10, rfl, wsin_X6, Nat.le_of_ble_eq_true rfl, inA 137 (by decide +kernel)⟩
theorem ks_6793 : (Int16.ofInt (6793)).toInt32 = (6793 : Int32) := by decide
theorem kd_6793 : ¬ (6793 : Int32) = 0 := by decide
theorem ks_3396 : (Int16.ofInt (3396)).toInt32 = (3396 : Int32) := by decide
theorem kb_18 : (Int8.ofInt (18)).toInt32 = (18 : Int32) := by decide
theorem kb_10 : (Int8.ofInt (10)).toInt32 = (10 : Int32) := by decide
theorem ks_3397 : (Int16.ofInt (3397)).toInt32 = (3397 : Int32) := by decide
theorem kd_3397 : ¬ (3397 : Int32) = 0 := by decide
theorem kd_3396 : ¬ (3396 : Int32) = 0 := by decide
theorem lk_X2_34 : LkV RX2 34 m_X2_outOf 1 := ⟨inAs [416, 417, 418, 66] (by decide +kernel) (by decide +kernel), gy_X2_outOf⟩
theorem lf_X2_37 : LkF RX2 37 6 1 := ⟨RX6, TX6, 10, rfl, wsin_X6, Nat.le_of_ble_eq_true rfl, inA 135 (by decide +kernel)⟩
theorem ks_2732 : (Int16.ofInt (2732)).toInt32 = (2732 : Int32) := by decide
theorem kd_2732 : ¬ (2732 : Int32) = 0 := by decide
theorem ks_683 : (Int16.ofInt (683)).toInt32 = (683 : Int32) := by decide
theorem ks_2049 : (Int16.ofInt (2049)).toInt32 = (2049 : Int32) := by decide
theorem kd_683 : ¬ (683 : Int32) = 0 := by decide
theorem ks_1366 : (Int16.ofInt (1366)).toInt32 = (1366 : Int32) := by decide
theorem lf_X9_40 : LkF RX9 40 9 10 := ⟨RX9, TX9, 29, rfl, wsin_X9, Nat.le_of_ble_eq_true rfl, inA 1143 (by decide +kernel)⟩
theorem lk_X9_102 : LkV RX9 102 m_X9_out 1 := ⟨inAs [1294, 1296, 28, 70] (by decide +kernel) (by decide +kernel), gy_X9_out⟩
theorem ks_360 : (Int16.ofInt (360)).toInt32 = (360 : Int32) := by decide
theorem lk_X9_96 : LkV RX9 96 m_X9_age 1 := ⟨inAs [1274, 1276, 23, 70] (by decide +kernel) (by decide +kernel), gy_X9_age⟩
theorem ks_1440 : (Int16.ofInt (1440)).toInt32 = (1440 : Int32) := by decide
theorem ki_3 : Int32.ofInt (3) = (3 : Int32) := by decide
theorem lk_X9_227 : LkV RX9 227 m_X9_slantOf 1 := ⟨inAs [1290, 1292, 27, 70] (by decide +kernel) (by decide +kernel), gy_X9_slantOf⟩
theorem kd_1440 : ¬ (1440 : Int32) = 0 := by decide
theorem lk_X9_230 : LkS RX9 230 m_X9_mod 2 := ⟨inAs [1298, 1299, 70] (by decide +kernel) (by decide +kernel), gy_X9_mod⟩
