theorem kb_30 : (Int8.ofInt (30)).toInt32 = (30 : Int32) := by decide
theorem lk_X2_102 : LkV RX2 102 m_X2_degreeOf 1 := ⟨(List.forall_mem_cons.mpr ⟨w_490, (List.forall_mem_cons.mpr ⟨w_491, (List.forall_mem_cons.mpr ⟨w_492, (List.forall_mem_cons.mpr ⟨w_66, (List.forall_mem_nil _)⟩)⟩)⟩)⟩), gy_X2_degreeOf⟩
theorem lf_X2_105 : LkF RX2 105 4 1 := ⟨RX4, TX4, 5, rfl, wsin_X4, Nat.le_of_ble_eq_true rfl, w_463⟩
theorem lf_X2_108 : LkF RX2 108 4 2 := ⟨RX4, TX4, 5, rfl, wsin_X4, Nat.le_of_ble_eq_true rfl, w_465⟩
theorem lf_X2_111 : LkF RX2 111 4 3 := ⟨RX4, TX4, 5, rfl, wsin_X4, Nat.le_of_ble_eq_true rfl, w_467⟩
theorem lk_X2_114 : LkV RX2 114 m_X2_behindOf 1 := ⟨(List.forall_mem_cons.mpr ⟨w_498, (List.forall_mem_cons.mpr ⟨w_499, (List.forall_mem_cons.mpr ⟨w_500, (List.forall_mem_cons.mpr ⟨w_66, (List.forall_mem_nil _)⟩)⟩)⟩)⟩), gy_X2_behindOf⟩
theorem lk_X2_117 : LkV RX2 117 m_X2_isAtNode 1 := ⟨(List.forall_mem_cons.mpr ⟨w_519, (List.forall_mem_cons.mpr ⟨w_520, (List.forall_mem_cons.mpr ⟨w_521, (List.forall_mem_cons.mpr ⟨w_66, (List.forall_mem_nil _)⟩)⟩)⟩)⟩), gy_X2_isAtNode⟩
theorem lf_X2_120 : LkF RX2 120 6 6 := ⟨RX6, TX6, 10, rfl, wsin_X6, Nat.le_of_ble_eq_true rfl, w_150⟩
theorem lk_X2_124 : LkV RX2 124 m_X0_contains 1 := ⟨(List.forall_mem_cons.mpr ⟨w_523, (List.forall_mem_cons.mpr ⟨w_524, (List.forall_mem_cons.mpr ⟨w_525, (List.forall_mem_cons.mpr ⟨w_64, (List.forall_mem_nil _)⟩)⟩)⟩)⟩), gy_X0_contains⟩
theorem lf_X2_129 : LkF RX2 129 4 4 := ⟨RX4, TX4, 5, rfl, wsin_X4, Nat.le_of_ble_eq_true rfl, w_469⟩
theorem lk_X2_133 : LkV RX2 133 m_X2_isAsPictured 2 := ⟨(List.forall_mem_cons.mpr ⟨w_528, (List.forall_mem_cons.mpr ⟨w_529, (List.forall_mem_cons.mpr ⟨w_530, (List.forall_mem_cons.mpr ⟨w_66, (List.forall_mem_nil _)⟩)⟩)⟩)⟩), gy_X2_isAsPictured⟩
theorem tsv_0_12 : ∀ i, i < ([(0 : Int32), (1 : Int32), (2 : Int32), (3 : Int32), (4 : Int32), (5 : Int32), (6 : Int32), (7 : Int32), (8 : Int32), (9 : Int32), (10 : Int32), (11 : Int32)] : List Int32).length → (([(0 : Int32), (1 : Int32), (2 : Int32), (3 : Int32), (4 : Int32), (5 : Int32), (6 : Int32), (7 : Int32), (8 : Int32), (9 : Int32), (10 : Int32), (11 : Int32)] : List Int32).getD i 0).toInt = (0 : Int) + i := by decide +kernel
theorem lk_X2_137 : LkS RX2 137 m_X2_lastOf 2 := ⟨(List.forall_mem_cons.mpr ⟨w_843, (List.forall_mem_cons.mpr ⟨w_844, (List.forall_mem_cons.mpr ⟨w_66, (List.forall_mem_nil _)⟩)⟩)⟩), gy_X2_lastOf⟩
theorem lk_X2_140 : LkV RX2 140 m_X2_fits 2 := ⟨(List.forall_mem_cons.mpr ⟨w_846, (List.forall_mem_cons.mpr ⟨w_482, (List.forall_mem_cons.mpr ⟨w_483, (List.forall_mem_cons.mpr ⟨w_66, (List.forall_mem_nil _)⟩)⟩)⟩)⟩), gy_X2_fits⟩
theorem lk_X2_147 : LkV RX2 147 m_X2_overOf 1 := ⟨(List.forall_mem_cons.mpr ⟨w_877, (List.forall_mem_cons.mpr ⟨w_794, (List.forall_mem_cons.mpr ⟨w_795, (List.forall_mem_cons.mpr ⟨w_66, (List.forall_mem_nil _)⟩)⟩)⟩)⟩), gy_X2_overOf⟩
theorem ks_1200 : (Int16.ofInt (1200)).toInt32 = (1200 : Int32) := by decide
theorem lk_X2_150 : LkV RX2 150 m_X2_lightOf 3 := ⟨(List.forall_mem_cons.mpr ⟨w_878, (List.forall_mem_cons.mpr ⟨w_832, (List.forall_mem_cons.mpr ⟨w_833, (List.forall_mem_cons.mpr ⟨w_66, (List.forall_mem_nil _)⟩)⟩)⟩)⟩), gy_X2_lightOf⟩
theorem lk_X2_144 : LkV RX2 144 m_X2_meritOf 2 := ⟨(List.forall_mem_cons.mpr ⟨w_873, (List.forall_mem_cons.mpr ⟨w_874, (List.forall_mem_cons.mpr ⟨w_875, (List.forall_mem_cons.mpr ⟨w_66, (List.forall_mem_nil _)⟩)⟩)⟩)⟩), gy_X2_meritOf⟩
theorem lk_X2_153 : LkS RX2 153 m_J9_floorDiv_7cf53 2 := ⟨(List.forall_mem_cons.mpr ⟨w_926, (List.forall_mem_cons.mpr ⟨w_927, (List.forall_mem_cons.mpr ⟨w_65, (List.forall_mem_nil _)⟩)⟩)⟩), gy_J9_floorDiv_7cf53⟩
theorem lk_X2_156 : LkV RX2 156 m_X2_riseOf 1 := ⟨(List.forall_mem_cons.mpr ⟨w_941, (List.forall_mem_cons.mpr ⟨w_789, (List.forall_mem_cons.mpr ⟨w_790, (List.forall_mem_cons.mpr ⟨w_66, (List.forall_mem_nil _)⟩)⟩)⟩)⟩), gy_X2_riseOf⟩
theorem kL_X2_172 : Cond.constantLong RX2 172 (9999 : Int64) ∈ ALL := w_971
theorem ks_400 : (Int16.ofInt (400)).toInt32 = (400 : Int32) := by decide
theorem ks_720 : (Int16.ofInt (720)).toInt32 = (720 : Int32) := by decide
theorem kd_720 : ¬ (720 : Int32) = 0 := by decide
theorem lk_X2_174 : LkV RX2 174 m_X2_highWaterOf 1 := ⟨(List.forall_mem_cons.mpr ⟨w_988, (List.forall_mem_cons.mpr ⟨w_989, (List.forall_mem_cons.mpr ⟨w_990, (List.forall_mem_cons.mpr ⟨w_66, (List.forall_mem_nil _)⟩)⟩)⟩)⟩), gy_X2_highWaterOf⟩
theorem kb_50 : (Int8.ofInt (50)).toInt32 = (50 : Int32) := by decide
theorem kd_180 : ¬ (180 : Int32) = 0 := by decide
theorem lf_X3_9 : LkF RX3 9 3 0 := ⟨RX3, TX3, 1, rfl, wsin_X3, Nat.le_of_ble_eq_true rfl, w_219⟩
theorem lk_X3_15 : LkS RX3 15 m_J7_fill_53178 2 := ⟨(List.forall_mem_cons.mpr ⟨w_1034, (List.forall_mem_cons.mpr ⟨w_603, (List.forall_mem_cons.mpr ⟨w_71, (List.forall_mem_nil _)⟩)⟩)⟩), gy_J7_fill_53178⟩
theorem lk_X3_21 : LkS RX3 21 m_X2_lastOf 2 := ⟨(List.forall_mem_cons.mpr ⟨w_1035, (List.forall_mem_cons.mpr ⟨w_844, (List.forall_mem_cons.mpr ⟨w_66, (List.forall_mem_nil _)⟩)⟩)⟩), gy_X2_lastOf⟩
theorem lk_X3_27 : LkV RX3 27 m_X2_degreeOf 1 := ⟨(List.forall_mem_cons.mpr ⟨w_1036, (List.forall_mem_cons.mpr ⟨w_491, (List.forall_mem_cons.mpr ⟨w_492, (List.forall_mem_cons.mpr ⟨w_66, (List.forall_mem_nil _)⟩)⟩)⟩)⟩), gy_X2_degreeOf⟩
theorem kn_181 : Int32.ofNat 181 = (181 : Int32) := by decide
theorem lk_X3_31 : LkS RX3 31 m_J9_max_7cf53 2 := ⟨(List.forall_mem_cons.mpr ⟨w_1045, (List.forall_mem_cons.mpr ⟨w_106, (List.forall_mem_cons.mpr ⟨w_65, (List.forall_mem_nil _)⟩)⟩)⟩), gy_J9_max_7cf53⟩
theorem lk_X3_36 : LkV RX3 36 m_X3_near 2 := ⟨(List.forall_mem_cons.mpr ⟨w_1054, (List.forall_mem_cons.mpr ⟨w_1042, (List.forall_mem_cons.mpr ⟨w_1043, (List.forall_mem_cons.mpr ⟨w_68, (List.forall_mem_nil _)⟩)⟩)⟩)⟩), gy_X3_near⟩
theorem lf_X9_37 : LkF RX9 37 9 9 := ⟨RX9, TX9, 29, rfl, wsin_X9, Nat.le_of_ble_eq_true rfl, w_1142⟩
theorem kL_X9_61 : Cond.constantLong RX9 61 (9999 : Int64) ∈ ALL := w_1266
theorem lk_X9_63 : LkS RX9 63 m_X9_in 3 := ⟨(List.forall_mem_cons.mpr ⟨w_1226, (List.forall_mem_cons.mpr ⟨w_1227, (List.forall_mem_cons.mpr ⟨w_70, (List.forall_mem_nil _)⟩)⟩)⟩), gy_X9_in⟩
theorem lk_X9_67 : LkS RX9 67 m_X9_isDay 1 := ⟨(List.forall_mem_cons.mpr ⟨w_1263, (List.forall_mem_cons.mpr ⟨w_1264, (List.forall_mem_cons.mpr ⟨w_70, (List.forall_mem_nil _)⟩)⟩)⟩), gy_X9_isDay⟩
theorem kL_X9_71 : Cond.constantLong RX9 71 (1000 : Int64) ∈ ALL := w_1509
theorem kL_X9_73 : Cond.constantLong RX9 73 (7 : Int64) ∈ ALL := w_1225
theorem lk_X9_79 : LkV RX9 79 m_X9_refuse 1 := ⟨(List.forall_mem_cons.mpr ⟨w_1231, (List.forall_mem_cons.mpr ⟨w_1233, (List.forall_mem_cons.mpr ⟨w_21, (List.forall_mem_cons.mpr ⟨w_70, (List.forall_mem_nil _)⟩)⟩)⟩)⟩), gy_X9_refuse⟩
theorem kL_X9_75 : Cond.constantLong RX9 75 (4 : Int64) ∈ ALL := w_1229
theorem kL_X9_77 : Cond.constantLong RX9 77 (40 : Int64) ∈ ALL := w_1230
theorem lf_X9_7 : LkF RX9 7 9 0 := ⟨RX9, TX9, 29, rfl, wsin_X9, Nat.le_of_ble_eq_true rfl, w_1133⟩
theorem lf_X9_13 : LkF RX9 13 9 1 := ⟨RX9, TX9, 29, rfl, wsin_X9, Nat.le_of_ble_eq_true rfl, w_1134⟩
theorem lf_X9_16 : LkF RX9 16 9 2 := ⟨RX9, TX9, 29, rfl, wsin_X9, Nat.le_of_ble_eq_true rfl, w_1135⟩
theorem kb_40 : (Int8.ofInt (40)).toInt32 = (40 : Int32) := by decide
theorem lf_X9_21 : LkF RX9 21 9 3 := ⟨RX9, TX9, 29, rfl, wsin_X9, Nat.le_of_ble_eq_true rfl, w_1136⟩
theorem lk_X9_83 : LkV RX9 83 m_X9_noRow 1 := ⟨(List.forall_mem_cons.mpr ⟨w_1239, (List.forall_mem_cons.mpr ⟨w_1241, (List.forall_mem_cons.mpr ⟨w_22, (List.forall_mem_cons.mpr ⟨w_70, (List.forall_mem_nil _)⟩)⟩)⟩)⟩), gy_X9_noRow⟩
theorem lk_X9_86 : LkS RX9 86 m_X9_fit 2 := ⟨(List.forall_mem_cons.mpr ⟨w_1243, (List.forall_mem_cons.mpr ⟨w_1244, (List.forall_mem_cons.mpr ⟨w_70, (List.forall_mem_nil _)⟩)⟩)⟩), gy_X9_fit⟩
theorem lf_X9_24 : LkF RX9 24 9 4 := ⟨RX9, TX9, 29, rfl, wsin_X9, Nat.le_of_ble_eq_true rfl, w_1137⟩
theorem lf_X9_28 : LkF RX9 28 9 5 := ⟨RX9, TX9, 29, rfl, wsin_X9, Nat.le_of_ble_eq_true rfl, w_1138⟩
theorem kL_X9_90 : Cond.constantLong RX9 90 (5 : Int64) ∈ ALL := w_1262
theorem lf_X9_31 : LkF RX9 31 9 6 := ⟨RX9, TX9, 29, rfl, wsin_X9, Nat.le_of_ble_eq_true rfl, w_1139⟩
theorem lf_X9_40 : LkF RX9 40 9 10 := ⟨RX9, TX9, 29, rfl, wsin_X9, Nat.le_of_ble_eq_true rfl, w_1143⟩
theorem lk_X9_102 : LkV RX9 102 m_X9_out 1 := ⟨(List.forall_mem_cons.mpr ⟨w_1294, (List.forall_mem_cons.mpr ⟨w_1296, (List.forall_mem_cons.mpr ⟨w_28, (List.forall_mem_cons.mpr ⟨w_70, (List.forall_mem_nil _)⟩)⟩)⟩)⟩), gy_X9_out⟩
theorem lk_X9_96 : LkV RX9 96 m_X9_age 1 := ⟨(List.forall_mem_cons.mpr ⟨w_1274, (List.forall_mem_cons.mpr ⟨w_1276, (List.forall_mem_cons.mpr ⟨w_23, (List.forall_mem_cons.mpr ⟨w_70, (List.forall_mem_nil _)⟩)⟩)⟩)⟩), gy_X9_age⟩
theorem lk_X9_227 : LkV RX9 227 m_X9_slantOf 1 := ⟨(List.forall_mem_cons.mpr ⟨w_1290, (List.forall_mem_cons.mpr ⟨w_1292, (List.forall_mem_cons.mpr ⟨w_27, (List.forall_mem_cons.mpr ⟨w_70, (List.forall_mem_nil _)⟩)⟩)⟩)⟩), gy_X9_slantOf⟩
theorem lk_X9_230 : LkS RX9 230 m_X9_mod 2 := ⟨(List.forall_mem_cons.mpr ⟨w_1298, (List.forall_mem_cons.mpr ⟨w_1299, (List.forall_mem_cons.mpr ⟨w_70, (List.forall_mem_nil _)⟩)⟩)⟩), gy_X9_mod⟩
theorem lf_X9_116 : LkF RX9 116 9 11 := ⟨RX9, TX9, 29, rfl, wsin_X9, Nat.le_of_ble_eq_true rfl, w_1144⟩
theorem lf_X9_45 : LkF RX9 45 9 12 := ⟨RX9, TX9, 29, rfl, wsin_X9, Nat.le_of_ble_eq_true rfl, w_1145⟩
theorem lk_X9_239 : LkV RX9 239 m_X9_way 1 := ⟨(List.forall_mem_cons.mpr ⟨w_1305, (List.forall_mem_cons.mpr ⟨w_1307, (List.forall_mem_cons.mpr ⟨w_30, (List.forall_mem_cons.mpr ⟨w_70, (List.forall_mem_nil _)⟩)⟩)⟩)⟩), gy_X9_way⟩
theorem lk_X9_236 : LkV RX9 236 m_X9_lineAt 1 := ⟨(List.forall_mem_cons.mpr ⟨w_1309, (List.forall_mem_cons.mpr ⟨w_1311, (List.forall_mem_cons.mpr ⟨w_31, (List.forall_mem_cons.mpr ⟨w_70, (List.forall_mem_nil _)⟩)⟩)⟩)⟩), gy_X9_lineAt⟩
theorem lk_X9_242 : LkV RX9 242 m_X9_rise 1 := ⟨(List.forall_mem_cons.mpr ⟨w_1286, (List.forall_mem_cons.mpr ⟨w_1288, (List.forall_mem_cons.mpr ⟨w_26, (List.forall_mem_cons.mpr ⟨w_70, (List.forall_mem_nil _)⟩)⟩)⟩)⟩), gy_X9_rise⟩
theorem lk_X9_245 : LkV RX9 245 m_X9_over 1 := ⟨(List.forall_mem_cons.mpr ⟨w_1301, (List.forall_mem_cons.mpr ⟨w_1303, (List.forall_mem_cons.mpr ⟨w_29, (List.forall_mem_cons.mpr ⟨w_70, (List.forall_mem_nil _)⟩)⟩)⟩)⟩), gy_X9_over⟩
theorem lk_X9_248 : LkV RX9 248 m_X9_up 1 := ⟨(List.forall_mem_cons.mpr ⟨w_1282, (List.forall_mem_cons.mpr ⟨w_1284, (List.forall_mem_cons.mpr ⟨w_25, (List.forall_mem_cons.mpr ⟨w_70, (List.forall_mem_nil _)⟩)⟩)⟩)⟩), gy_X9_up⟩
theorem lk_X9_99 : LkV RX9 99 m_X9_later 1 := ⟨(List.forall_mem_cons.mpr ⟨w_1278, (List.forall_mem_cons.mpr ⟨w_1280, (List.forall_mem_cons.mpr ⟨w_24, (List.forall_mem_cons.mpr ⟨w_70, (List.forall_mem_nil _)⟩)⟩)⟩)⟩), gy_X9_later⟩
theorem lk_X9_105 : LkV RX9 105 m_X9_shinesIn 3 := ⟨(List.forall_mem_cons.mpr ⟨w_1313, (List.forall_mem_cons.mpr ⟨w_1315, (List.forall_mem_cons.mpr ⟨w_32, (List.forall_mem_cons.mpr ⟨w_70, (List.forall_mem_nil _)⟩)⟩)⟩)⟩), gy_X9_shinesIn⟩
theorem lk_X9_92 : LkS RX9 92 m_X9_isUnder 2 := ⟨(List.forall_mem_cons.mpr ⟨w_1271, (List.forall_mem_cons.mpr ⟨w_1272, (List.forall_mem_cons.mpr ⟨w_70, (List.forall_mem_nil _)⟩)⟩)⟩), gy_X9_isUnder⟩
theorem kL_X9_263 : Cond.constantLong RX9 263 (1427 : Int64) ∈ ALL := w_1325
theorem kL_X9_265 : Cond.constantLong RX9 265 (1526 : Int64) ∈ ALL := w_1326
theorem kb_99 : (Int8.ofInt (99)).toInt32 = (99 : Int32) := by decide
theorem lk_X9_109 : LkV RX9 109 m_X9_isOf 2 := ⟨(List.forall_mem_cons.mpr ⟨w_1321, (List.forall_mem_cons.mpr ⟨w_1323, (List.forall_mem_cons.mpr ⟨w_33, (List.forall_mem_cons.mpr ⟨w_70, (List.forall_mem_nil _)⟩)⟩)⟩)⟩), gy_X9_isOf⟩
theorem kL_X9_112 : Cond.constantLong RX9 112 (3 : Int64) ∈ ALL := w_1331
theorem kL_X9_114 : Cond.constantLong RX9 114 (9 : Int64) ∈ ALL := w_1332
theorem lp_X9_116 : LkP RX9 116 9 11 false .int := ⟨RX9, TX9, 29, tyX9, rfl, wsin_X9, Nat.le_of_ble_eq_true rfl, w_1144, tyX9_ok, nmX9, rfl, by decide +kernel, fun h => Bool.noConfusion h⟩
theorem kL_X9_119 : Cond.constantLong RX9 119 (179 : Int64) ∈ ALL := w_1337
theorem kL_X9_121 : Cond.constantLong RX9 121 (30 : Int64) ∈ ALL := w_1338
theorem lk_X9_123 : LkV RX9 123 m_X9_addNotch 3 := ⟨(List.forall_mem_cons.mpr ⟨w_1339, (List.forall_mem_cons.mpr ⟨w_1341, (List.forall_mem_cons.mpr ⟨w_34, (List.forall_mem_cons.mpr ⟨w_70, (List.forall_mem_nil _)⟩)⟩)⟩)⟩), gy_X9_addNotch⟩
theorem kb_m6 : (Int8.ofInt (-6)).toInt32 = (-6 : Int32) := by decide
theorem lf_X9_127 : LkF RX9 127 9 13 := ⟨RX9, TX9, 29, rfl, wsin_X9, Nat.le_of_ble_eq_true rfl, w_1146⟩
theorem lf_X9_48 : LkF RX9 48 9 14 := ⟨RX9, TX9, 29, rfl, wsin_X9, Nat.le_of_ble_eq_true rfl, w_1147⟩
theorem lp_X9_127 : LkP RX9 127 9 13 false .int := ⟨RX9, TX9, 29, tyX9, rfl, wsin_X9, Nat.le_of_ble_eq_true rfl, w_1146, tyX9_ok, nmX9, rfl, by decide +kernel, fun h => Bool.noConfusion h⟩
theorem lf_X9_130 : LkF RX9 130 9 15 := ⟨RX9, TX9, 29, rfl, wsin_X9, Nat.le_of_ble_eq_true rfl, w_1148⟩
theorem lf_X9_51 : LkF RX9 51 9 16 := ⟨RX9, TX9, 29, rfl, wsin_X9, Nat.le_of_ble_eq_true rfl, w_1149⟩
theorem lk_X9_133 : LkV RX9 133 m_X9_isCloud 1 := ⟨(List.forall_mem_cons.mpr ⟨w_1351, (List.forall_mem_cons.mpr ⟨w_1353, (List.forall_mem_cons.mpr ⟨w_35, (List.forall_mem_cons.mpr ⟨w_70, (List.forall_mem_nil _)⟩)⟩)⟩)⟩), gy_X9_isCloud⟩
theorem lp_X9_130 : LkP RX9 130 9 15 false .int := ⟨RX9, TX9, 29, tyX9, rfl, wsin_X9, Nat.le_of_ble_eq_true rfl, w_1148, tyX9_ok, nmX9, rfl, by decide +kernel, fun h => Bool.noConfusion h⟩
theorem kb_m5 : (Int8.ofInt (-5)).toInt32 = (-5 : Int32) := by decide
theorem kL_X9_137 : Cond.constantLong RX9 137 (2 : Int64) ∈ ALL := w_1359
theorem kL_X9_139 : Cond.constantLong RX9 139 (255 : Int64) ∈ ALL := w_1364
theorem lf_X9_141 : LkF RX9 141 9 8 := ⟨RX9, TX9, 29, rfl, wsin_X9, Nat.le_of_ble_eq_true rfl, w_1141⟩
theorem ks_250 : (Int16.ofInt (250)).toInt32 = (250 : Int32) := by decide
theorem lf_X9_34 : LkF RX9 34 9 7 := ⟨RX9, TX9, 29, rfl, wsin_X9, Nat.le_of_ble_eq_true rfl, w_1140⟩
theorem lp_X9_141 : LkP RX9 141 9 8 false .int := ⟨RX9, TX9, 29, tyX9, rfl, wsin_X9, Nat.le_of_ble_eq_true rfl, w_1141, tyX9_ok, nmX9, rfl, by decide +kernel, fun h => Bool.noConfusion h⟩
theorem kb_97 : (Int8.ofInt (97)).toInt32 = (97 : Int32) := by decide
theorem kb_122 : (Int8.ofInt (122)).toInt32 = (122 : Int32) := by decide
theorem kb_48 : (Int8.ofInt (48)).toInt32 = (48 : Int32) := by decide
theorem kb_57 : (Int8.ofInt (57)).toInt32 = (57 : Int32) := by decide
theorem lf_X9_144 : LkF RX9 144 9 22 := ⟨RX9, TX9, 29, rfl, wsin_X9, Nat.le_of_ble_eq_true rfl, w_1155⟩
theorem lp_X9_147 : LkP RX9 147 9 24 false .int := ⟨RX9, TX9, 29, tyX9, rfl, wsin_X9, Nat.le_of_ble_eq_true rfl, w_1157, tyX9_ok, nmX9, rfl, by decide +kernel, fun h => Bool.noConfusion h⟩
theorem lp_X9_150 : LkP RX9 150 9 25 false .int := ⟨RX9, TX9, 29, tyX9, rfl, wsin_X9, Nat.le_of_ble_eq_true rfl, w_1158, tyX9_ok, nmX9, rfl, by decide +kernel, fun h => Bool.noConfusion h⟩
theorem lk_X9_156 : LkS RX9 156 m_X9_isLetter 1 := ⟨(List.forall_mem_cons.mpr ⟨w_1390, (List.forall_mem_cons.mpr ⟨w_1391, (List.forall_mem_cons.mpr ⟨w_70, (List.forall_mem_nil _)⟩)⟩)⟩), gy_X9_isLetter⟩
theorem lk_X9_159 : LkS RX9 159 m_X9_isDigit 1 := ⟨(List.forall_mem_cons.mpr ⟨w_1393, (List.forall_mem_cons.mpr ⟨w_1394, (List.forall_mem_cons.mpr ⟨w_70, (List.forall_mem_nil _)⟩)⟩)⟩), gy_X9_isDigit⟩
theorem kb_59 : (Int8.ofInt (59)).toInt32 = (59 : Int32) := by decide
theorem lp_X9_153 : LkP RX9 153 9 23 false .int := ⟨RX9, TX9, 29, tyX9, rfl, wsin_X9, Nat.le_of_ble_eq_true rfl, w_1156, tyX9_ok, nmX9, rfl, by decide +kernel, fun h => Bool.noConfusion h⟩
theorem lp_X9_144 : LkP RX9 144 9 22 false .int := ⟨RX9, TX9, 29, tyX9, rfl, wsin_X9, Nat.le_of_ble_eq_true rfl, w_1155, tyX9_ok, nmX9, rfl, by decide +kernel, fun h => Bool.noConfusion h⟩
theorem lf_X9_147 : LkF RX9 147 9 24 := ⟨RX9, TX9, 29, rfl, wsin_X9, Nat.le_of_ble_eq_true rfl, w_1157⟩
theorem lf_X9_150 : LkF RX9 150 9 25 := ⟨RX9, TX9, 29, rfl, wsin_X9, Nat.le_of_ble_eq_true rfl, w_1158⟩
theorem kb_32 : (Int8.ofInt (32)).toInt32 = (32 : Int32) := by decide
theorem lp_X9_163 : LkP RX9 163 9 26 false .int := ⟨RX9, TX9, 29, tyX9, rfl, wsin_X9, Nat.le_of_ble_eq_true rfl, w_1159, tyX9_ok, nmX9, rfl, by decide +kernel, fun h => Bool.noConfusion h⟩
theorem lf_X9_153 : LkF RX9 153 9 23 := ⟨RX9, TX9, 29, rfl, wsin_X9, Nat.le_of_ble_eq_true rfl, w_1156⟩
theorem lk_X9_166 : LkV RX9 166 m_J0_length_8abf5 0 := ⟨(List.forall_mem_cons.mpr ⟨w_1406, (List.forall_mem_cons.mpr ⟨w_675, (List.forall_mem_cons.mpr ⟨w_676, (List.forall_mem_cons.mpr ⟨w_74, (List.forall_mem_nil _)⟩)⟩)⟩)⟩), gy_J0_length_8abf5⟩
theorem lk_X9_172 : LkV RX9 172 m_J0_charAt_5068e 1 := ⟨(List.forall_mem_cons.mpr ⟨w_1407, (List.forall_mem_cons.mpr ⟨w_685, (List.forall_mem_cons.mpr ⟨w_686, (List.forall_mem_cons.mpr ⟨w_74, (List.forall_mem_nil _)⟩)⟩)⟩)⟩), gy_J0_charAt_5068e⟩
theorem lk_X9_176 : LkV RX9 176 m_X9_wrong 0 := ⟨(List.forall_mem_cons.mpr ⟨w_1420, (List.forall_mem_cons.mpr ⟨w_1422, (List.forall_mem_cons.mpr ⟨w_44, (List.forall_mem_cons.mpr ⟨w_70, (List.forall_mem_nil _)⟩)⟩)⟩)⟩), gy_X9_wrong⟩
theorem lf_X9_58 : LkF RX9 58 9 27 := ⟨RX9, TX9, 29, rfl, wsin_X9, Nat.le_of_ble_eq_true rfl, w_1160⟩
theorem lk_X9_180 : LkV RX9 180 m_X9_look 0 := ⟨(List.forall_mem_cons.mpr ⟨w_1386, (List.forall_mem_cons.mpr ⟨w_1388, (List.forall_mem_cons.mpr ⟨w_38, (List.forall_mem_cons.mpr ⟨w_70, (List.forall_mem_nil _)⟩)⟩)⟩)⟩), gy_X9_look⟩
theorem lk_X9_183 : LkV RX9 183 m_X9_number 3 := ⟨(List.forall_mem_cons.mpr ⟨w_1416, (List.forall_mem_cons.mpr ⟨w_1418, (List.forall_mem_cons.mpr ⟨w_43, (List.forall_mem_cons.mpr ⟨w_70, (List.forall_mem_nil _)⟩)⟩)⟩)⟩), gy_X9_number⟩
theorem lk_X9_187 : LkV RX9 187 m_X9_tells 1 := ⟨(List.forall_mem_cons.mpr ⟨w_1412, (List.forall_mem_cons.mpr ⟨w_1414, (List.forall_mem_cons.mpr ⟨w_42, (List.forall_mem_cons.mpr ⟨w_70, (List.forall_mem_nil _)⟩)⟩)⟩)⟩), gy_X9_tells⟩
theorem site_X9_190 : (RX9, 190, "off", ([111, 102, 102] : List Int32)) ∈ sites := by decide +kernel
theorem lk_X9_192 : LkV RX9 192 m_X9_isWord 1 := ⟨(List.forall_mem_cons.mpr ⟨w_1402, (List.forall_mem_cons.mpr ⟨w_1404, (List.forall_mem_cons.mpr ⟨w_40, (List.forall_mem_cons.mpr ⟨w_70, (List.forall_mem_nil _)⟩)⟩)⟩)⟩), gy_X9_isWord⟩
theorem site_X9_199 : (RX9, 199, "node", ([110, 111, 100, 101] : List Int32)) ∈ sites := by decide +kernel
theorem site_X9_201 : (RX9, 201, "swing", ([115, 119, 105, 110, 103] : List Int32)) ∈ sites := by decide +kernel
theorem site_X9_203 : (RX9, 203, "notch", ([110, 111, 116, 99, 104] : List Int32)) ∈ sites := by decide +kernel
theorem site_X9_204 : (RX9, 204, "stone", ([115, 116, 111, 110, 101] : List Int32)) ∈ sites := by decide +kernel
theorem site_X9_205 : (RX9, 205, "cloud", ([99, 108, 111, 117, 100] : List Int32)) ∈ sites := by decide +kernel
theorem lk_X9_206 : LkV RX9 206 m_X9_cloudTold 0 := ⟨(List.forall_mem_cons.mpr ⟨w_1429, (List.forall_mem_cons.mpr ⟨w_1431, (List.forall_mem_cons.mpr ⟨w_45, (List.forall_mem_cons.mpr ⟨w_70, (List.forall_mem_nil _)⟩)⟩)⟩)⟩), gy_X9_cloudTold⟩
theorem ks_179 : (Int16.ofInt (179)).toInt32 = (179 : Int32) := by decide
theorem lk_X9_196 : LkV RX9 196 m_X9_askedTold 1 := ⟨(List.forall_mem_cons.mpr ⟨w_1408, (List.forall_mem_cons.mpr ⟨w_1410, (List.forall_mem_cons.mpr ⟨w_41, (List.forall_mem_cons.mpr ⟨w_70, (List.forall_mem_nil _)⟩)⟩)⟩)⟩), gy_X9_askedTold⟩
theorem lp_X9_209 : LkP RX9 209 9 28 false .int := ⟨RX9, TX9, 29, tyX9, rfl, wsin_X9, Nat.le_of_ble_eq_true rfl, w_1161, tyX9_ok, nmX9, rfl, by decide +kernel, fun h => Bool.noConfusion h⟩
theorem lk_X9_212 : LkV RX9 212 m_X9_statement 0 := ⟨(List.forall_mem_cons.mpr ⟨w_1397, (List.forall_mem_cons.mpr ⟨w_1399, (List.forall_mem_cons.mpr ⟨w_39, (List.forall_mem_cons.mpr ⟨w_70, (List.forall_mem_nil _)⟩)⟩)⟩)⟩), gy_X9_statement⟩
theorem lf_X9_209 : LkF RX9 209 9 28 := ⟨RX9, TX9, 29, rfl, wsin_X9, Nat.le_of_ble_eq_true rfl, w_1161⟩
theorem lk_X9_345 : LkS RX9 345 m_X9_copyAll 2 := ⟨(List.forall_mem_cons.mpr ⟨w_1379, (List.forall_mem_cons.mpr ⟨w_1380, (List.forall_mem_cons.mpr ⟨w_70, (List.forall_mem_nil _)⟩)⟩)⟩), gy_X9_copyAll⟩
theorem lf_X9_339 : LkF RX9 339 9 17 := ⟨RX9, TX9, 29, rfl, wsin_X9, Nat.le_of_ble_eq_true rfl, w_1150⟩
theorem lp_X9_339 : LkP RX9 339 9 17 false .int := ⟨RX9, TX9, 29, tyX9, rfl, wsin_X9, Nat.le_of_ble_eq_true rfl, w_1150, tyX9_ok, nmX9, rfl, by decide +kernel, fun h => Bool.noConfusion h⟩
theorem lf_X9_336 : LkF RX9 336 9 18 := ⟨RX9, TX9, 29, rfl, wsin_X9, Nat.le_of_ble_eq_true rfl, w_1151⟩
theorem lp_X9_336 : LkP RX9 336 9 18 false .int := ⟨RX9, TX9, 29, tyX9, rfl, wsin_X9, Nat.le_of_ble_eq_true rfl, w_1151, tyX9_ok, nmX9, rfl, by decide +kernel, fun h => Bool.noConfusion h⟩
theorem lf_X9_54 : LkF RX9 54 9 19 := ⟨RX9, TX9, 29, rfl, wsin_X9, Nat.le_of_ble_eq_true rfl, w_1152⟩
theorem lp_X9_54 : LkP RX9 54 9 19 false .int := ⟨RX9, TX9, 29, tyX9, rfl, wsin_X9, Nat.le_of_ble_eq_true rfl, w_1152, tyX9_ok, nmX9, rfl, by decide +kernel, fun h => Bool.noConfusion h⟩
theorem lf_X9_215 : LkF RX9 215 9 21 := ⟨RX9, TX9, 29, rfl, wsin_X9, Nat.le_of_ble_eq_true rfl, w_1154⟩
theorem kL_X9_234 : Cond.constantLong RX9 234 (999 : Int64) ∈ ALL := w_1445
theorem kL_X9_251 : Cond.constantLong RX9 251 (8 : Int64) ∈ ALL := w_1450
theorem kb_7 : (Int8.ofInt (7)).toInt32 = (7 : Int32) := by decide
theorem lk_X9_253 : LkV RX9 253 m_X9_lit 1 := ⟨(List.forall_mem_cons.mpr ⟨w_1451, (List.forall_mem_cons.mpr ⟨w_1453, (List.forall_mem_cons.mpr ⟨w_46, (List.forall_mem_cons.mpr ⟨w_70, (List.forall_mem_nil _)⟩)⟩)⟩)⟩), gy_X9_lit⟩
theorem lk_X9_256 : LkV RX9 256 m_X9_degreeUp 1 := ⟨(List.forall_mem_cons.mpr ⟨w_1455, (List.forall_mem_cons.mpr ⟨w_1457, (List.forall_mem_cons.mpr ⟨w_47, (List.forall_mem_cons.mpr ⟨w_70, (List.forall_mem_nil _)⟩)⟩)⟩)⟩), gy_X9_degreeUp⟩
theorem tsv_0_8 : ∀ i, i < ([(0 : Int32), (1 : Int32), (2 : Int32), (3 : Int32), (4 : Int32), (5 : Int32), (6 : Int32), (7 : Int32)] : List Int32).length → (([(0 : Int32), (1 : Int32), (2 : Int32), (3 : Int32), (4 : Int32), (5 : Int32), (6 : Int32), (7 : Int32)] : List Int32).getD i 0).toInt = (0 : Int) + i := by decide +kernel
theorem lk_X9_260 : LkV RX9 260 m_X9_behindOf 1 := ⟨(List.forall_mem_cons.mpr ⟨w_1468, (List.forall_mem_cons.mpr ⟨w_1470, (List.forall_mem_cons.mpr ⟨w_48, (List.forall_mem_cons.mpr ⟨w_70, (List.forall_mem_nil _)⟩)⟩)⟩)⟩), gy_X9_behindOf⟩
theorem lk_X9_267 : LkS RX9 267 m_X9_areMinutes 2 := ⟨(List.forall_mem_cons.mpr ⟨w_1480, (List.forall_mem_cons.mpr ⟨w_1481, (List.forall_mem_cons.mpr ⟨w_70, (List.forall_mem_nil _)⟩)⟩)⟩), gy_X9_areMinutes⟩
theorem lk_X9_270 : LkV RX9 270 m_X9_lightIn 3 := ⟨(List.forall_mem_cons.mpr ⟨w_1487, (List.forall_mem_cons.mpr ⟨w_1489, (List.forall_mem_cons.mpr ⟨w_49, (List.forall_mem_cons.mpr ⟨w_70, (List.forall_mem_nil _)⟩)⟩)⟩)⟩), gy_X9_lightIn⟩
theorem lk_X9_273 : LkS RX9 273 m_X9_lastOf 2 := ⟨(List.forall_mem_cons.mpr ⟨w_1499, (List.forall_mem_cons.mpr ⟨w_1500, (List.forall_mem_cons.mpr ⟨w_70, (List.forall_mem_nil _)⟩)⟩)⟩), gy_X9_lastOf⟩
theorem lk_X9_276 : LkS RX9 276 m_X9_areDays 2 := ⟨(List.forall_mem_cons.mpr ⟨w_1506, (List.forall_mem_cons.mpr ⟨w_1507, (List.forall_mem_cons.mpr ⟨w_70, (List.forall_mem_nil _)⟩)⟩)⟩), gy_X9_areDays⟩
theorem lk_X9_279 : LkV RX9 279 m_X9_tellsOf 3 := ⟨(List.forall_mem_cons.mpr ⟨w_1522, (List.forall_mem_cons.mpr ⟨w_1524, (List.forall_mem_cons.mpr ⟨w_50, (List.forall_mem_cons.mpr ⟨w_70, (List.forall_mem_nil _)⟩)⟩)⟩)⟩), gy_X9_tellsOf⟩
theorem kL_X9_282 : Cond.constantLong RX9 282 (1440 : Int64) ∈ ALL := w_1530
theorem kL_X9_284 : Cond.constantLong RX9 284 (9991 : Int64) ∈ ALL := w_1539
theorem lk_X9_286 : LkV RX9 286 m_X9_sizeOf 1 := ⟨(List.forall_mem_cons.mpr ⟨w_1548, (List.forall_mem_cons.mpr ⟨w_1550, (List.forall_mem_cons.mpr ⟨w_51, (List.forall_mem_cons.mpr ⟨w_70, (List.forall_mem_nil _)⟩)⟩)⟩)⟩), gy_X9_sizeOf⟩
theorem kL_X9_289 : Cond.constantLong RX9 289 (1439 : Int64) ∈ ALL := w_1560
theorem lk_X9_291 : LkV RX9 291 m_X9_isPicture 2 := ⟨(List.forall_mem_cons.mpr ⟨w_1565, (List.forall_mem_cons.mpr ⟨w_1567, (List.forall_mem_cons.mpr ⟨w_52, (List.forall_mem_cons.mpr ⟨w_70, (List.forall_mem_nil _)⟩)⟩)⟩)⟩), gy_X9_isPicture⟩
theorem kL_X9_295 : Cond.constantLong RX9 295 (50 : Int64) ∈ ALL := w_1573
theorem kL_X9_297 : Cond.constantLong RX9 297 (1476 : Int64) ∈ ALL := w_1574
theorem kL_X9_299 : Cond.constantLong RX9 299 (100 : Int64) ∈ ALL := w_1587
theorem kL_X9_301 : Cond.constantLong RX9 301 (400 : Int64) ∈ ALL := w_1588
theorem lk_X9_303 : LkV RX9 303 m_X9_noWitnesses 2 := ⟨(List.forall_mem_cons.mpr ⟨w_1579, (List.forall_mem_cons.mpr ⟨w_1581, (List.forall_mem_cons.mpr ⟨w_53, (List.forall_mem_cons.mpr ⟨w_70, (List.forall_mem_nil _)⟩)⟩)⟩)⟩), gy_X9_noWitnesses⟩
theorem lk_X9_306 : LkV RX9 306 m_X9_canBe 1 := ⟨(List.forall_mem_cons.mpr ⟨w_1583, (List.forall_mem_cons.mpr ⟨w_1585, (List.forall_mem_cons.mpr ⟨w_54, (List.forall_mem_cons.mpr ⟨w_70, (List.forall_mem_nil _)⟩)⟩)⟩)⟩), gy_X9_canBe⟩
theorem lk_X9_309 : LkV RX9 309 m_X9_highOf 1 := ⟨(List.forall_mem_cons.mpr ⟨w_1609, (List.forall_mem_cons.mpr ⟨w_1611, (List.forall_mem_cons.mpr ⟨w_55, (List.forall_mem_cons.mpr ⟨w_70, (List.forall_mem_nil _)⟩)⟩)⟩)⟩), gy_X9_highOf⟩
theorem kL_X9_312 : Cond.constantLong RX9 312 (29 : Int64) ∈ ALL := w_1621
theorem kL_X9_314 : Cond.constantLong RX9 314 (88 : Int64) ∈ ALL := w_1622
theorem kL_X9_316 : Cond.constantLong RX9 316 (89 : Int64) ∈ ALL := w_1623
theorem kL_X9_318 : Cond.constantLong RX9 318 (20 : Int64) ∈ ALL := w_1631
theorem lk_X9_320 : LkS RX9 320 m_X9_isNear 1 := ⟨(List.forall_mem_cons.mpr ⟨w_1628, (List.forall_mem_cons.mpr ⟨w_1629, (List.forall_mem_cons.mpr ⟨w_70, (List.forall_mem_nil _)⟩)⟩)⟩), gy_X9_isNear⟩
theorem lk_X9_323 : LkV RX9 323 m_X9_isHit 4 := ⟨(List.forall_mem_cons.mpr ⟨w_1632, (List.forall_mem_cons.mpr ⟨w_1634, (List.forall_mem_cons.mpr ⟨w_56, (List.forall_mem_cons.mpr ⟨w_70, (List.forall_mem_nil _)⟩)⟩)⟩)⟩), gy_X9_isHit⟩
theorem knn_180 : (¬ (180 : Int32) < 0) ∧ Int32.toNatClampNeg (180 : Int32) = 180 := by decide
theorem aC_bool : Cond.arrayClass (newarray.typeOf .boolean) ∈ ALL := w_1644
theorem lk_X9_327 : LkV RX9 327 m_X9_chanceOf 3 := ⟨(List.forall_mem_cons.mpr ⟨w_1640, (List.forall_mem_cons.mpr ⟨w_1642, (List.forall_mem_cons.mpr ⟨w_57, (List.forall_mem_cons.mpr ⟨w_70, (List.forall_mem_nil _)⟩)⟩)⟩)⟩), gy_X9_chanceOf⟩
theorem knn_40 : (¬ (40 : Int32) < 0) ∧ Int32.toNatClampNeg (40 : Int32) = 40 := by decide
theorem aC_int : Cond.arrayClass (newarray.typeOf .int) ∈ ALL := w_115
theorem kL_X9_330 : Cond.constantLong RX9 330 (2952 : Int64) ∈ ALL := w_1661
theorem kd_10 : ¬ (10 : Int32) = 0 := by decide
theorem lk_X9_333 : LkV RX9 333 m_X9_below 1 := ⟨(List.forall_mem_cons.mpr ⟨w_1670, (List.forall_mem_cons.mpr ⟨w_1672, (List.forall_mem_cons.mpr ⟨w_59, (List.forall_mem_cons.mpr ⟨w_70, (List.forall_mem_nil _)⟩)⟩)⟩)⟩), gy_X9_below⟩
theorem ks_1080 : (Int16.ofInt (1080)).toInt32 = (1080 : Int32) := by decide
theorem lk_X9_342 : LkV RX9 342 m_X9_goesBy 0 := ⟨(List.forall_mem_cons.mpr ⟨w_1666, (List.forall_mem_cons.mpr ⟨w_1668, (List.forall_mem_cons.mpr ⟨w_58, (List.forall_mem_cons.mpr ⟨w_70, (List.forall_mem_nil _)⟩)⟩)⟩)⟩), gy_X9_goesBy⟩
theorem lf_X9_349 : LkF RX9 349 9 20 := ⟨RX9, TX9, 29, rfl, wsin_X9, Nat.le_of_ble_eq_true rfl, w_1153⟩
theorem kL_X9_352 : Cond.constantLong RX9 352 (12 : Int64) ∈ ALL := w_1695
theorem kL_X9_354 : Cond.constantLong RX9 354 (16 : Int64) ∈ ALL := w_1696
theorem lf_X7_15 : LkF RX7 15 7 1 := ⟨RX7, TX7, 6, rfl, wsin_X7, Nat.le_of_ble_eq_true rfl, w_195⟩
theorem lf_X7_11 : LkF RX7 11 7 0 := ⟨RX7, TX7, 6, rfl, wsin_X7, Nat.le_of_ble_eq_true rfl, w_194⟩
theorem kn_250 : Int32.ofNat 250 = (250 : Int32) := by decide
theorem lp_X7_15 : LkP RX7 15 7 1 false .int := ⟨RX7, TX7, 6, tyX7, rfl, wsin_X7, Nat.le_of_ble_eq_true rfl, w_195, tyX7_ok, nmX7, rfl, by decide +kernel, fun h => Bool.noConfusion h⟩
theorem lf_X7_19 : LkF RX7 19 7 3 := ⟨RX7, TX7, 6, rfl, wsin_X7, Nat.le_of_ble_eq_true rfl, w_197⟩
theorem lf_X7_22 : LkF RX7 22 7 4 := ⟨RX7, TX7, 6, rfl, wsin_X7, Nat.le_of_ble_eq_true rfl, w_198⟩
theorem lp_X7_19 : LkP RX7 19 7 3 false .int := ⟨RX7, TX7, 6, tyX7, rfl, wsin_X7, Nat.le_of_ble_eq_true rfl, w_197, tyX7_ok, nmX7, rfl, by decide +kernel, fun h => Bool.noConfusion h⟩
theorem lk_X7_35 : LkV RX7 35 m_X7_byteAt 1 := ⟨(List.forall_mem_cons.mpr ⟨w_657, (List.forall_mem_cons.mpr ⟨w_659, (List.forall_mem_cons.mpr ⟨w_4, (List.forall_mem_cons.mpr ⟨w_67, (List.forall_mem_nil _)⟩)⟩)⟩)⟩), gy_X7_byteAt⟩
theorem lk_X7_39 : LkS RX7 39 m_X7_tokenOf 1 := ⟨(List.forall_mem_cons.mpr ⟨w_661, (List.forall_mem_cons.mpr ⟨w_662, (List.forall_mem_cons.mpr ⟨w_67, (List.forall_mem_nil _)⟩)⟩)⟩), gy_X7_tokenOf⟩
theorem lp_X7_32 : LkP RX7 32 7 2 false .int := ⟨RX7, TX7, 6, tyX7, rfl, wsin_X7, Nat.le_of_ble_eq_true rfl, w_196, tyX7_ok, nmX7, rfl, by decide +kernel, fun h => Bool.noConfusion h⟩
theorem lk_X7_42 : LkS RX7 42 m_J9_min_7cf53 2 := ⟨(List.forall_mem_cons.mpr ⟨w_664, (List.forall_mem_cons.mpr ⟨w_292, (List.forall_mem_cons.mpr ⟨w_65, (List.forall_mem_nil _)⟩)⟩)⟩), gy_J9_min_7cf53⟩
theorem lp_X7_22 : LkP RX7 22 7 4 false .int := ⟨RX7, TX7, 6, tyX7, rfl, wsin_X7, Nat.le_of_ble_eq_true rfl, w_198, tyX7_ok, nmX7, rfl, by decide +kernel, fun h => Bool.noConfusion h⟩
theorem lf_X7_32 : LkF RX7 32 7 2 := ⟨RX7, TX7, 6, rfl, wsin_X7, Nat.le_of_ble_eq_true rfl, w_196⟩
theorem lk_X7_48 : LkV RX7 48 m_J0_length_8abf5 0 := ⟨(List.forall_mem_cons.mpr ⟨w_674, (List.forall_mem_cons.mpr ⟨w_675, (List.forall_mem_cons.mpr ⟨w_676, (List.forall_mem_cons.mpr ⟨w_74, (List.forall_mem_nil _)⟩)⟩)⟩)⟩), gy_J0_length_8abf5⟩
theorem lk_X7_54 : LkV RX7 54 m_J0_charAt_5068e 1 := ⟨(List.forall_mem_cons.mpr ⟨w_684, (List.forall_mem_cons.mpr ⟨w_685, (List.forall_mem_cons.mpr ⟨w_686, (List.forall_mem_cons.mpr ⟨w_74, (List.forall_mem_nil _)⟩)⟩)⟩)⟩), gy_J0_charAt_5068e⟩
theorem lk_X7_25 : LkV RX7 25 m_X7_step 0 := ⟨(List.forall_mem_cons.mpr ⟨w_653, (List.forall_mem_cons.mpr ⟨w_655, (List.forall_mem_cons.mpr ⟨w_3, (List.forall_mem_cons.mpr ⟨w_67, (List.forall_mem_nil _)⟩)⟩)⟩)⟩), gy_X7_step⟩
theorem lp_X7_102 : LkP RX7 102 7 5 false .int := ⟨RX7, TX7, 6, tyX7, rfl, wsin_X7, Nat.le_of_ble_eq_true rfl, w_199, tyX7_ok, nmX7, rfl, by decide +kernel, fun h => Bool.noConfusion h⟩
theorem lf_X7_102 : LkF RX7 102 7 5 := ⟨RX7, TX7, 6, rfl, wsin_X7, Nat.le_of_ble_eq_true rfl, w_199⟩
theorem lk_X7_105 : LkSN RX7 105 m_X8_isIn 3 "MoonOverTheHill" := ⟨⟨by decide +kernel, (List.forall_mem_cons.mpr ⟨w_281, (List.forall_mem_cons.mpr ⟨w_61, (List.forall_mem_nil _)⟩)⟩)⟩, gy_X8_isIn⟩
theorem lk_X7_109 : LkV RX7 109 m_X7_takeNumber 2 := ⟨(List.forall_mem_cons.mpr ⟨w_726, (List.forall_mem_cons.mpr ⟨w_728, (List.forall_mem_cons.mpr ⟨w_8, (List.forall_mem_cons.mpr ⟨w_67, (List.forall_mem_nil _)⟩)⟩)⟩)⟩), gy_X7_takeNumber⟩
theorem lk_X7_113 : LkV RX7 113 m_X6_setAsked 2 := ⟨(List.forall_mem_cons.mpr ⟨w_731, (List.forall_mem_cons.mpr ⟨w_554, (List.forall_mem_cons.mpr ⟨w_555, (List.forall_mem_cons.mpr ⟨w_62, (List.forall_mem_nil _)⟩)⟩)⟩)⟩), gy_X6_setAsked⟩
theorem lk_X7_117 : LkV RX7 117 m_X1_isFull 0 := ⟨(List.forall_mem_cons.mpr ⟨w_739, (List.forall_mem_cons.mpr ⟨w_562, (List.forall_mem_cons.mpr ⟨w_563, (List.forall_mem_cons.mpr ⟨w_63, (List.forall_mem_nil _)⟩)⟩)⟩)⟩), gy_X1_isFull⟩
theorem lk_X7_123 : LkV RX7 123 m_X1_add 3 := ⟨(List.forall_mem_cons.mpr ⟨w_740, (List.forall_mem_cons.mpr ⟨w_570, (List.forall_mem_cons.mpr ⟨w_571, (List.forall_mem_cons.mpr ⟨w_63, (List.forall_mem_nil _)⟩)⟩)⟩)⟩), gy_X1_add⟩
theorem lk_X7_127 : LkV RX7 127 m_X0_isFull 0 := ⟨(List.forall_mem_cons.mpr ⟨w_746, (List.forall_mem_cons.mpr ⟨w_566, (List.forall_mem_cons.mpr ⟨w_567, (List.forall_mem_cons.mpr ⟨w_64, (List.forall_mem_nil _)⟩)⟩)⟩)⟩), gy_X0_isFull⟩
theorem lk_X7_130 : LkV RX7 130 m_X0_add 1 := ⟨(List.forall_mem_cons.mpr ⟨w_747, (List.forall_mem_cons.mpr ⟨w_574, (List.forall_mem_cons.mpr ⟨w_575, (List.forall_mem_cons.mpr ⟨w_64, (List.forall_mem_nil _)⟩)⟩)⟩)⟩), gy_X0_add⟩
theorem lk_X7_133 : LkV RX7 133 m_X0_contains 1 := ⟨(List.forall_mem_cons.mpr ⟨w_753, (List.forall_mem_cons.mpr ⟨w_524, (List.forall_mem_cons.mpr ⟨w_525, (List.forall_mem_cons.mpr ⟨w_64, (List.forall_mem_nil _)⟩)⟩)⟩)⟩), gy_X0_contains⟩
theorem site_X7_58 : (RX7, 58, "off", ([111, 102, 102] : List Int32)) ∈ sites := by decide +kernel
theorem lk_X7_60 : LkV RX7 60 m_X7_isWord 1 := ⟨(List.forall_mem_cons.mpr ⟨w_670, (List.forall_mem_cons.mpr ⟨w_672, (List.forall_mem_cons.mpr ⟨w_6, (List.forall_mem_cons.mpr ⟨w_67, (List.forall_mem_nil _)⟩)⟩)⟩)⟩), gy_X7_isWord⟩
theorem site_X7_68 : (RX7, 68, "node", ([110, 111, 100, 101] : List Int32)) ∈ sites := by decide +kernel
theorem site_X7_70 : (RX7, 70, "swing", ([115, 119, 105, 110, 103] : List Int32)) ∈ sites := by decide +kernel
theorem site_X7_72 : (RX7, 72, "notch", ([110, 111, 116, 99, 104] : List Int32)) ∈ sites := by decide +kernel
theorem site_X7_84 : (RX7, 84, "stone", ([115, 116, 111, 110, 101] : List Int32)) ∈ sites := by decide +kernel
theorem site_X7_94 : (RX7, 94, "cloud", ([99, 108, 111, 117, 100] : List Int32)) ∈ sites := by decide +kernel
theorem lf_X7_96 : LkF RX7 96 6 6 := ⟨RX6, TX6, 10, rfl, wsin_X6, Nat.le_of_ble_eq_true rfl, w_148⟩
theorem lk_X7_99 : LkV RX7 99 m_X7_takeCloud 1 := ⟨(List.forall_mem_cons.mpr ⟨w_749, (List.forall_mem_cons.mpr ⟨w_751, (List.forall_mem_cons.mpr ⟨w_11, (List.forall_mem_cons.mpr ⟨w_67, (List.forall_mem_nil _)⟩)⟩)⟩)⟩), gy_X7_takeCloud⟩
theorem lf_X7_86 : LkF RX7 86 6 5 := ⟨RX6, TX6, 10, rfl, wsin_X6, Nat.le_of_ble_eq_true rfl, w_146⟩
theorem lk_X7_90 : LkV RX7 90 m_X7_takeStone 1 := ⟨(List.forall_mem_cons.mpr ⟨w_742, (List.forall_mem_cons.mpr ⟨w_744, (List.forall_mem_cons.mpr ⟨w_10, (List.forall_mem_cons.mpr ⟨w_67, (List.forall_mem_nil _)⟩)⟩)⟩)⟩), gy_X7_takeStone⟩
theorem lf_X7_74 : LkF RX7 74 6 4 := ⟨RX6, TX6, 10, rfl, wsin_X6, Nat.le_of_ble_eq_true rfl, w_143⟩
theorem lk_X7_80 : LkV RX7 80 m_X7_takeNotch 1 := ⟨(List.forall_mem_cons.mpr ⟨w_735, (List.forall_mem_cons.mpr ⟨w_737, (List.forall_mem_cons.mpr ⟨w_9, (List.forall_mem_cons.mpr ⟨w_67, (List.forall_mem_nil _)⟩)⟩)⟩)⟩), gy_X7_takeNotch⟩
theorem lk_X7_64 : LkV RX7 64 m_X7_takeAsked 2 := ⟨(List.forall_mem_cons.mpr ⟨w_722, (List.forall_mem_cons.mpr ⟨w_724, (List.forall_mem_cons.mpr ⟨w_7, (List.forall_mem_cons.mpr ⟨w_67, (List.forall_mem_nil _)⟩)⟩)⟩)⟩), gy_X7_takeAsked⟩
theorem lk_X7_28 : LkV RX7 28 m_X7_takeStatement 1 := ⟨(List.forall_mem_cons.mpr ⟨w_665, (List.forall_mem_cons.mpr ⟨w_667, (List.forall_mem_cons.mpr ⟨w_5, (List.forall_mem_cons.mpr ⟨w_67, (List.forall_mem_nil _)⟩)⟩)⟩)⟩), gy_X7_takeStatement⟩
theorem lf_X8_47 : LkF RX8 47 8 6 := ⟨RX8, TX8, 9, rfl, wsin_X8, Nat.le_of_ble_eq_true rfl, w_250⟩
theorem kn_8 : Int32.ofNat 8 = (8 : Int32) := by decide
theorem lf_X8_51 : LkF RX8 51 8 7 := ⟨RX8, TX8, 9, rfl, wsin_X8, Nat.le_of_ble_eq_true rfl, w_251⟩
theorem kn_5 : Int32.ofNat 5 = (5 : Int32) := by decide
theorem lk_X8_56 : LkV RX8 56 m_X8_shelfAt 1 := ⟨(List.forall_mem_cons.mpr ⟨w_276, (List.forall_mem_cons.mpr ⟨w_278, (List.forall_mem_cons.mpr ⟨w_0, (List.forall_mem_cons.mpr ⟨w_61, (List.forall_mem_nil _)⟩)⟩)⟩)⟩), gy_X8_shelfAt⟩
theorem lk_X8_64 : LkV RX8 64 m_X8_refuse 1 := ⟨(List.forall_mem_cons.mpr ⟨w_283, (List.forall_mem_cons.mpr ⟨w_285, (List.forall_mem_cons.mpr ⟨w_1, (List.forall_mem_cons.mpr ⟨w_61, (List.forall_mem_nil _)⟩)⟩)⟩)⟩), gy_X8_refuse⟩
theorem lk_X8_68 : LkV RX8 68 m_X5_putRow 2 := ⟨(List.forall_mem_cons.mpr ⟨w_287, (List.forall_mem_cons.mpr ⟨w_288, (List.forall_mem_cons.mpr ⟨w_289, (List.forall_mem_cons.mpr ⟨w_69, (List.forall_mem_nil _)⟩)⟩)⟩)⟩), gy_X5_putRow⟩
theorem lk_X8_72 : LkV RX8 72 m_X5_refusalAsRow 1 := ⟨(List.forall_mem_cons.mpr ⟨w_301, (List.forall_mem_cons.mpr ⟨w_302, (List.forall_mem_cons.mpr ⟨w_303, (List.forall_mem_cons.mpr ⟨w_69, (List.forall_mem_nil _)⟩)⟩)⟩)⟩), gy_X5_refusalAsRow⟩
theorem lk_X8_75 : LkV RX8 75 m_X5_hasPlaces 2 := ⟨(List.forall_mem_cons.mpr ⟨w_313, (List.forall_mem_cons.mpr ⟨w_314, (List.forall_mem_cons.mpr ⟨w_315, (List.forall_mem_cons.mpr ⟨w_69, (List.forall_mem_nil _)⟩)⟩)⟩)⟩), gy_X5_hasPlaces⟩
theorem lk_X8_79 : LkV RX8 79 m_X5_put 2 := ⟨(List.forall_mem_cons.mpr ⟨w_317, (List.forall_mem_cons.mpr ⟨w_318, (List.forall_mem_cons.mpr ⟨w_319, (List.forall_mem_cons.mpr ⟨w_69, (List.forall_mem_nil _)⟩)⟩)⟩)⟩), gy_X5_put⟩
theorem lk_X8_83 : LkV RX8 83 m_X5_isEvening 0 := ⟨(List.forall_mem_cons.mpr ⟨w_329, (List.forall_mem_cons.mpr ⟨w_306, (List.forall_mem_cons.mpr ⟨w_307, (List.forall_mem_cons.mpr ⟨w_69, (List.forall_mem_nil _)⟩)⟩)⟩)⟩), gy_X5_isEvening⟩
theorem lk_X8_87 : LkV RX8 87 m_X5_isRowOfOtherSort 1 := ⟨(List.forall_mem_cons.mpr ⟨w_330, (List.forall_mem_cons.mpr ⟨w_331, (List.forall_mem_cons.mpr ⟨w_332, (List.forall_mem_cons.mpr ⟨w_69, (List.forall_mem_nil _)⟩)⟩)⟩)⟩), gy_X5_isRowOfOtherSort⟩
theorem lk_X8_91 : LkV RX8 91 m_X5_isBare 0 := ⟨(List.forall_mem_cons.mpr ⟨w_338, (List.forall_mem_cons.mpr ⟨w_310, (List.forall_mem_cons.mpr ⟨w_311, (List.forall_mem_cons.mpr ⟨w_69, (List.forall_mem_nil _)⟩)⟩)⟩)⟩), gy_X5_isBare⟩
theorem lk_X8_94 : LkV RX8 94 m_X5_take 4 := ⟨(List.forall_mem_cons.mpr ⟨w_339, (List.forall_mem_cons.mpr ⟨w_340, (List.forall_mem_cons.mpr ⟨w_341, (List.forall_mem_cons.mpr ⟨w_69, (List.forall_mem_nil _)⟩)⟩)⟩)⟩), gy_X5_take⟩
theorem lk_X8_98 : LkV RX8 98 m_X5_isRow 0 := ⟨(List.forall_mem_cons.mpr ⟨w_351, (List.forall_mem_cons.mpr ⟨w_335, (List.forall_mem_cons.mpr ⟨w_336, (List.forall_mem_cons.mpr ⟨w_69, (List.forall_mem_nil _)⟩)⟩)⟩)⟩), gy_X5_isRow⟩
theorem lk_X8_101 : LkV RX8 101 m_X5_at 1 := ⟨(List.forall_mem_cons.mpr ⟨w_352, (List.forall_mem_cons.mpr ⟨w_353, (List.forall_mem_cons.mpr ⟨w_354, (List.forall_mem_cons.mpr ⟨w_69, (List.forall_mem_nil _)⟩)⟩)⟩)⟩), gy_X5_at⟩
theorem lk_X8_105 : LkV RX8 105 m_X5_content 0 := ⟨(List.forall_mem_cons.mpr ⟨w_360, (List.forall_mem_cons.mpr ⟨w_361, (List.forall_mem_cons.mpr ⟨w_362, (List.forall_mem_cons.mpr ⟨w_69, (List.forall_mem_nil _)⟩)⟩)⟩)⟩), gy_X5_content⟩
theorem lk_X8_109 : LkS RX8 109 m_X8_isKind 1 := ⟨(List.forall_mem_cons.mpr ⟨w_368, (List.forall_mem_cons.mpr ⟨w_369, (List.forall_mem_cons.mpr ⟨w_61, (List.forall_mem_nil _)⟩)⟩)⟩), gy_X8_isKind⟩
theorem lk_X8_116 : LkV RX8 116 m_X5_putEvening 2 := ⟨(List.forall_mem_cons.mpr ⟨w_374, (List.forall_mem_cons.mpr ⟨w_375, (List.forall_mem_cons.mpr ⟨w_376, (List.forall_mem_cons.mpr ⟨w_69, (List.forall_mem_nil _)⟩)⟩)⟩)⟩), gy_X5_putEvening⟩
theorem lk_X8_119 : LkV RX8 119 m_X5_kind 0 := ⟨(List.forall_mem_cons.mpr ⟨w_382, (List.forall_mem_cons.mpr ⟨w_383, (List.forall_mem_cons.mpr ⟨w_384, (List.forall_mem_cons.mpr ⟨w_69, (List.forall_mem_nil _)⟩)⟩)⟩)⟩), gy_X5_kind⟩
theorem lk_X8_122 : LkS RX8 122 m_X8_isUnder 2 := ⟨(List.forall_mem_cons.mpr ⟨w_386, (List.forall_mem_cons.mpr ⟨w_387, (List.forall_mem_cons.mpr ⟨w_61, (List.forall_mem_nil _)⟩)⟩)⟩), gy_X8_isUnder⟩
theorem lf_X8_27 : LkF RX8 27 8 3 := ⟨RX8, TX8, 9, rfl, wsin_X8, Nat.le_of_ble_eq_true rfl, w_247⟩
theorem lk_X8_125 : LkV RX8 125 m_X5_day 0 := ⟨(List.forall_mem_cons.mpr ⟨w_389, (List.forall_mem_cons.mpr ⟨w_390, (List.forall_mem_cons.mpr ⟨w_391, (List.forall_mem_cons.mpr ⟨w_69, (List.forall_mem_nil _)⟩)⟩)⟩)⟩), gy_X5_day⟩
theorem lk_X8_128 : LkV RX8 128 m_X2_saysOf 2 := ⟨(List.forall_mem_cons.mpr ⟨w_393, (List.forall_mem_cons.mpr ⟨w_394, (List.forall_mem_cons.mpr ⟨w_395, (List.forall_mem_cons.mpr ⟨w_66, (List.forall_mem_nil _)⟩)⟩)⟩)⟩), gy_X2_saysOf⟩
theorem ln_X8_132 : LkN RX8 132 4 5 [.int 0, .int 0, .int 0, .int 0, .null] := ⟨RX4, TX4, tyX4, rfl, wsin_X4, tyX4_ok, w_451, w_452, w_73, by decide +kernel⟩
theorem lk_X8_134 : LkI RX8 134 m_X4_init_ 1 := ⟨(List.forall_mem_cons.mpr ⟨w_453, (List.forall_mem_cons.mpr ⟨w_454, (List.forall_mem_cons.mpr ⟨w_73, (List.forall_mem_nil _)⟩)⟩)⟩), gy_X4_init_, rfl, rfl⟩
theorem lk_X8_137 : LkV RX8 137 m_X2_fits 2 := ⟨(List.forall_mem_cons.mpr ⟨w_481, (List.forall_mem_cons.mpr ⟨w_482, (List.forall_mem_cons.mpr ⟨w_483, (List.forall_mem_cons.mpr ⟨w_66, (List.forall_mem_nil _)⟩)⟩)⟩)⟩), gy_X2_fits⟩
theorem lf_X8_10 : LkF RX8 10 8 0 := ⟨RX8, TX8, 9, rfl, wsin_X8, Nat.le_of_ble_eq_true rfl, w_244⟩
theorem lk_X8_141 : LkV RX8 141 m_X6_askedOf 1 := ⟨(List.forall_mem_cons.mpr ⟨w_549, (List.forall_mem_cons.mpr ⟨w_550, (List.forall_mem_cons.mpr ⟨w_551, (List.forall_mem_cons.mpr ⟨w_62, (List.forall_mem_nil _)⟩)⟩)⟩)⟩), gy_X6_askedOf⟩
theorem lk_X8_144 : LkV RX8 144 m_X6_setAsked 2 := ⟨(List.forall_mem_cons.mpr ⟨w_553, (List.forall_mem_cons.mpr ⟨w_554, (List.forall_mem_cons.mpr ⟨w_555, (List.forall_mem_cons.mpr ⟨w_62, (List.forall_mem_nil _)⟩)⟩)⟩)⟩), gy_X6_setAsked⟩
theorem kb_9 : (Int8.ofInt (9)).toInt32 = (9 : Int32) := by decide
theorem lf_X8_147 : LkF RX8 147 6 4 := ⟨RX6, TX6, 10, rfl, wsin_X6, Nat.le_of_ble_eq_true rfl, w_142⟩
theorem lk_X8_151 : LkV RX8 151 m_X1_isFull 0 := ⟨(List.forall_mem_cons.mpr ⟨w_561, (List.forall_mem_cons.mpr ⟨w_562, (List.forall_mem_cons.mpr ⟨w_563, (List.forall_mem_cons.mpr ⟨w_63, (List.forall_mem_nil _)⟩)⟩)⟩)⟩), gy_X1_isFull⟩
theorem lk_X8_156 : LkV RX8 156 m_X1_add 3 := ⟨(List.forall_mem_cons.mpr ⟨w_569, (List.forall_mem_cons.mpr ⟨w_570, (List.forall_mem_cons.mpr ⟨w_571, (List.forall_mem_cons.mpr ⟨w_63, (List.forall_mem_nil _)⟩)⟩)⟩)⟩), gy_X1_add⟩
theorem lk_X8_160 : LkV RX8 160 m_X1_count 0 := ⟨(List.forall_mem_cons.mpr ⟨w_577, (List.forall_mem_cons.mpr ⟨w_507, (List.forall_mem_cons.mpr ⟨w_508, (List.forall_mem_cons.mpr ⟨w_63, (List.forall_mem_nil _)⟩)⟩)⟩)⟩), gy_X1_count⟩
theorem lf_X8_163 : LkF RX8 163 6 5 := ⟨RX6, TX6, 10, rfl, wsin_X6, Nat.le_of_ble_eq_true rfl, w_145⟩
theorem lk_X8_167 : LkV RX8 167 m_X0_isFull 0 := ⟨(List.forall_mem_cons.mpr ⟨w_582, (List.forall_mem_cons.mpr ⟨w_566, (List.forall_mem_cons.mpr ⟨w_567, (List.forall_mem_cons.mpr ⟨w_64, (List.forall_mem_nil _)⟩)⟩)⟩)⟩), gy_X0_isFull⟩
theorem lk_X8_170 : LkV RX8 170 m_X0_add 1 := ⟨(List.forall_mem_cons.mpr ⟨w_583, (List.forall_mem_cons.mpr ⟨w_574, (List.forall_mem_cons.mpr ⟨w_575, (List.forall_mem_cons.mpr ⟨w_64, (List.forall_mem_nil _)⟩)⟩)⟩)⟩), gy_X0_add⟩
theorem lk_X8_172 : LkV RX8 172 m_X0_count 0 := ⟨(List.forall_mem_cons.mpr ⟨w_584, (List.forall_mem_cons.mpr ⟨w_511, (List.forall_mem_cons.mpr ⟨w_512, (List.forall_mem_cons.mpr ⟨w_64, (List.forall_mem_nil _)⟩)⟩)⟩)⟩), gy_X0_count⟩
theorem lf_X8_173 : LkF RX8 173 6 6 := ⟨RX6, TX6, 10, rfl, wsin_X6, Nat.le_of_ble_eq_true rfl, w_149⟩
theorem lk_X8_176 : LkV RX8 176 m_X0_contains 1 := ⟨(List.forall_mem_cons.mpr ⟨w_589, (List.forall_mem_cons.mpr ⟨w_524, (List.forall_mem_cons.mpr ⟨w_525, (List.forall_mem_cons.mpr ⟨w_64, (List.forall_mem_nil _)⟩)⟩)⟩)⟩), gy_X0_contains⟩
theorem lk_X8_179 : LkV RX8 179 m_X1_empty 0 := ⟨(List.forall_mem_cons.mpr ⟨w_594, (List.forall_mem_cons.mpr ⟨w_595, (List.forall_mem_cons.mpr ⟨w_596, (List.forall_mem_cons.mpr ⟨w_63, (List.forall_mem_nil _)⟩)⟩)⟩)⟩), gy_X1_empty⟩
theorem lk_X8_182 : LkV RX8 182 m_X0_empty 0 := ⟨(List.forall_mem_cons.mpr ⟨w_605, (List.forall_mem_cons.mpr ⟨w_599, (List.forall_mem_cons.mpr ⟨w_600, (List.forall_mem_cons.mpr ⟨w_64, (List.forall_mem_nil _)⟩)⟩)⟩)⟩), gy_X0_empty⟩
theorem tsv_0_3 : ∀ i, i < ([(0 : Int32), (1 : Int32), (2 : Int32)] : List Int32).length → (([(0 : Int32), (1 : Int32), (2 : Int32)] : List Int32).getD i 0).toInt = (0 : Int) + i := by decide +kernel
theorem lf_X8_34 : LkF RX8 34 8 4 := ⟨RX8, TX8, 9, rfl, wsin_X8, Nat.le_of_ble_eq_true rfl, w_248⟩
theorem lk_X8_183 : LkV RX8 183 m_X7_isFull 0 := ⟨(List.forall_mem_cons.mpr ⟨w_610, (List.forall_mem_cons.mpr ⟨w_611, (List.forall_mem_cons.mpr ⟨w_612, (List.forall_mem_cons.mpr ⟨w_67, (List.forall_mem_nil _)⟩)⟩)⟩)⟩), gy_X7_isFull⟩
theorem lk_X8_184 : LkV RX8 184 m_X7_add 1 := ⟨(List.forall_mem_cons.mpr ⟨w_614, (List.forall_mem_cons.mpr ⟨w_615, (List.forall_mem_cons.mpr ⟨w_616, (List.forall_mem_cons.mpr ⟨w_67, (List.forall_mem_nil _)⟩)⟩)⟩)⟩), gy_X7_add⟩
theorem lk_X8_185 : LkV RX8 185 m_X7_size 0 := ⟨(List.forall_mem_cons.mpr ⟨w_618, (List.forall_mem_cons.mpr ⟨w_619, (List.forall_mem_cons.mpr ⟨w_620, (List.forall_mem_cons.mpr ⟨w_67, (List.forall_mem_nil _)⟩)⟩)⟩)⟩), gy_X7_size⟩
theorem lk_X8_188 : LkV RX8 188 m_X7_empty 0 := ⟨(List.forall_mem_cons.mpr ⟨w_626, (List.forall_mem_cons.mpr ⟨w_627, (List.forall_mem_cons.mpr ⟨w_628, (List.forall_mem_cons.mpr ⟨w_67, (List.forall_mem_nil _)⟩)⟩)⟩)⟩), gy_X7_empty⟩
theorem lf_X8_16 : LkF RX8 16 8 1 := ⟨RX8, TX8, 9, rfl, wsin_X8, Nat.le_of_ble_eq_true rfl, w_245⟩
theorem lk_X8_189 : LkV RX8 189 m_X6_become 1 := ⟨(List.forall_mem_cons.mpr ⟨w_634, (List.forall_mem_cons.mpr ⟨w_635, (List.forall_mem_cons.mpr ⟨w_636, (List.forall_mem_cons.mpr ⟨w_62, (List.forall_mem_nil _)⟩)⟩)⟩)⟩), gy_X6_become⟩
theorem lk_X8_192 : LkV RX8 192 m_X7_read 1 := ⟨(List.forall_mem_cons.mpr ⟨w_649, (List.forall_mem_cons.mpr ⟨w_650, (List.forall_mem_cons.mpr ⟨w_651, (List.forall_mem_cons.mpr ⟨w_67, (List.forall_mem_nil _)⟩)⟩)⟩)⟩), gy_X7_read⟩
theorem lk_X8_196 : LkV RX8 196 m_X7_fault 0 := ⟨(List.forall_mem_cons.mpr ⟨w_754, (List.forall_mem_cons.mpr ⟨w_755, (List.forall_mem_cons.mpr ⟨w_756, (List.forall_mem_cons.mpr ⟨w_67, (List.forall_mem_nil _)⟩)⟩)⟩)⟩), gy_X7_fault⟩
theorem kb_m20 : (Int8.ofInt (-20)).toInt32 = (-20 : Int32) := by decide
theorem lk_X8_199 : LkV RX8 199 m_X1_partOf 2 := ⟨(List.forall_mem_cons.mpr ⟨w_763, (List.forall_mem_cons.mpr ⟨w_764, (List.forall_mem_cons.mpr ⟨w_765, (List.forall_mem_cons.mpr ⟨w_63, (List.forall_mem_nil _)⟩)⟩)⟩)⟩), gy_X1_partOf⟩
theorem lk_X8_202 : LkV RX8 202 m_X8_isStone 1 := ⟨(List.forall_mem_cons.mpr ⟨w_771, (List.forall_mem_cons.mpr ⟨w_773, (List.forall_mem_cons.mpr ⟨w_12, (List.forall_mem_cons.mpr ⟨w_61, (List.forall_mem_nil _)⟩)⟩)⟩)⟩), gy_X8_isStone⟩
theorem lk_X8_205 : LkV RX8 205 m_X0_at 1 := ⟨(List.forall_mem_cons.mpr ⟨w_775, (List.forall_mem_cons.mpr ⟨w_515, (List.forall_mem_cons.mpr ⟨w_516, (List.forall_mem_cons.mpr ⟨w_64, (List.forall_mem_nil _)⟩)⟩)⟩)⟩), gy_X0_at⟩
theorem ks_999 : (Int16.ofInt (999)).toInt32 = (999 : Int32) := by decide
theorem lk_X8_207 : LkV RX8 207 m_X1_lineAt 1 := ⟨(List.forall_mem_cons.mpr ⟨w_780, (List.forall_mem_cons.mpr ⟨w_434, (List.forall_mem_cons.mpr ⟨w_435, (List.forall_mem_cons.mpr ⟨w_63, (List.forall_mem_nil _)⟩)⟩)⟩)⟩), gy_X1_lineAt⟩
theorem lk_X8_210 : LkV RX8 210 m_X2_ageOf 1 := ⟨(List.forall_mem_cons.mpr ⟨w_785, (List.forall_mem_cons.mpr ⟨w_398, (List.forall_mem_cons.mpr ⟨w_399, (List.forall_mem_cons.mpr ⟨w_66, (List.forall_mem_nil _)⟩)⟩)⟩)⟩), gy_X2_ageOf⟩
theorem lk_X8_213 : LkV RX8 213 m_X2_litOf 1 := ⟨(List.forall_mem_cons.mpr ⟨w_786, (List.forall_mem_cons.mpr ⟨w_537, (List.forall_mem_cons.mpr ⟨w_538, (List.forall_mem_cons.mpr ⟨w_66, (List.forall_mem_nil _)⟩)⟩)⟩)⟩), gy_X2_litOf⟩
theorem lk_X8_216 : LkV RX8 216 m_X2_outOf 1 := ⟨(List.forall_mem_cons.mpr ⟨w_787, (List.forall_mem_cons.mpr ⟨w_417, (List.forall_mem_cons.mpr ⟨w_418, (List.forall_mem_cons.mpr ⟨w_66, (List.forall_mem_nil _)⟩)⟩)⟩)⟩), gy_X2_outOf⟩
theorem lk_X8_219 : LkV RX8 219 m_X2_riseOf 1 := ⟨(List.forall_mem_cons.mpr ⟨w_788, (List.forall_mem_cons.mpr ⟨w_789, (List.forall_mem_cons.mpr ⟨w_790, (List.forall_mem_cons.mpr ⟨w_66, (List.forall_mem_nil _)⟩)⟩)⟩)⟩), gy_X2_riseOf⟩
theorem lk_X8_222 : LkV RX8 222 m_X2_wayOf 1 := ⟨(List.forall_mem_cons.mpr ⟨w_792, (List.forall_mem_cons.mpr ⟨w_495, (List.forall_mem_cons.mpr ⟨w_496, (List.forall_mem_cons.mpr ⟨w_66, (List.forall_mem_nil _)⟩)⟩)⟩)⟩), gy_X2_wayOf⟩
theorem lk_X8_225 : LkV RX8 225 m_X2_overOf 1 := ⟨(List.forall_mem_cons.mpr ⟨w_793, (List.forall_mem_cons.mpr ⟨w_794, (List.forall_mem_cons.mpr ⟨w_795, (List.forall_mem_cons.mpr ⟨w_66, (List.forall_mem_nil _)⟩)⟩)⟩)⟩), gy_X2_overOf⟩
theorem lk_X8_228 : LkV RX8 228 m_X2_upOf 1 := ⟨(List.forall_mem_cons.mpr ⟨w_797, (List.forall_mem_cons.mpr ⟨w_409, (List.forall_mem_cons.mpr ⟨w_410, (List.forall_mem_cons.mpr ⟨w_66, (List.forall_mem_nil _)⟩)⟩)⟩)⟩), gy_X2_upOf⟩
theorem lk_X8_231 : LkV RX8 231 m_X2_laterOf 1 := ⟨(List.forall_mem_cons.mpr ⟨w_798, (List.forall_mem_cons.mpr ⟨w_405, (List.forall_mem_cons.mpr ⟨w_406, (List.forall_mem_cons.mpr ⟨w_66, (List.forall_mem_nil _)⟩)⟩)⟩)⟩), gy_X2_laterOf⟩
theorem lk_X8_234 : LkV RX8 234 m_X2_degreeOf 1 := ⟨(List.forall_mem_cons.mpr ⟨w_799, (List.forall_mem_cons.mpr ⟨w_491, (List.forall_mem_cons.mpr ⟨w_492, (List.forall_mem_cons.mpr ⟨w_66, (List.forall_mem_nil _)⟩)⟩)⟩)⟩), gy_X2_degreeOf⟩
theorem tsv_0_9 : ∀ i, i < ([(0 : Int32), (1 : Int32), (2 : Int32), (3 : Int32), (4 : Int32), (5 : Int32), (6 : Int32), (7 : Int32), (8 : Int32)] : List Int32).length → (([(0 : Int32), (1 : Int32), (2 : Int32), (3 : Int32), (4 : Int32), (5 : Int32), (6 : Int32), (7 : Int32), (8 : Int32)] : List Int32).getD i 0).toInt = (0 : Int) + i := by decide +kernel
theorem lk_X8_240 : LkV RX8 240 m_X8_refuseFarBelow 1 := ⟨(List.forall_mem_cons.mpr ⟨w_805, (List.forall_mem_cons.mpr ⟨w_807, (List.forall_mem_cons.mpr ⟨w_13, (List.forall_mem_cons.mpr ⟨w_61, (List.forall_mem_nil _)⟩)⟩)⟩)⟩), gy_X8_refuseFarBelow⟩
theorem lk_X8_237 : LkV RX8 237 m_X2_slantOf 1 := ⟨(List.forall_mem_cons.mpr ⟨w_804, (List.forall_mem_cons.mpr ⟨w_413, (List.forall_mem_cons.mpr ⟨w_414, (List.forall_mem_cons.mpr ⟨w_66, (List.forall_mem_nil _)⟩)⟩)⟩)⟩), gy_X2_slantOf⟩
theorem lk_X8_243 : LkV RX8 243 m_X2_behindOf 1 := ⟨(List.forall_mem_cons.mpr ⟨w_814, (List.forall_mem_cons.mpr ⟨w_499, (List.forall_mem_cons.mpr ⟨w_500, (List.forall_mem_cons.mpr ⟨w_66, (List.forall_mem_nil _)⟩)⟩)⟩)⟩), gy_X2_behindOf⟩
theorem lk_X8_246 : LkS RX8 246 m_X8_areMinutes 2 := ⟨(List.forall_mem_cons.mpr ⟨w_823, (List.forall_mem_cons.mpr ⟨w_824, (List.forall_mem_cons.mpr ⟨w_61, (List.forall_mem_nil _)⟩)⟩)⟩), gy_X8_areMinutes⟩
theorem lk_X8_249 : LkV RX8 249 m_X2_shinesOf 3 := ⟨(List.forall_mem_cons.mpr ⟨w_826, (List.forall_mem_cons.mpr ⟨w_439, (List.forall_mem_cons.mpr ⟨w_440, (List.forall_mem_cons.mpr ⟨w_66, (List.forall_mem_nil _)⟩)⟩)⟩)⟩), gy_X2_shinesOf⟩
theorem lk_X8_253 : LkV RX8 253 m_X2_lightOf 3 := ⟨(List.forall_mem_cons.mpr ⟨w_831, (List.forall_mem_cons.mpr ⟨w_832, (List.forall_mem_cons.mpr ⟨w_833, (List.forall_mem_cons.mpr ⟨w_66, (List.forall_mem_nil _)⟩)⟩)⟩)⟩), gy_X2_lightOf⟩
theorem lk_X8_256 : LkV RX8 256 m_X2_pick 4 := ⟨(List.forall_mem_cons.mpr ⟨w_839, (List.forall_mem_cons.mpr ⟨w_840, (List.forall_mem_cons.mpr ⟨w_841, (List.forall_mem_cons.mpr ⟨w_66, (List.forall_mem_nil _)⟩)⟩)⟩)⟩), gy_X2_pick⟩
theorem lk_X8_260 : LkS RX8 260 m_X8_areDays 2 := ⟨(List.forall_mem_cons.mpr ⟨w_851, (List.forall_mem_cons.mpr ⟨w_852, (List.forall_mem_cons.mpr ⟨w_61, (List.forall_mem_nil _)⟩)⟩)⟩), gy_X8_areDays⟩
theorem lk_X8_263 : LkI RX8 263 m_X4_init__ 4 := ⟨(List.forall_mem_cons.mpr ⟨w_858, (List.forall_mem_cons.mpr ⟨w_859, (List.forall_mem_cons.mpr ⟨w_73, (List.forall_mem_nil _)⟩)⟩)⟩), gy_X4_init__, rfl, rfl⟩
theorem lk_X8_266 : LkV RX8 266 m_X8_orStuck 1 := ⟨(List.forall_mem_cons.mpr ⟨w_861, (List.forall_mem_cons.mpr ⟨w_863, (List.forall_mem_cons.mpr ⟨w_14, (List.forall_mem_cons.mpr ⟨w_61, (List.forall_mem_nil _)⟩)⟩)⟩)⟩), gy_X8_orStuck⟩
theorem ks_9991 : (Int16.ofInt (9991)).toInt32 = (9991 : Int32) := by decide
theorem lk_X8_269 : LkV RX8 269 m_X2_bestOf 3 := ⟨(List.forall_mem_cons.mpr ⟨w_869, (List.forall_mem_cons.mpr ⟨w_870, (List.forall_mem_cons.mpr ⟨w_871, (List.forall_mem_cons.mpr ⟨w_66, (List.forall_mem_nil _)⟩)⟩)⟩)⟩), gy_X2_bestOf⟩
theorem lk_X8_272 : LkS RX8 272 m_X2_lastOf 2 := ⟨(List.forall_mem_cons.mpr ⟨w_891, (List.forall_mem_cons.mpr ⟨w_844, (List.forall_mem_cons.mpr ⟨w_66, (List.forall_mem_nil _)⟩)⟩)⟩), gy_X2_lastOf⟩
theorem ks_9998 : (Int16.ofInt (9998)).toInt32 = (9998 : Int32) := by decide
theorem lk_X8_275 : LkS RX8 275 m_J9_min_7cf53 2 := ⟨(List.forall_mem_cons.mpr ⟨w_912, (List.forall_mem_cons.mpr ⟨w_292, (List.forall_mem_cons.mpr ⟨w_65, (List.forall_mem_nil _)⟩)⟩)⟩), gy_J9_min_7cf53⟩
theorem lk_X8_280 : LkS RX8 280 m_J9_max_7cf53 2 := ⟨(List.forall_mem_cons.mpr ⟨w_913, (List.forall_mem_cons.mpr ⟨w_106, (List.forall_mem_cons.mpr ⟨w_65, (List.forall_mem_nil _)⟩)⟩)⟩), gy_J9_max_7cf53⟩
theorem lk_X8_283 : LkV RX8 283 m_X2_newDaysTill 1 := ⟨(List.forall_mem_cons.mpr ⟨w_922, (List.forall_mem_cons.mpr ⟨w_923, (List.forall_mem_cons.mpr ⟨w_924, (List.forall_mem_cons.mpr ⟨w_66, (List.forall_mem_nil _)⟩)⟩)⟩)⟩), gy_X2_newDaysTill⟩
theorem lk_X8_289 : LkV RX8 289 m_X2_degreeAt 2 := ⟨(List.forall_mem_cons.mpr ⟨w_942, (List.forall_mem_cons.mpr ⟨w_943, (List.forall_mem_cons.mpr ⟨w_944, (List.forall_mem_cons.mpr ⟨w_66, (List.forall_mem_nil _)⟩)⟩)⟩)⟩), gy_X2_degreeAt⟩
theorem lk_X8_286 : LkV RX8 286 m_X2_heightAt 2 := ⟨(List.forall_mem_cons.mpr ⟨w_937, (List.forall_mem_cons.mpr ⟨w_938, (List.forall_mem_cons.mpr ⟨w_939, (List.forall_mem_cons.mpr ⟨w_66, (List.forall_mem_nil _)⟩)⟩)⟩)⟩), gy_X2_heightAt⟩
theorem kL_X8_292 : Cond.constantLong RX8 292 (1000 : Int64) ∈ ALL := w_950
theorem kL_X8_294 : Cond.constantLong RX8 294 (1439 : Int64) ∈ ALL := w_951
theorem lk_X8_296 : LkI RX8 296 m_X4_init___ 1 := ⟨(List.forall_mem_cons.mpr ⟨w_952, (List.forall_mem_cons.mpr ⟨w_953, (List.forall_mem_cons.mpr ⟨w_73, (List.forall_mem_nil _)⟩)⟩)⟩), gy_X4_init___, rfl, rfl⟩
theorem lk_X8_303 : LkV RX8 303 m_X2_couldBegin 1 := ⟨(List.forall_mem_cons.mpr ⟨w_967, (List.forall_mem_cons.mpr ⟨w_968, (List.forall_mem_cons.mpr ⟨w_969, (List.forall_mem_cons.mpr ⟨w_66, (List.forall_mem_nil _)⟩)⟩)⟩)⟩), gy_X2_couldBegin⟩
theorem lk_X8_370 : LkV RX8 370 m_X5_timesOf 2 := ⟨(List.forall_mem_cons.mpr ⟨w_972, (List.forall_mem_cons.mpr ⟨w_973, (List.forall_mem_cons.mpr ⟨w_974, (List.forall_mem_cons.mpr ⟨w_69, (List.forall_mem_nil _)⟩)⟩)⟩)⟩), gy_X5_timesOf⟩
theorem lk_X8_299 : LkV RX8 299 m_X8_toldByMost 2 := ⟨(List.forall_mem_cons.mpr ⟨w_963, (List.forall_mem_cons.mpr ⟨w_965, (List.forall_mem_cons.mpr ⟨w_15, (List.forall_mem_cons.mpr ⟨w_61, (List.forall_mem_nil _)⟩)⟩)⟩)⟩), gy_X8_toldByMost⟩
theorem lk_X8_307 : LkV RX8 307 m_X2_tideAt 2 := ⟨(List.forall_mem_cons.mpr ⟨w_984, (List.forall_mem_cons.mpr ⟨w_985, (List.forall_mem_cons.mpr ⟨w_986, (List.forall_mem_cons.mpr ⟨w_66, (List.forall_mem_nil _)⟩)⟩)⟩)⟩), gy_X2_tideAt⟩
theorem lk_X8_310 : LkV RX8 310 m_X2_highWaterOf 1 := ⟨(List.forall_mem_cons.mpr ⟨w_996, (List.forall_mem_cons.mpr ⟨w_989, (List.forall_mem_cons.mpr ⟨w_990, (List.forall_mem_cons.mpr ⟨w_66, (List.forall_mem_nil _)⟩)⟩)⟩)⟩), gy_X2_highWaterOf⟩
theorem lk_X8_319 : LkV RX8 319 m_X5_threesOfMonths 1 := ⟨(List.forall_mem_cons.mpr ⟨w_1016, (List.forall_mem_cons.mpr ⟨w_1017, (List.forall_mem_cons.mpr ⟨w_1018, (List.forall_mem_cons.mpr ⟨w_69, (List.forall_mem_nil _)⟩)⟩)⟩)⟩), gy_X5_threesOfMonths⟩
theorem lk_X8_316 : LkV RX8 316 m_X5_longestRun 1 := ⟨(List.forall_mem_cons.mpr ⟨w_1011, (List.forall_mem_cons.mpr ⟨w_1012, (List.forall_mem_cons.mpr ⟨w_1013, (List.forall_mem_cons.mpr ⟨w_69, (List.forall_mem_nil _)⟩)⟩)⟩)⟩), gy_X5_longestRun⟩
theorem lk_X8_313 : LkV RX8 313 m_X5_monthCounts 1 := ⟨(List.forall_mem_cons.mpr ⟨w_1001, (List.forall_mem_cons.mpr ⟨w_1002, (List.forall_mem_cons.mpr ⟨w_1003, (List.forall_mem_cons.mpr ⟨w_69, (List.forall_mem_nil _)⟩)⟩)⟩)⟩), gy_X5_monthCounts⟩
theorem lf_X8_41 : LkF RX8 41 8 5 := ⟨RX8, TX8, 9, rfl, wsin_X8, Nat.le_of_ble_eq_true rfl, w_249⟩
theorem lk_X8_374 : LkV RX8 374 m_X3_near 2 := ⟨(List.forall_mem_cons.mpr ⟨w_1041, (List.forall_mem_cons.mpr ⟨w_1042, (List.forall_mem_cons.mpr ⟨w_1043, (List.forall_mem_cons.mpr ⟨w_68, (List.forall_mem_nil _)⟩)⟩)⟩)⟩), gy_X3_near⟩
theorem kb_20 : (Int8.ofInt (20)).toInt32 = (20 : Int32) := by decide
theorem lk_X8_322 : LkV RX8 322 m_X3_gather 3 := ⟨(List.forall_mem_cons.mpr ⟨w_1030, (List.forall_mem_cons.mpr ⟨w_1031, (List.forall_mem_cons.mpr ⟨w_1032, (List.forall_mem_cons.mpr ⟨w_68, (List.forall_mem_nil _)⟩)⟩)⟩)⟩), gy_X3_gather⟩
theorem lk_X8_326 : LkV RX8 326 m_X8_stonesThatHit 1 := ⟨(List.forall_mem_cons.mpr ⟨w_1037, (List.forall_mem_cons.mpr ⟨w_1039, (List.forall_mem_cons.mpr ⟨w_17, (List.forall_mem_cons.mpr ⟨w_61, (List.forall_mem_nil _)⟩)⟩)⟩)⟩), gy_X8_stonesThatHit⟩
theorem lk_X8_329 : LkV RX8 329 m_X3_degreesThatHit 1 := ⟨(List.forall_mem_cons.mpr ⟨w_1050, (List.forall_mem_cons.mpr ⟨w_1051, (List.forall_mem_cons.mpr ⟨w_1052, (List.forall_mem_cons.mpr ⟨w_68, (List.forall_mem_nil _)⟩)⟩)⟩)⟩), gy_X3_degreesThatHit⟩
theorem lk_X8_332 : LkV RX8 332 m_X3_fullest 1 := ⟨(List.forall_mem_cons.mpr ⟨w_1063, (List.forall_mem_cons.mpr ⟨w_1064, (List.forall_mem_cons.mpr ⟨w_1065, (List.forall_mem_cons.mpr ⟨w_68, (List.forall_mem_nil _)⟩)⟩)⟩)⟩), gy_X3_fullest⟩
theorem lk_X8_335 : LkS RX8 335 m_J6_bitCount_0f7a4 1 := ⟨(List.forall_mem_cons.mpr ⟨w_1071, (List.forall_mem_cons.mpr ⟨w_1072, (List.forall_mem_cons.mpr ⟨w_78, (List.forall_mem_nil _)⟩)⟩)⟩), gy_J6_bitCount_0f7a4⟩
theorem ks_2952 : (Int16.ofInt (2952)).toInt32 = (2952 : Int32) := by decide
theorem lk_X8_340 : LkS RX8 340 m_J9_floorMod_7cf53 2 := ⟨(List.forall_mem_cons.mpr ⟨w_1081, (List.forall_mem_cons.mpr ⟨w_424, (List.forall_mem_cons.mpr ⟨w_65, (List.forall_mem_nil _)⟩)⟩)⟩), gy_J9_floorMod_7cf53⟩
theorem lp_X8_343 : LkP RX8 343 6 0 false .int := ⟨RX6, TX6, 10, tyX6, rfl, wsin_X6, Nat.le_of_ble_eq_true rfl, w_133, tyX6_ok, nmX6, rfl, by decide +kernel, fun h => Bool.noConfusion h⟩
theorem lk_X8_377 : LkV RX8 377 m_X6_draw 1 := ⟨(List.forall_mem_cons.mpr ⟨w_1090, (List.forall_mem_cons.mpr ⟨w_1091, (List.forall_mem_cons.mpr ⟨w_1092, (List.forall_mem_cons.mpr ⟨w_62, (List.forall_mem_nil _)⟩)⟩)⟩)⟩), gy_X6_draw⟩
theorem lf_X8_380 : LkF RX8 380 6 3 := ⟨RX6, TX6, 10, rfl, wsin_X6, Nat.le_of_ble_eq_true rfl, w_139⟩
theorem lf_X8_347 : LkF RX8 347 6 7 := ⟨RX6, TX6, 10, rfl, wsin_X6, Nat.le_of_ble_eq_true rfl, w_152⟩
theorem lp_X8_347 : LkP RX8 347 6 7 false .int := ⟨RX6, TX6, 10, tyX6, rfl, wsin_X6, Nat.le_of_ble_eq_true rfl, w_152, tyX6_ok, nmX6, rfl, by decide +kernel, fun h => Bool.noConfusion h⟩
theorem lf_X8_353 : LkF RX8 353 6 8 := ⟨RX6, TX6, 10, rfl, wsin_X6, Nat.le_of_ble_eq_true rfl, w_154⟩
theorem lp_X8_353 : LkP RX8 353 6 8 false .int := ⟨RX6, TX6, 10, tyX6, rfl, wsin_X6, Nat.le_of_ble_eq_true rfl, w_154, tyX6_ok, nmX6, rfl, by decide +kernel, fun h => Bool.noConfusion h⟩
theorem lk_X8_350 : LkV RX8 350 m_X8_letEveningPass 0 := ⟨(List.forall_mem_cons.mpr ⟨w_1086, (List.forall_mem_cons.mpr ⟨w_1088, (List.forall_mem_cons.mpr ⟨w_18, (List.forall_mem_cons.mpr ⟨w_61, (List.forall_mem_nil _)⟩)⟩)⟩)⟩), gy_X8_letEveningPass⟩
theorem lf_X8_356 : LkF RX8 356 6 9 := ⟨RX6, TX6, 10, rfl, wsin_X6, Nat.le_of_ble_eq_true rfl, w_156⟩
theorem lp_X8_356 : LkP RX8 356 6 9 false .int := ⟨RX6, TX6, 10, tyX6, rfl, wsin_X6, Nat.le_of_ble_eq_true rfl, w_156, tyX6_ok, nmX6, rfl, by decide +kernel, fun h => Bool.noConfusion h⟩
theorem lf_X8_19 : LkF RX8 19 8 2 := ⟨RX8, TX8, 9, rfl, wsin_X8, Nat.le_of_ble_eq_true rfl, w_246⟩
theorem lp_X8_359 : LkP RX8 359 8 8 false .boolean := ⟨RX8, TX8, 9, tyX8, rfl, wsin_X8, Nat.le_of_ble_eq_true rfl, w_252, tyX8_ok, nmX8, rfl, by decide +kernel, fun h => Bool.noConfusion h⟩
theorem lf_X8_359 : LkF RX8 359 8 8 := ⟨RX8, TX8, 9, rfl, wsin_X8, Nat.le_of_ble_eq_true rfl, w_252⟩
theorem lk_X8_363 : LkV RX8 363 m_X8_shelvesInUse 0 := ⟨(List.forall_mem_cons.mpr ⟨w_1115, (List.forall_mem_cons.mpr ⟨w_1117, (List.forall_mem_cons.mpr ⟨w_19, (List.forall_mem_cons.mpr ⟨w_61, (List.forall_mem_nil _)⟩)⟩)⟩)⟩), gy_X8_shelvesInUse⟩
theorem kb_12 : (Int8.ofInt (12)).toInt32 = (12 : Int32) := by decide
theorem lk_X8_366 : LkV RX8 366 m_X8_refusalsAt 1 := ⟨(List.forall_mem_cons.mpr ⟨w_1119, (List.forall_mem_cons.mpr ⟨w_1121, (List.forall_mem_cons.mpr ⟨w_20, (List.forall_mem_cons.mpr ⟨w_61, (List.forall_mem_nil _)⟩)⟩)⟩)⟩), gy_X8_refusalsAt⟩

