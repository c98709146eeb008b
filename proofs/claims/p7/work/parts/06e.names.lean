def m_X9_notch : MI := (⟨RX9, "notch", "(III)I"⟩, prog_11_method_20_code, 4, some .int)
theorem gy_X9_notch : goodY m_X9_notch 3 := ⟨w_1336, by decide +kernel, plainFor_of_name (by decide +kernel)⟩
def m_X9_stone : MI := (⟨RX9, "stone", "(I)I"⟩, prog_11_method_21_code, 2, some .int)
theorem gy_X9_stone : goodY m_X9_stone 1 := ⟨w_1346, by decide +kernel, plainFor_of_name (by decide +kernel)⟩
def m_X9_isCloud : MI := (⟨RX9, "isCloud", "(I)Z"⟩, prog_11_method_22_code, 3, some .boolean)
theorem gy_X9_isCloud : goodY m_X9_isCloud 1 := ⟨w_1354, by decide +kernel, plainFor_of_name (by decide +kernel)⟩
def m_X9_cloud : MI := (⟨RX9, "cloud", "(I)I"⟩, prog_11_method_23_code, 2, some .int)
theorem gy_X9_cloud : goodY m_X9_cloud 1 := ⟨w_1350, by decide +kernel, plainFor_of_name (by decide +kernel)⟩
def m_X9_clear : MI := (⟨RX9, "clear", "(I)I"⟩, prog_11_method_24_code, 3, some .int)
theorem gy_X9_clear : goodY m_X9_clear 1 := ⟨w_1358, by decide +kernel, plainFor_of_name (by decide +kernel)⟩
def m_X9_feed : MI := (⟨RX9, "feed", "(I)I"⟩, prog_11_method_25_code, 2, some .int)
theorem gy_X9_feed : goodY m_X9_feed 1 := ⟨w_1363, by decide +kernel, plainFor_of_name (by decide +kernel)⟩
def m_X9_wipe : MI := (⟨RX9, "wipe", "()I"⟩, prog_11_method_26_code, 2, some .int)
theorem gy_X9_wipe : goodY m_X9_wipe 0 := ⟨w_1368, by decide +kernel, plainFor_of_name (by decide +kernel)⟩
def m_X9_isLetter : MI := (⟨RX9, "isLetter", "(I)Z"⟩, prog_11_method_27_code, 1, some .boolean)
theorem gy_X9_isLetter : goodY m_X9_isLetter 1 := ⟨w_1392, by decide +kernel, plainFor_of_name (by decide +kernel)⟩
def m_X9_isDigit : MI := (⟨RX9, "isDigit", "(I)Z"⟩, prog_11_method_28_code, 1, some .boolean)
theorem gy_X9_isDigit : goodY m_X9_isDigit 1 := ⟨w_1395, by decide +kernel, plainFor_of_name (by decide +kernel)⟩
def m_X9_look : MI := (⟨RX9, "look", "()V"⟩, prog_11_method_29_code, 1, none)
theorem gy_X9_look : goodY m_X9_look 0 := ⟨w_1389, by decide +kernel, plainFor_of_name (by decide +kernel)⟩
def m_X9_wrong : MI := (⟨RX9, "wrong", "()Z"⟩, prog_11_method_30_code, 1, some .boolean)
theorem gy_X9_wrong : goodY m_X9_wrong 0 := ⟨w_1423, by decide +kernel, plainFor_of_name (by decide +kernel)⟩
def m_J0_coder_7d493 : MI := (⟨RJ0, "coder", "()B"⟩, prog_14_method_152_code, 1, some .byte)
theorem gy_J0_coder_7d493 : goodY m_J0_coder_7d493 0 := ⟨w_681, by decide +kernel, plainFor_of_name (by decide +kernel)⟩
def m_J0_length_8abf5 : MI := (⟨RJ0, "length", "()I"⟩, prog_14_method_54_code, 1, some .int)
theorem gy_J0_length_8abf5 : goodY m_J0_length_8abf5 0 := ⟨w_677, by decide +kernel, plainFor_of_name (by decide +kernel)⟩
def m_J0_isLatin1_aae02 : MI := (⟨RJ0, "isLatin1", "()Z"⟩, prog_14_method_154_code, 1, some .boolean)
theorem gy_J0_isLatin1_aae02 : goodY m_J0_isLatin1_aae02 0 := ⟨w_691, by decide +kernel, plainFor_of_name (by decide +kernel)⟩
def m_J3_checkIndex_8e157 : MI := (⟨RJ3, "checkIndex", "(IILjava/util/function/BiFunction;)I"⟩, prog_19_method_11_code, 3, some .int)
theorem gy_J3_checkIndex_8e157 : goodY m_J3_checkIndex_8e157 3 := ⟨w_702, by decide +kernel, plainFor_of_name (by decide +kernel)⟩
def m_J0_checkIndex_df160 : MI := (⟨RJ0, "checkIndex", "(II)V"⟩, prog_14_method_155_code, 2, none)
theorem gy_J0_checkIndex_df160 : goodY m_J0_checkIndex_df160 2 := ⟨w_697, by decide +kernel, plainFor_of_name (by decide +kernel)⟩
def m_J1_charAt_3b067 : MI := (⟨RJ1, "charAt", "([BI)C"⟩, prog_15_method_2_code, 2, some .char)
theorem gy_J1_charAt_3b067 : goodY m_J1_charAt_3b067 2 := ⟨w_694, by decide +kernel, plainFor_of_name (by decide +kernel)⟩
def m_J2_length_9d52b : MI := (⟨RJ2, "length", "([B)I"⟩, prog_16_method_6_code, 1, some .int)
theorem gy_J2_length_9d52b : goodY m_J2_length_9d52b 1 := ⟨w_711, by decide +kernel, plainFor_of_name (by decide +kernel)⟩
def m_J2_checkIndex_2214a : MI := (⟨RJ2, "checkIndex", "(I[B)V"⟩, prog_16_method_91_code, 2, none)
theorem gy_J2_checkIndex_2214a : goodY m_J2_checkIndex_2214a 2 := ⟨w_708, by decide +kernel, plainFor_of_name (by decide +kernel)⟩
def m_J2_getChar_3b067 : MI := (⟨RJ2, "getChar", "([BI)C"⟩, prog_16_method_5_code, 2, some .char)
theorem gy_J2_getChar_3b067 : goodY m_J2_getChar_3b067 2 := ⟨w_715, by decide +kernel, plainFor_of_name (by decide +kernel)⟩
def m_J2_charAt_3b067 : MI := (⟨RJ2, "charAt", "([BI)C"⟩, prog_16_method_83_code, 2, some .char)
theorem gy_J2_charAt_3b067 : goodY m_J2_charAt_3b067 2 := ⟨w_705, by decide +kernel, plainFor_of_name (by decide +kernel)⟩
def m_J0_charAt_5068e : MI := (⟨RJ0, "charAt", "(I)C"⟩, prog_14_method_56_code, 2, some .char)
theorem gy_J0_charAt_5068e : goodY m_J0_charAt_5068e 1 := ⟨w_687, by decide +kernel, plainFor_of_name (by decide +kernel)⟩
def m_X9_isWord : MI := (⟨RX9, "isWord", "(Ljava/lang/String;)Z"⟩, prog_11_method_31_code, 3, some .boolean)
theorem gy_X9_isWord : goodY m_X9_isWord 1 := ⟨w_1405, by decide +kernel, plainFor_of_name (by decide +kernel)⟩
def m_X9_number : MI := (⟨RX9, "number", "(III)Z"⟩, prog_11_method_32_code, 4, some .boolean)
theorem gy_X9_number : goodY m_X9_number 3 := ⟨w_1419, by decide +kernel, plainFor_of_name (by decide +kernel)⟩
def m_X9_tells : MI := (⟨RX9, "tells", "(I)Z"⟩, prog_11_method_33_code, 2, some .boolean)
theorem gy_X9_tells : goodY m_X9_tells 1 := ⟨w_1415, by decide +kernel, plainFor_of_name (by decide +kernel)⟩
def m_X9_askedTold : MI := (⟨RX9, "askedTold", "(I)Z"⟩, prog_11_method_34_code, 3, some .boolean)
theorem gy_X9_askedTold : goodY m_X9_askedTold 1 := ⟨w_1411, by decide +kernel, plainFor_of_name (by decide +kernel)⟩
def m_X9_cloudTold : MI := (⟨RX9, "cloudTold", "()Z"⟩, prog_11_method_35_code, 1, some .boolean)
theorem gy_X9_cloudTold : goodY m_X9_cloudTold 0 := ⟨w_1432, by decide +kernel, plainFor_of_name (by decide +kernel)⟩
def m_X9_statement : MI := (⟨RX9, "statement", "()Z"⟩, prog_11_method_36_code, 2, some .boolean)
theorem gy_X9_statement : goodY m_X9_statement 0 := ⟨w_1400, by decide +kernel, plainFor_of_name (by decide +kernel)⟩
def m_X9_readAll : MI := (⟨RX9, "readAll", "()Z"⟩, prog_11_method_37_code, 1, some .boolean)
theorem gy_X9_readAll : goodY m_X9_readAll 0 := ⟨w_1385, by decide +kernel, plainFor_of_name (by decide +kernel)⟩
def m_X9_copyAll : MI := (⟨RX9, "copyAll", "([I[I)V"⟩, prog_11_method_108_code, 3, none)
theorem gy_X9_copyAll : goodY m_X9_copyAll 2 := ⟨w_1381, by decide +kernel, plainFor_of_name (by decide +kernel)⟩
def m_X9_takeFrom : MI := (⟨RX9, "takeFrom", "(LMoonOverTheHillModel;)V"⟩, prog_11_method_109_code, 3, none)
theorem gy_X9_takeFrom : goodY m_X9_takeFrom 1 := ⟨w_1378, by decide +kernel, plainFor_of_name (by decide +kernel)⟩
def m_X9_sky : MI := (⟨RX9, "sky", "()I"⟩, prog_11_method_38_code, 2, some .int)
theorem gy_X9_sky : goodY m_X9_sky 0 := ⟨w_1372, by decide +kernel, plainFor_of_name (by decide +kernel)⟩
def m_X9_notchOf : MI := (⟨RX9, "notchOf", "(II)I"⟩, prog_11_method_39_code, 3, some .int)
theorem gy_X9_notchOf : goodY m_X9_notchOf 2 := ⟨w_1436, by decide +kernel, plainFor_of_name (by decide +kernel)⟩
def m_X9_stoneOf : MI := (⟨RX9, "stoneOf", "(I)I"⟩, prog_11_method_40_code, 2, some .int)
theorem gy_X9_stoneOf : goodY m_X9_stoneOf 1 := ⟨w_1440, by decide +kernel, plainFor_of_name (by decide +kernel)⟩
def m_X9_lit : MI := (⟨RX9, "lit", "(I)I"⟩, prog_11_method_43_code, 3, some .int)
theorem gy_X9_lit : goodY m_X9_lit 1 := ⟨w_1454, by decide +kernel, plainFor_of_name (by decide +kernel)⟩
def m_X9_line : MI := (⟨RX9, "line", "(I)I"⟩, prog_11_method_49_code, 2, some .int)
theorem gy_X9_line : goodY m_X9_line 1 := ⟨w_1444, by decide +kernel, plainFor_of_name (by decide +kernel)⟩
def m_X9_degreeUp : MI := (⟨RX9, "degreeUp", "(I)I"⟩, prog_11_method_52_code, 2, some .int)
theorem gy_X9_degreeUp : goodY m_X9_degreeUp 1 := ⟨w_1458, by decide +kernel, plainFor_of_name (by decide +kernel)⟩
def m_X9_moon : MI := (⟨RX9, "moon", "(II)I"⟩, prog_11_method_54_code, 3, some .int)
theorem gy_X9_moon : goodY m_X9_moon 2 := ⟨w_1449, by decide +kernel, plainFor_of_name (by decide +kernel)⟩
def m_X9_slant : MI := (⟨RX9, "slant", "(I)I"⟩, prog_11_method_55_code, 2, some .int)
theorem gy_X9_slant : goodY m_X9_slant 1 := ⟨w_1462, by decide +kernel, plainFor_of_name (by decide +kernel)⟩
def m_X9_behindOf : MI := (⟨RX9, "behindOf", "(I)I"⟩, prog_11_method_56_code, 6, some .int)
theorem gy_X9_behindOf : goodY m_X9_behindOf 1 := ⟨w_1471, by decide +kernel, plainFor_of_name (by decide +kernel)⟩
def m_X9_behind : MI := (⟨RX9, "behind", "(I)I"⟩, prog_11_method_57_code, 2, some .int)
theorem gy_X9_behind : goodY m_X9_behind 1 := ⟨w_1467, by decide +kernel, plainFor_of_name (by decide +kernel)⟩
def m_X9_is : MI := (⟨RX9, "is", "(II)I"⟩, prog_11_method_59_code, 3, some .int)
theorem gy_X9_is : goodY m_X9_is 2 := ⟨w_1475, by decide +kernel, plainFor_of_name (by decide +kernel)⟩
def m_X9_areMinutes : MI := (⟨RX9, "areMinutes", "(II)Z"⟩, prog_11_method_61_code, 2, some .boolean)
theorem gy_X9_areMinutes : goodY m_X9_areMinutes 2 := ⟨w_1482, by decide +kernel, plainFor_of_name (by decide +kernel)⟩
def m_X9_shines : MI := (⟨RX9, "shines", "(III)I"⟩, prog_11_method_62_code, 4, some .int)
theorem gy_X9_shines : goodY m_X9_shines 3 := ⟨w_1479, by decide +kernel, plainFor_of_name (by decide +kernel)⟩
def m_X9_lightIn : MI := (⟨RX9, "lightIn", "(III)I"⟩, prog_11_method_63_code, 4, some .int)
theorem gy_X9_lightIn : goodY m_X9_lightIn 3 := ⟨w_1490, by decide +kernel, plainFor_of_name (by decide +kernel)⟩
def m_X9_light : MI := (⟨RX9, "light", "(III)I"⟩, prog_11_method_64_code, 4, some .int)
theorem gy_X9_light : goodY m_X9_light 3 := ⟨w_1486, by decide +kernel, plainFor_of_name (by decide +kernel)⟩
def m_X9_grows : MI := (⟨RX9, "grows", "(I)I"⟩, prog_11_method_65_code, 2, some .int)
theorem gy_X9_grows : goodY m_X9_grows 1 := ⟨w_1494, by decide +kernel, plainFor_of_name (by decide +kernel)⟩
def m_X9_lights : MI := (⟨RX9, "lights", "(IIII)I"⟩, prog_11_method_66_code, 7, some .int)
theorem gy_X9_lights : goodY m_X9_lights 4 := ⟨w_1498, by decide +kernel, plainFor_of_name (by decide +kernel)⟩
def m_X9_soonest : MI := (⟨RX9, "soonest", "(II)I"⟩, prog_11_method_67_code, 7, some .int)
theorem gy_X9_soonest : goodY m_X9_soonest 2 := ⟨w_1505, by decide +kernel, plainFor_of_name (by decide +kernel)⟩
def m_X9_next : MI := (⟨RX9, "next", "(II)I"⟩, prog_11_method_68_code, 4, some .int)
theorem gy_X9_next : goodY m_X9_next 2 := ⟨w_1513, by decide +kernel, plainFor_of_name (by decide +kernel)⟩
def m_X9_many : MI := (⟨RX9, "many", "(III)I"⟩, prog_11_method_69_code, 6, some .int)
theorem gy_X9_many : goodY m_X9_many 3 := ⟨w_1517, by decide +kernel, plainFor_of_name (by decide +kernel)⟩
def m_X9_tellsOf : MI := (⟨RX9, "tellsOf", "(III)I"⟩, prog_11_method_70_code, 4, some .int)
theorem gy_X9_tellsOf : goodY m_X9_tellsOf 3 := ⟨w_1525, by decide +kernel, plainFor_of_name (by decide +kernel)⟩
def m_X9_between : MI := (⟨RX9, "between", "(IIIII)I"⟩, prog_11_method_71_code, 9, some .int)
theorem gy_X9_between : goodY m_X9_between 5 := ⟨w_1521, by decide +kernel, plainFor_of_name (by decide +kernel)⟩
def m_X9_walks : MI := (⟨RX9, "walks", "(IIIIII)I"⟩, prog_11_method_72_code, 10, some .int)
theorem gy_X9_walks : goodY m_X9_walks 6 := ⟨w_1529, by decide +kernel, plainFor_of_name (by decide +kernel)⟩
def m_X9_overs : MI := (⟨RX9, "overs", "(IIII)I"⟩, prog_11_method_73_code, 8, some .int)
theorem gy_X9_overs : goodY m_X9_overs 4 := ⟨w_1534, by decide +kernel, plainFor_of_name (by decide +kernel)⟩
def m_X9_alike : MI := (⟨RX9, "alike", "(I)I"⟩, prog_11_method_74_code, 4, some .int)
theorem gy_X9_alike : goodY m_X9_alike 1 := ⟨w_1538, by decide +kernel, plainFor_of_name (by decide +kernel)⟩
def m_X9_lates : MI := (⟨RX9, "lates", "(III)I"⟩, prog_11_method_75_code, 9, some .int)
theorem gy_X9_lates : goodY m_X9_lates 3 := ⟨w_1543, by decide +kernel, plainFor_of_name (by decide +kernel)⟩
def m_X9_sizeOf : MI := (⟨RX9, "sizeOf", "(I)I"⟩, prog_11_method_76_code, 3, some .int)
theorem gy_X9_sizeOf : goodY m_X9_sizeOf 1 := ⟨w_1551, by decide +kernel, plainFor_of_name (by decide +kernel)⟩
def m_X9_farthest : MI := (⟨RX9, "farthest", "(II)I"⟩, prog_11_method_77_code, 5, some .int)
theorem gy_X9_farthest : goodY m_X9_farthest 2 := ⟨w_1547, by decide +kernel, plainFor_of_name (by decide +kernel)⟩
def m_X9_brightest : MI := (⟨RX9, "brightest", "(II)I"⟩, prog_11_method_78_code, 7, some .int)
theorem gy_X9_brightest : goodY m_X9_brightest 2 := ⟨w_1555, by decide +kernel, plainFor_of_name (by decide +kernel)⟩
def m_X9_sees : MI := (⟨RX9, "sees", "(III)I"⟩, prog_11_method_79_code, 5, some .int)
theorem gy_X9_sees : goodY m_X9_sees 3 := ⟨w_1559, by decide +kernel, plainFor_of_name (by decide +kernel)⟩
def m_X9_isPicture : MI := (⟨RX9, "isPicture", "([JI)Z"⟩, prog_11_method_80_code, 5, some .boolean)
theorem gy_X9_isPicture : goodY m_X9_isPicture 2 := ⟨w_1568, by decide +kernel, plainFor_of_name (by decide +kernel)⟩
def m_X9_picture : MI := (⟨RX9, "picture", "(III)I"⟩, prog_11_method_81_code, 9, some .int)
theorem gy_X9_picture : goodY m_X9_picture 3 := ⟨w_1564, by decide +kernel, plainFor_of_name (by decide +kernel)⟩
def m_X9_seen : MI := (⟨RX9, "seen", "(II)I"⟩, prog_11_method_82_code, 4, some .int)
theorem gy_X9_seen : goodY m_X9_seen 2 := ⟨w_1572, by decide +kernel, plainFor_of_name (by decide +kernel)⟩
def m_X9_canBe : MI := (⟨RX9, "canBe", "(J)Z"⟩, prog_11_method_83_code, 3, some .boolean)
theorem gy_X9_canBe : goodY m_X9_canBe 1 := ⟨w_1586, by decide +kernel, plainFor_of_name (by decide +kernel)⟩
def m_X9_noWitnesses : MI := (⟨RX9, "noWitnesses", "(II)I"⟩, prog_11_method_84_code, 4, some .int)
theorem gy_X9_noWitnesses : goodY m_X9_noWitnesses 2 := ⟨w_1582, by decide +kernel, plainFor_of_name (by decide +kernel)⟩
def m_X9_court : MI := (⟨RX9, "court", "(II)I"⟩, prog_11_method_85_code, 9, some .int)
theorem gy_X9_court : goodY m_X9_court 2 := ⟨w_1578, by decide +kernel, plainFor_of_name (by decide +kernel)⟩
def m_X9_eager : MI := (⟨RX9, "eager", "(II)I"⟩, prog_11_method_86_code, 6, some .int)
theorem gy_X9_eager : goodY m_X9_eager 2 := ⟨w_1592, by decide +kernel, plainFor_of_name (by decide +kernel)⟩
def m_X9_date : MI := (⟨RX9, "date", "(I)I"⟩, prog_11_method_87_code, 3, some .int)
theorem gy_X9_date : goodY m_X9_date 1 := ⟨w_1596, by decide +kernel, plainFor_of_name (by decide +kernel)⟩
def m_X9_months : MI := (⟨RX9, "months", "(I)I"⟩, prog_11_method_88_code, 4, some .int)
theorem gy_X9_months : goodY m_X9_months 1 := ⟨w_1600, by decide +kernel, plainFor_of_name (by decide +kernel)⟩
def m_X9_eclipse : MI := (⟨RX9, "eclipse", "(I)I"⟩, prog_11_method_89_code, 4, some .int)
theorem gy_X9_eclipse : goodY m_X9_eclipse 1 := ⟨w_1604, by decide +kernel, plainFor_of_name (by decide +kernel)⟩
def m_X9_highOf : MI := (⟨RX9, "highOf", "(I)I"⟩, prog_11_method_90_code, 2, some .int)
theorem gy_X9_highOf : goodY m_X9_highOf 1 := ⟨w_1612, by decide +kernel, plainFor_of_name (by decide +kernel)⟩
def m_X9_tide : MI := (⟨RX9, "tide", "(II)I"⟩, prog_11_method_91_code, 5, some .int)
theorem gy_X9_tide : goodY m_X9_tide 2 := ⟨w_1608, by decide +kernel, plainFor_of_name (by decide +kernel)⟩
def m_X9_high : MI := (⟨RX9, "high", "(I)I"⟩, prog_11_method_92_code, 2, some .int)
theorem gy_X9_high : goodY m_X9_high 1 := ⟨w_1616, by decide +kernel, plainFor_of_name (by decide +kernel)⟩
def m_X9_bone : MI := (⟨RX9, "bone", "(III)I"⟩, prog_11_method_93_code, 12, some .int)
theorem gy_X9_bone : goodY m_X9_bone 3 := ⟨w_1620, by decide +kernel, plainFor_of_name (by decide +kernel)⟩
def m_X9_isHit : MI := (⟨RX9, "isHit", "(IIII)Z"⟩, prog_11_method_94_code, 7, some .boolean)
theorem gy_X9_isHit : goodY m_X9_isHit 4 := ⟨w_1635, by decide +kernel, plainFor_of_name (by decide +kernel)⟩
def m_X9_isNear : MI := (⟨RX9, "isNear", "(I)Z"⟩, prog_11_method_95_code, 1, some .boolean)
theorem gy_X9_isNear : goodY m_X9_isNear 1 := ⟨w_1630, by decide +kernel, plainFor_of_name (by decide +kernel)⟩
def m_X9_hits : MI := (⟨RX9, "hits", "(III)I"⟩, prog_11_method_96_code, 6, some .int)
theorem gy_X9_hits : goodY m_X9_hits 3 := ⟨w_1627, by decide +kernel, plainFor_of_name (by decide +kernel)⟩
def m_X9_chanceOf : MI := (⟨RX9, "chanceOf", "(III)I"⟩, prog_11_method_97_code, 8, some .int)
theorem gy_X9_chanceOf : goodY m_X9_chanceOf 3 := ⟨w_1643, by decide +kernel, plainFor_of_name (by decide +kernel)⟩
def m_X9_chance : MI := (⟨RX9, "chance", "(III)I"⟩, prog_11_method_98_code, 4, some .int)
theorem gy_X9_chance : goodY m_X9_chance 3 := ⟨w_1639, by decide +kernel, plainFor_of_name (by decide +kernel)⟩
def m_X9_meant : MI := (⟨RX9, "meant", "(III)I"⟩, prog_11_method_99_code, 6, some .int)
theorem gy_X9_meant : goodY m_X9_meant 3 := ⟨w_1648, by decide +kernel, plainFor_of_name (by decide +kernel)⟩
def m_X9_meets : MI := (⟨RX9, "meets", "(III)I"⟩, prog_11_method_100_code, 5, some .int)
theorem gy_X9_meets : goodY m_X9_meets 3 := ⟨w_1652, by decide +kernel, plainFor_of_name (by decide +kernel)⟩
def m_X9_place : MI := (⟨RX9, "place", "(III)I"⟩, prog_11_method_101_code, 11, some .int)
theorem gy_X9_place : goodY m_X9_place 3 := ⟨w_1656, by decide +kernel, plainFor_of_name (by decide +kernel)⟩
def m_X9_told : MI := (⟨RX9, "told", "(II)I"⟩, prog_11_method_102_code, 3, some .int)
theorem gy_X9_told : goodY m_X9_told 2 := ⟨w_1660, by decide +kernel, plainFor_of_name (by decide +kernel)⟩
def m_X9_below : MI := (⟨RX9, "below", "(I)I"⟩, prog_11_method_103_code, 2, some .int)
theorem gy_X9_below : goodY m_X9_below 1 := ⟨w_1673, by decide +kernel, plainFor_of_name (by decide +kernel)⟩
def m_X9_goesBy : MI := (⟨RX9, "goesBy", "()I"⟩, prog_11_method_104_code, 2, some .int)
theorem gy_X9_goesBy : goodY m_X9_goesBy 0 := ⟨w_1669, by decide +kernel, plainFor_of_name (by decide +kernel)⟩
def m_X9_goes : MI := (⟨RX9, "goes", "()I"⟩, prog_11_method_105_code, 1, some .int)
theorem gy_X9_goes : goodY m_X9_goes 0 := ⟨w_1665, by decide +kernel, plainFor_of_name (by decide +kernel)⟩
def m_X9_looks : MI := (⟨RX9, "looks", "(I)I"⟩, prog_11_method_106_code, 3, some .int)
theorem gy_X9_looks : goodY m_X9_looks 1 := ⟨w_1678, by decide +kernel, plainFor_of_name (by decide +kernel)⟩
def m_X9_seed : MI := (⟨RX9, "seed", "(I)I"⟩, prog_11_method_107_code, 3, some .int)
theorem gy_X9_seed : goodY m_X9_seed 1 := ⟨w_1682, by decide +kernel, plainFor_of_name (by decide +kernel)⟩
def m_X9_image : MI := (⟨RX9, "image", "()I"⟩, prog_11_method_110_code, 1, some .int)
theorem gy_X9_image : goodY m_X9_image 0 := ⟨w_1686, by decide +kernel, plainFor_of_name (by decide +kernel)⟩
def m_X9_back : MI := (⟨RX9, "back", "()I"⟩, prog_11_method_111_code, 1, some .int)
theorem gy_X9_back : goodY m_X9_back 0 := ⟨w_1690, by decide +kernel, plainFor_of_name (by decide +kernel)⟩
def m_X9_status : MI := (⟨RX9, "status", "(I)I"⟩, prog_11_method_112_code, 4, some .int)
theorem gy_X9_status : goodY m_X9_status 1 := ⟨w_1694, by decide +kernel, plainFor_of_name (by decide +kernel)⟩
def m_X7_init : MI := (⟨RX7, "<init>", "()V"⟩, prog_9_method_1_code, 1, none)
theorem gy_X7_init : goodY m_X7_init 0 := ⟨w_192, by decide +kernel, plainFor_of_name (by decide +kernel)⟩
def m_X7_size : MI := (⟨RX7, "size", "()I"⟩, prog_9_method_2_code, 1, some .int)
theorem gy_X7_size : goodY m_X7_size 0 := ⟨w_621, by decide +kernel, plainFor_of_name (by decide +kernel)⟩
def m_X7_isFull : MI := (⟨RX7, "isFull", "()Z"⟩, prog_9_method_3_code, 1, some .boolean)
theorem gy_X7_isFull : goodY m_X7_isFull 0 := ⟨w_613, by decide +kernel, plainFor_of_name (by decide +kernel)⟩
def m_X7_add : MI := (⟨RX7, "add", "(I)V"⟩, prog_9_method_4_code, 2, none)
theorem gy_X7_add : goodY m_X7_add 1 := ⟨w_617, by decide +kernel, plainFor_of_name (by decide +kernel)⟩
def m_X7_empty : MI := (⟨RX7, "empty", "()V"⟩, prog_9_method_5_code, 1, none)
theorem gy_X7_empty : goodY m_X7_empty 0 := ⟨w_629, by decide +kernel, plainFor_of_name (by decide +kernel)⟩
def m_X7_fault : MI := (⟨RX7, "fault", "()I"⟩, prog_9_method_6_code, 1, some .int)
theorem gy_X7_fault : goodY m_X7_fault 0 := ⟨w_757, by decide +kernel, plainFor_of_name (by decide +kernel)⟩
def m_X7_byteAt : MI := (⟨RX7, "byteAt", "(I)I"⟩, prog_9_method_8_code, 2, some .int)
theorem gy_X7_byteAt : goodY m_X7_byteAt 1 := ⟨w_660, by decide +kernel, plainFor_of_name (by decide +kernel)⟩
def m_X7_tokenOf : MI := (⟨RX7, "tokenOf", "(I)I"⟩, prog_9_method_9_code, 1, some .int)
theorem gy_X7_tokenOf : goodY m_X7_tokenOf 1 := ⟨w_663, by decide +kernel, plainFor_of_name (by decide +kernel)⟩
def m_X7_step : MI := (⟨RX7, "step", "()V"⟩, prog_9_method_10_code, 2, none)
theorem gy_X7_step : goodY m_X7_step 0 := ⟨w_656, by decide +kernel, plainFor_of_name (by decide +kernel)⟩
def m_X7_isWord : MI := (⟨RX7, "isWord", "(Ljava/lang/String;)Z"⟩, prog_9_method_11_code, 3, some .boolean)
theorem gy_X7_isWord : goodY m_X7_isWord 1 := ⟨w_673, by decide +kernel, plainFor_of_name (by decide +kernel)⟩
def m_X7_takeNumber : MI := (⟨RX7, "takeNumber", "(II)Z"⟩, prog_9_method_13_code, 4, some .boolean)
theorem gy_X7_takeNumber : goodY m_X7_takeNumber 2 := ⟨w_729, by decide +kernel, plainFor_of_name (by decide +kernel)⟩
def m_X7_takeAsked : MI := (⟨RX7, "takeAsked", "(LMoonOverTheHill$State;I)Z"⟩, prog_9_method_14_code, 3, some .boolean)
theorem gy_X7_takeAsked : goodY m_X7_takeAsked 2 := ⟨w_725, by decide +kernel, plainFor_of_name (by decide +kernel)⟩
def m_X7_takeNotch : MI := (⟨RX7, "takeNotch", "(LMoonOverTheHill$Hill;)Z"⟩, prog_9_method_15_code, 4, some .boolean)
theorem gy_X7_takeNotch : goodY m_X7_takeNotch 1 := ⟨w_738, by decide +kernel, plainFor_of_name (by decide +kernel)⟩
def m_X7_takeStone : MI := (⟨RX7, "takeStone", "(LMoonOverTheHill$Few;)Z"⟩, prog_9_method_16_code, 2, some .boolean)
theorem gy_X7_takeStone : goodY m_X7_takeStone 1 := ⟨w_745, by decide +kernel, plainFor_of_name (by decide +kernel)⟩
def m_X7_takeCloud : MI := (⟨RX7, "takeCloud", "(LMoonOverTheHill$Few;)Z"⟩, prog_9_method_17_code, 2, some .boolean)
theorem gy_X7_takeCloud : goodY m_X7_takeCloud 1 := ⟨w_752, by decide +kernel, plainFor_of_name (by decide +kernel)⟩
def m_X7_takeStatement : MI := (⟨RX7, "takeStatement", "(LMoonOverTheHill$State;)Z"⟩, prog_9_method_12_code, 2, some .boolean)
theorem gy_X7_takeStatement : goodY m_X7_takeStatement 1 := ⟨w_668, by decide +kernel, plainFor_of_name (by decide +kernel)⟩
def m_X7_read : MI := (⟨RX7, "read", "(LMoonOverTheHill$State;)I"⟩, prog_9_method_7_code, 3, some .int)
theorem gy_X7_read : goodY m_X7_read 1 := ⟨w_652, by decide +kernel, plainFor_of_name (by decide +kernel)⟩
def m_X8_init : MI := (⟨RX8, "<init>", "()V"⟩, prog_1_method_1_code, 2, none)
theorem gy_X8_init : goodY m_X8_init 0 := ⟨w_83, by decide +kernel, plainFor_of_name (by decide +kernel)⟩
def m_X8_shelfAt : MI := (⟨RX8, "shelfAt", "(I)LMoonOverTheHill$Shelf;"⟩, prog_1_method_69_code, 2, some (.object "MoonOverTheHill$Shelf"))
theorem gy_X8_shelfAt : goodY m_X8_shelfAt 1 := ⟨w_279, by decide +kernel, plainFor_of_name (by decide +kernel)⟩
def m_X8_refuse : MI := (⟨RX8, "refuse", "(I)I"⟩, prog_1_method_70_code, 3, some .int)
theorem gy_X8_refuse : goodY m_X8_refuse 1 := ⟨w_286, by decide +kernel, plainFor_of_name (by decide +kernel)⟩
def m_X8_row : MI := (⟨RX8, "row", "(III)I"⟩, prog_1_method_2_code, 5, some .int)
theorem gy_X8_row : goodY m_X8_row 3 := ⟨w_275, by decide +kernel, plainFor_of_name (by decide +kernel)⟩
def m_X8_set : MI := (⟨RX8, "set", "(IIJ)I"⟩, prog_1_method_3_code, 7, some .int)
theorem gy_X8_set : goodY m_X8_set 3 := ⟨w_300, by decide +kernel, plainFor_of_name (by decide +kernel)⟩
def m_X8_copy : MI := (⟨RX8, "copy", "(IIIII)I"⟩, prog_1_method_4_code, 8, some .int)
theorem gy_X8_copy : goodY m_X8_copy 5 := ⟨w_328, by decide +kernel, plainFor_of_name (by decide +kernel)⟩
def m_X8_element : MI := (⟨RX8, "element", "(II)J"⟩, prog_1_method_5_code, 4, some .long)
theorem gy_X8_element : goodY m_X8_element 2 := ⟨w_350, by decide +kernel, plainFor_of_name (by decide +kernel)⟩
def m_X8_holds : MI := (⟨RX8, "holds", "(I)I"⟩, prog_1_method_6_code, 3, some .int)
theorem gy_X8_holds : goodY m_X8_holds 1 := ⟨w_359, by decide +kernel, plainFor_of_name (by decide +kernel)⟩
def m_X8_evening : MI := (⟨RX8, "evening", "(III)I"⟩, prog_1_method_7_code, 5, some .int)
theorem gy_X8_evening : goodY m_X8_evening 3 := ⟨w_367, by decide +kernel, plainFor_of_name (by decide +kernel)⟩
def m_X8_says : MI := (⟨RX8, "says", "(II)I"⟩, prog_1_method_8_code, 4, some .int)
theorem gy_X8_says : goodY m_X8_says 2 := ⟨w_381, by decide +kernel, plainFor_of_name (by decide +kernel)⟩
def m_X8_isSo : MI := (⟨RX8, "isSo", "(I)I"⟩, prog_1_method_9_code, 3, some .int)
theorem gy_X8_isSo : goodY m_X8_isSo 1 := ⟨w_450, by decide +kernel, plainFor_of_name (by decide +kernel)⟩
def m_X8_ask : MI := (⟨RX8, "ask", "(II)I"⟩, prog_1_method_10_code, 4, some .int)
theorem gy_X8_ask : goodY m_X8_ask 2 := ⟨w_548, by decide +kernel, plainFor_of_name (by decide +kernel)⟩
def m_X8_notch : MI := (⟨RX8, "notch", "(III)I"⟩, prog_1_method_11_code, 4, some .int)
theorem gy_X8_notch : goodY m_X8_notch 3 := ⟨w_560, by decide +kernel, plainFor_of_name (by decide +kernel)⟩
def m_X8_stone : MI := (⟨RX8, "stone", "(I)I"⟩, prog_1_method_12_code, 2, some .int)
theorem gy_X8_stone : goodY m_X8_stone 1 := ⟨w_581, by decide +kernel, plainFor_of_name (by decide +kernel)⟩
def m_X8_cloud : MI := (⟨RX8, "cloud", "(I)I"⟩, prog_1_method_13_code, 2, some .int)
theorem gy_X8_cloud : goodY m_X8_cloud 1 := ⟨w_588, by decide +kernel, plainFor_of_name (by decide +kernel)⟩
def m_X8_clear : MI := (⟨RX8, "clear", "(I)I"⟩, prog_1_method_14_code, 3, some .int)
theorem gy_X8_clear : goodY m_X8_clear 1 := ⟨w_593, by decide +kernel, plainFor_of_name (by decide +kernel)⟩
def m_X8_feed : MI := (⟨RX8, "feed", "(I)I"⟩, prog_1_method_15_code, 2, some .int)
theorem gy_X8_feed : goodY m_X8_feed 1 := ⟨w_609, by decide +kernel, plainFor_of_name (by decide +kernel)⟩
def m_X8_wipe : MI := (⟨RX8, "wipe", "()I"⟩, prog_1_method_16_code, 2, some .int)
theorem gy_X8_wipe : goodY m_X8_wipe 0 := ⟨w_625, by decide +kernel, plainFor_of_name (by decide +kernel)⟩
def m_X8_sky : MI := (⟨RX8, "sky", "()I"⟩, prog_1_method_17_code, 3, some .int)
theorem gy_X8_sky : goodY m_X8_sky 0 := ⟨w_633, by decide +kernel, plainFor_of_name (by decide +kernel)⟩
def m_X8_notchOf : MI := (⟨RX8, "notchOf", "(II)I"⟩, prog_1_method_18_code, 3, some .int)
theorem gy_X8_notchOf : goodY m_X8_notchOf 2 := ⟨w_762, by decide +kernel, plainFor_of_name (by decide +kernel)⟩
def m_X8_isStone : MI := (⟨RX8, "isStone", "(I)Z"⟩, prog_1_method_68_code, 2, some .boolean)
theorem gy_X8_isStone : goodY m_X8_isStone 1 := ⟨w_774, by decide +kernel, plainFor_of_name (by decide +kernel)⟩
def m_X8_stoneOf : MI := (⟨RX8, "stoneOf", "(I)I"⟩, prog_1_method_19_code, 2, some .int)
theorem gy_X8_stoneOf : goodY m_X8_stoneOf 1 := ⟨w_770, by decide +kernel, plainFor_of_name (by decide +kernel)⟩
def m_X8_line : MI := (⟨RX8, "line", "(I)I"⟩, prog_1_method_20_code, 2, some .int)
theorem gy_X8_line : goodY m_X8_line 1 := ⟨w_779, by decide +kernel, plainFor_of_name (by decide +kernel)⟩
def m_X8_moon : MI := (⟨RX8, "moon", "(II)I"⟩, prog_1_method_21_code, 3, some .int)
theorem gy_X8_moon : goodY m_X8_moon 2 := ⟨w_784, by decide +kernel, plainFor_of_name (by decide +kernel)⟩
def m_X8_refuseFarBelow : MI := (⟨RX8, "refuseFarBelow", "(I)I"⟩, prog_1_method_71_code, 2, some .int)
theorem gy_X8_refuseFarBelow : goodY m_X8_refuseFarBelow 1 := ⟨w_808, by decide +kernel, plainFor_of_name (by decide +kernel)⟩
def m_X8_slant : MI := (⟨RX8, "slant", "(I)I"⟩, prog_1_method_22_code, 2, some .int)
theorem gy_X8_slant : goodY m_X8_slant 1 := ⟨w_803, by decide +kernel, plainFor_of_name (by decide +kernel)⟩
def m_X8_behind : MI := (⟨RX8, "behind", "(I)I"⟩, prog_1_method_23_code, 2, some .int)
theorem gy_X8_behind : goodY m_X8_behind 1 := ⟨w_813, by decide +kernel, plainFor_of_name (by decide +kernel)⟩
def m_X8_is : MI := (⟨RX8, "is", "(II)I"⟩, prog_1_method_24_code, 3, some .int)
theorem gy_X8_is : goodY m_X8_is 2 := ⟨w_818, by decide +kernel, plainFor_of_name (by decide +kernel)⟩
def m_X8_shines : MI := (⟨RX8, "shines", "(III)I"⟩, prog_1_method_25_code, 4, some .int)
theorem gy_X8_shines : goodY m_X8_shines 3 := ⟨w_822, by decide +kernel, plainFor_of_name (by decide +kernel)⟩
def m_X8_light : MI := (⟨RX8, "light", "(III)I"⟩, prog_1_method_26_code, 4, some .int)
theorem gy_X8_light : goodY m_X8_light 3 := ⟨w_830, by decide +kernel, plainFor_of_name (by decide +kernel)⟩
def m_X8_next : MI := (⟨RX8, "next", "(II)I"⟩, prog_1_method_27_code, 3, some .int)
theorem gy_X8_next : goodY m_X8_next 2 := ⟨w_838, by decide +kernel, plainFor_of_name (by decide +kernel)⟩
def m_X8_many : MI := (⟨RX8, "many", "(III)I"⟩, prog_1_method_28_code, 4, some .int)
theorem gy_X8_many : goodY m_X8_many 3 := ⟨w_850, by decide +kernel, plainFor_of_name (by decide +kernel)⟩
def m_X8_orStuck : MI := (⟨RX8, "orStuck", "(I)I"⟩, prog_1_method_72_code, 2, some .int)
theorem gy_X8_orStuck : goodY m_X8_orStuck 1 := ⟨w_864, by decide +kernel, plainFor_of_name (by decide +kernel)⟩
def m_X8_between : MI := (⟨RX8, "between", "(IIIII)I"⟩, prog_1_method_29_code, 6, some .int)
theorem gy_X8_between : goodY m_X8_between 5 := ⟨w_857, by decide +kernel, plainFor_of_name (by decide +kernel)⟩
def m_X8_alike : MI := (⟨RX8, "alike", "(I)I"⟩, prog_1_method_30_code, 2, some .int)
theorem gy_X8_alike : goodY m_X8_alike 1 := ⟨w_868, by decide +kernel, plainFor_of_name (by decide +kernel)⟩
def m_X8_farthest : MI := (⟨RX8, "farthest", "(II)I"⟩, prog_1_method_31_code, 3, some .int)
theorem gy_X8_farthest : goodY m_X8_farthest 2 := ⟨w_882, by decide +kernel, plainFor_of_name (by decide +kernel)⟩
def m_X8_grows : MI := (⟨RX8, "grows", "(I)I"⟩, prog_1_method_32_code, 2, some .int)
theorem gy_X8_grows : goodY m_X8_grows 1 := ⟨w_886, by decide +kernel, plainFor_of_name (by decide +kernel)⟩
def m_X8_lights : MI := (⟨RX8, "lights", "(IIII)I"⟩, prog_1_method_33_code, 8, some .int)
theorem gy_X8_lights : goodY m_X8_lights 4 := ⟨w_890, by decide +kernel, plainFor_of_name (by decide +kernel)⟩
def m_X8_soonest : MI := (⟨RX8, "soonest", "(II)I"⟩, prog_1_method_34_code, 3, some .int)
theorem gy_X8_soonest : goodY m_X8_soonest 2 := ⟨w_895, by decide +kernel, plainFor_of_name (by decide +kernel)⟩
def m_X8_brightest : MI := (⟨RX8, "brightest", "(II)I"⟩, prog_1_method_35_code, 3, some .int)
theorem gy_X8_brightest : goodY m_X8_brightest 2 := ⟨w_899, by decide +kernel, plainFor_of_name (by decide +kernel)⟩
def m_X8_walks : MI := (⟨RX8, "walks", "(IIIIII)I"⟩, prog_1_method_36_code, 7, some .int)
theorem gy_X8_walks : goodY m_X8_walks 6 := ⟨w_903, by decide +kernel, plainFor_of_name (by decide +kernel)⟩
def m_X8_overs : MI := (⟨RX8, "overs", "(IIII)I"⟩, prog_1_method_37_code, 5, some .int)
theorem gy_X8_overs : goodY m_X8_overs 4 := ⟨w_907, by decide +kernel, plainFor_of_name (by decide +kernel)⟩
def m_X8_lates : MI := (⟨RX8, "lates", "(III)I"⟩, prog_1_method_38_code, 10, some .int)
theorem gy_X8_lates : goodY m_X8_lates 3 := ⟨w_911, by decide +kernel, plainFor_of_name (by decide +kernel)⟩
def m_X8_date : MI := (⟨RX8, "date", "(I)I"⟩, prog_1_method_39_code, 3, some .int)
theorem gy_X8_date : goodY m_X8_date 1 := ⟨w_917, by decide +kernel, plainFor_of_name (by decide +kernel)⟩
def m_X8_months : MI := (⟨RX8, "months", "(I)I"⟩, prog_1_method_40_code, 2, some .int)
theorem gy_X8_months : goodY m_X8_months 1 := ⟨w_921, by decide +kernel, plainFor_of_name (by decide +kernel)⟩
def m_X8_eclipse : MI := (⟨RX8, "eclipse", "(I)I"⟩, prog_1_method_41_code, 2, some .int)
theorem gy_X8_eclipse : goodY m_X8_eclipse 1 := ⟨w_932, by decide +kernel, plainFor_of_name (by decide +kernel)⟩
def m_X8_sees : MI := (⟨RX8, "sees", "(III)I"⟩, prog_1_method_42_code, 4, some .int)
theorem gy_X8_sees : goodY m_X8_sees 3 := ⟨w_936, by decide +kernel, plainFor_of_name (by decide +kernel)⟩
def m_X8_picture : MI := (⟨RX8, "picture", "(III)I"⟩, prog_1_method_43_code, 10, some .int)
theorem gy_X8_picture : goodY m_X8_picture 3 := ⟨w_949, by decide +kernel, plainFor_of_name (by decide +kernel)⟩
def m_X8_seen : MI := (⟨RX8, "seen", "(II)I"⟩, prog_1_method_44_code, 3, some .int)
theorem gy_X8_seen : goodY m_X8_seen 2 := ⟨w_958, by decide +kernel, plainFor_of_name (by decide +kernel)⟩
def m_X8_toldByMost : MI := (⟨RX8, "toldByMost", "(LMoonOverTheHill$Shelf;I)I"⟩, prog_1_method_75_code, 9, some .int)
theorem gy_X8_toldByMost : goodY m_X8_toldByMost 2 := ⟨w_966, by decide +kernel, plainFor_of_name (by decide +kernel)⟩
def m_X8_court : MI := (⟨RX8, "court", "(II)I"⟩, prog_1_method_45_code, 5, some .int)
theorem gy_X8_court : goodY m_X8_court 2 := ⟨w_962, by decide +kernel, plainFor_of_name (by decide +kernel)⟩
def m_X8_eager : MI := (⟨RX8, "eager", "(II)I"⟩, prog_1_method_46_code, 7, some .int)
theorem gy_X8_eager : goodY m_X8_eager 2 := ⟨w_979, by decide +kernel, plainFor_of_name (by decide +kernel)⟩
def m_X8_tide : MI := (⟨RX8, "tide", "(II)I"⟩, prog_1_method_47_code, 3, some .int)
theorem gy_X8_tide : goodY m_X8_tide 2 := ⟨w_983, by decide +kernel, plainFor_of_name (by decide +kernel)⟩
def m_X8_high : MI := (⟨RX8, "high", "(I)I"⟩, prog_1_method_48_code, 2, some .int)
theorem gy_X8_high : goodY m_X8_high 1 := ⟨w_995, by decide +kernel, plainFor_of_name (by decide +kernel)⟩
def m_X8_bone : MI := (⟨RX8, "bone", "(III)I"⟩, prog_1_method_49_code, 6, some .int)
theorem gy_X8_bone : goodY m_X8_bone 3 := ⟨w_1000, by decide +kernel, plainFor_of_name (by decide +kernel)⟩
def m_X8_stonesThatHit : MI := (⟨RX8, "stonesThatHit", "(I)I"⟩, prog_1_method_76_code, 4, some .int)
theorem gy_X8_stonesThatHit : goodY m_X8_stonesThatHit 1 := ⟨w_1040, by decide +kernel, plainFor_of_name (by decide +kernel)⟩
def m_X8_hits : MI := (⟨RX8, "hits", "(III)I"⟩, prog_1_method_50_code, 4, some .int)
theorem gy_X8_hits : goodY m_X8_hits 3 := ⟨w_1029, by decide +kernel, plainFor_of_name (by decide +kernel)⟩
def m_X8_chance : MI := (⟨RX8, "chance", "(III)I"⟩, prog_1_method_51_code, 4, some .int)
theorem gy_X8_chance : goodY m_X8_chance 3 := ⟨w_1049, by decide +kernel, plainFor_of_name (by decide +kernel)⟩
def m_X8_meets : MI := (⟨RX8, "meets", "(III)I"⟩, prog_1_method_52_code, 5, some .int)
theorem gy_X8_meets : goodY m_X8_meets 3 := ⟨w_1058, by decide +kernel, plainFor_of_name (by decide +kernel)⟩
def m_X8_place : MI := (⟨RX8, "place", "(III)I"⟩, prog_1_method_53_code, 4, some .int)
theorem gy_X8_place : goodY m_X8_place 3 := ⟨w_1062, by decide +kernel, plainFor_of_name (by decide +kernel)⟩
def m_X8_meant : MI := (⟨RX8, "meant", "(III)I"⟩, prog_1_method_54_code, 6, some .int)
theorem gy_X8_meant : goodY m_X8_meant 3 := ⟨w_1070, by decide +kernel, plainFor_of_name (by decide +kernel)⟩
def m_X8_told : MI := (⟨RX8, "told", "(II)I"⟩, prog_1_method_55_code, 4, some .int)
theorem gy_X8_told : goodY m_X8_told 2 := ⟨w_1080, by decide +kernel, plainFor_of_name (by decide +kernel)⟩
def m_X8_letEveningPass : MI := (⟨RX8, "letEveningPass", "()Z"⟩, prog_1_method_77_code, 2, some .boolean)
theorem gy_X8_letEveningPass : goodY m_X8_letEveningPass 0 := ⟨w_1089, by decide +kernel, plainFor_of_name (by decide +kernel)⟩
def m_X8_goes : MI := (⟨RX8, "goes", "()I"⟩, prog_1_method_56_code, 1, some .int)
theorem gy_X8_goes : goodY m_X8_goes 0 := ⟨w_1085, by decide +kernel, plainFor_of_name (by decide +kernel)⟩
def m_X8_looks : MI := (⟨RX8, "looks", "(I)I"⟩, prog_1_method_57_code, 3, some .int)
theorem gy_X8_looks : goodY m_X8_looks 1 := ⟨w_1098, by decide +kernel, plainFor_of_name (by decide +kernel)⟩
def m_X8_seed : MI := (⟨RX8, "seed", "(I)I"⟩, prog_1_method_58_code, 3, some .int)
theorem gy_X8_seed : goodY m_X8_seed 1 := ⟨w_1102, by decide +kernel, plainFor_of_name (by decide +kernel)⟩
def m_X8_image : MI := (⟨RX8, "image", "()I"⟩, prog_1_method_59_code, 1, some .int)
theorem gy_X8_image : goodY m_X8_image 0 := ⟨w_1106, by decide +kernel, plainFor_of_name (by decide +kernel)⟩
def m_X8_back : MI := (⟨RX8, "back", "()I"⟩, prog_1_method_60_code, 1, some .int)
theorem gy_X8_back : goodY m_X8_back 0 := ⟨w_1110, by decide +kernel, plainFor_of_name (by decide +kernel)⟩
def m_X8_shelvesInUse : MI := (⟨RX8, "shelvesInUse", "()I"⟩, prog_1_method_74_code, 4, some .int)
theorem gy_X8_shelvesInUse : goodY m_X8_shelvesInUse 0 := ⟨w_1118, by decide +kernel, plainFor_of_name (by decide +kernel)⟩
def m_X8_refusalsAt : MI := (⟨RX8, "refusalsAt", "(I)I"⟩, prog_1_method_73_code, 2, some .int)
theorem gy_X8_refusalsAt : goodY m_X8_refusalsAt 1 := ⟨w_1122, by decide +kernel, plainFor_of_name (by decide +kernel)⟩
def m_X8_status : MI := (⟨RX8, "status", "(I)I"⟩, prog_1_method_61_code, 2, some .int)
theorem gy_X8_status : goodY m_X8_status 1 := ⟨w_1114, by decide +kernel, plainFor_of_name (by decide +kernel)⟩
theorem ki_1 : Int32.ofInt (1) = (1 : Int32) := by decide
theorem lk_J0_335 : LkV RJ0 335 m_J0_coder_7d493 0 := ⟨(List.forall_mem_cons.mpr ⟨w_678, (List.forall_mem_cons.mpr ⟨w_679, (List.forall_mem_cons.mpr ⟨w_680, (List.forall_mem_cons.mpr ⟨w_74, (List.forall_mem_nil _)⟩)⟩)⟩)⟩), gy_J0_coder_7d493⟩
theorem lk_J0_1059 : LkS RJ0 1059 m_J3_checkIndex_8e157 3 := ⟨(List.forall_mem_cons.mpr ⟨w_700, (List.forall_mem_cons.mpr ⟨w_701, (List.forall_mem_cons.mpr ⟨w_76, (List.forall_mem_nil _)⟩)⟩)⟩), gy_J3_checkIndex_8e157⟩
theorem lk_J1_9 : LkS RJ1 9 m_J0_checkIndex_df160 2 := ⟨(List.forall_mem_cons.mpr ⟨w_695, (List.forall_mem_cons.mpr ⟨w_696, (List.forall_mem_cons.mpr ⟨w_74, (List.forall_mem_nil _)⟩)⟩)⟩), gy_J0_checkIndex_df160⟩
theorem ks_255 : (Int16.ofInt (255)).toInt32 = (255 : Int32) := by decide
theorem lk_J0_492 : LkV RJ0 492 m_J0_isLatin1_aae02 0 := ⟨(List.forall_mem_cons.mpr ⟨w_688, (List.forall_mem_cons.mpr ⟨w_689, (List.forall_mem_cons.mpr ⟨w_690, (List.forall_mem_cons.mpr ⟨w_74, (List.forall_mem_nil _)⟩)⟩)⟩)⟩), gy_J0_isLatin1_aae02⟩
theorem lk_J0_495 : LkS RJ0 495 m_J1_charAt_3b067 2 := ⟨(List.forall_mem_cons.mpr ⟨w_692, (List.forall_mem_cons.mpr ⟨w_693, (List.forall_mem_cons.mpr ⟨w_75, (List.forall_mem_nil _)⟩)⟩)⟩), gy_J1_charAt_3b067⟩
theorem ki_0 : Int32.ofInt (0) = (0 : Int32) := by decide
theorem ks_9999 : (Int16.ofInt (9999)).toInt32 = (9999 : Int32) := by decide
theorem lk_X8_60 : LkS RX8 60 m_X8_isIn 3 := ⟨(List.forall_mem_cons.mpr ⟨w_280, (List.forall_mem_cons.mpr ⟨w_281, (List.forall_mem_cons.mpr ⟨w_61, (List.forall_mem_nil _)⟩)⟩)⟩), gy_X8_isIn⟩
theorem lk_X8_113 : LkS RX8 113 m_X8_isDay 1 := ⟨(List.forall_mem_cons.mpr ⟨w_371, (List.forall_mem_cons.mpr ⟨w_372, (List.forall_mem_cons.mpr ⟨w_61, (List.forall_mem_nil _)⟩)⟩)⟩), gy_X8_isDay⟩
theorem ks_1000 : (Int16.ofInt (1000)).toInt32 = (1000 : Int32) := by decide
theorem ks_1439 : (Int16.ofInt (1439)).toInt32 = (1439 : Int32) := by decide
theorem ki_5 : Int32.ofInt (5) = (5 : Int32) := by decide
theorem ki_2 : Int32.ofInt (2) = (2 : Int32) := by decide
theorem lf_X0_21 : LkF RX0 21 0 1 := ⟨RX0, TX0, 2, rfl, wsin_X0, Nat.le_of_ble_eq_true rfl, w_109⟩
theorem lf_X0_15 : LkF RX0 15 0 0 := ⟨RX0, TX0, 2, rfl, wsin_X0, Nat.le_of_ble_eq_true rfl, w_108⟩
theorem lp_X0_21 : LkP RX0 21 0 1 false .int := ⟨RX0, TX0, 2, tyX0, rfl, wsin_X0, Nat.le_of_ble_eq_true rfl, w_109, tyX0_ok, nmX0, rfl, by decide +kernel, fun h => Bool.noConfusion h⟩
theorem ki_m1 : Int32.ofInt (-1) = (-1 : Int32) := by decide
theorem lk_X0_25 : LkV RX0 25 m_X0_at 1 := ⟨(List.forall_mem_cons.mpr ⟨w_527, (List.forall_mem_cons.mpr ⟨w_515, (List.forall_mem_cons.mpr ⟨w_516, (List.forall_mem_cons.mpr ⟨w_64, (List.forall_mem_nil _)⟩)⟩)⟩)⟩), gy_X0_at⟩
theorem lk_X0_29 : LkV RX0 29 m_X0_add 1 := ⟨(List.forall_mem_cons.mpr ⟨w_646, (List.forall_mem_cons.mpr ⟨w_574, (List.forall_mem_cons.mpr ⟨w_575, (List.forall_mem_cons.mpr ⟨w_64, (List.forall_mem_nil _)⟩)⟩)⟩)⟩), gy_X0_add⟩
theorem lf_X1_16 : LkF RX1 16 1 0 := ⟨RX1, TX1, 4, rfl, wsin_X1, Nat.le_of_ble_eq_true rfl, w_116⟩
theorem lk_X1_30 : LkV RX1 30 m_X0_count 0 := ⟨(List.forall_mem_cons.mpr ⟨w_510, (List.forall_mem_cons.mpr ⟨w_511, (List.forall_mem_cons.mpr ⟨w_512, (List.forall_mem_cons.mpr ⟨w_64, (List.forall_mem_nil _)⟩)⟩)⟩)⟩), gy_X0_count⟩
theorem lk_X1_34 : LkV RX1 34 m_X0_isFull 0 := ⟨(List.forall_mem_cons.mpr ⟨w_565, (List.forall_mem_cons.mpr ⟨w_566, (List.forall_mem_cons.mpr ⟨w_567, (List.forall_mem_cons.mpr ⟨w_64, (List.forall_mem_nil _)⟩)⟩)⟩)⟩), gy_X0_isFull⟩
theorem lk_X1_38 : LkV RX1 38 m_X0_add 1 := ⟨(List.forall_mem_cons.mpr ⟨w_573, (List.forall_mem_cons.mpr ⟨w_574, (List.forall_mem_cons.mpr ⟨w_575, (List.forall_mem_cons.mpr ⟨w_64, (List.forall_mem_nil _)⟩)⟩)⟩)⟩), gy_X0_add⟩
theorem lf_X1_20 : LkF RX1 20 1 1 := ⟨RX1, TX1, 4, rfl, wsin_X1, Nat.le_of_ble_eq_true rfl, w_117⟩
theorem lf_X1_23 : LkF RX1 23 1 2 := ⟨RX1, TX1, 4, rfl, wsin_X1, Nat.le_of_ble_eq_true rfl, w_118⟩
theorem lk_X1_41 : LkS RX1 41 m_J9_max_7cf53 2 := ⟨(List.forall_mem_cons.mpr ⟨w_437, (List.forall_mem_cons.mpr ⟨w_106, (List.forall_mem_cons.mpr ⟨w_65, (List.forall_mem_nil _)⟩)⟩)⟩), gy_J9_max_7cf53⟩
theorem lf_X1_26 : LkF RX1 26 1 3 := ⟨RX1, TX1, 4, rfl, wsin_X1, Nat.le_of_ble_eq_true rfl, w_119⟩
theorem kn_180 : Int32.ofNat 180 = (180 : Int32) := by decide
theorem lk_X1_47 : LkV RX1 47 m_X0_at 1 := ⟨(List.forall_mem_cons.mpr ⟨w_514, (List.forall_mem_cons.mpr ⟨w_515, (List.forall_mem_cons.mpr ⟨w_516, (List.forall_mem_cons.mpr ⟨w_64, (List.forall_mem_nil _)⟩)⟩)⟩)⟩), gy_X0_at⟩
theorem ks_150 : (Int16.ofInt (150)).toInt32 = (150 : Int32) := by decide
theorem ki_4 : Int32.ofInt (4) = (4 : Int32) := by decide
theorem kd_4 : ¬ (4 : Int32) = 0 := by decide
theorem lk_X1_51 : LkV RX1 51 m_X1_lineAt 1 := ⟨(List.forall_mem_cons.mpr ⟨w_433, (List.forall_mem_cons.mpr ⟨w_434, (List.forall_mem_cons.mpr ⟨w_435, (List.forall_mem_cons.mpr ⟨w_63, (List.forall_mem_nil _)⟩)⟩)⟩)⟩), gy_X1_lineAt⟩
theorem lk_X1_54 : LkV RX1 54 m_X1_count 0 := ⟨(List.forall_mem_cons.mpr ⟨w_506, (List.forall_mem_cons.mpr ⟨w_507, (List.forall_mem_cons.mpr ⟨w_508, (List.forall_mem_cons.mpr ⟨w_63, (List.forall_mem_nil _)⟩)⟩)⟩)⟩), gy_X1_count⟩
theorem lk_X1_55 : LkSN RX1 55 m_X8_isIn 3 "MoonOverTheHill" := ⟨⟨by decide +kernel, (List.forall_mem_cons.mpr ⟨w_281, (List.forall_mem_cons.mpr ⟨w_61, (List.forall_mem_nil _)⟩)⟩)⟩, gy_X8_isIn⟩
theorem lk_X1_59 : LkV RX1 59 m_X0_empty 0 := ⟨(List.forall_mem_cons.mpr ⟨w_598, (List.forall_mem_cons.mpr ⟨w_599, (List.forall_mem_cons.mpr ⟨w_600, (List.forall_mem_cons.mpr ⟨w_64, (List.forall_mem_nil _)⟩)⟩)⟩)⟩), gy_X0_empty⟩
theorem lk_X1_62 : LkS RX1 62 m_J7_fill_53178 2 := ⟨(List.forall_mem_cons.mpr ⟨w_602, (List.forall_mem_cons.mpr ⟨w_603, (List.forall_mem_cons.mpr ⟨w_71, (List.forall_mem_nil _)⟩)⟩)⟩), gy_J7_fill_53178⟩
theorem lk_X1_68 : LkV RX1 68 m_X0_become 1 := ⟨(List.forall_mem_cons.mpr ⟨w_642, (List.forall_mem_cons.mpr ⟨w_643, (List.forall_mem_cons.mpr ⟨w_644, (List.forall_mem_cons.mpr ⟨w_64, (List.forall_mem_nil _)⟩)⟩)⟩)⟩), gy_X0_become⟩
theorem ks_180 : (Int16.ofInt (180)).toInt32 = (180 : Int32) := by decide
theorem la_X1_72 : LkA RX1 72 := ⟨w_647, w_346, w_345, w_72⟩
theorem lo_X4_3 : LkO RX4 3 := ⟨w_459, w_85, w_86⟩
theorem lp_X4_9 : LkP RX4 9 4 0 true .int := ⟨RX4, TX4, 5, tyX4, rfl, wsin_X4, Nat.le_of_ble_eq_true rfl, w_460, tyX4_ok, nmX4, rfl, by decide +kernel, fun _ => rfl⟩
theorem lp_X4_15 : LkP RX4 15 4 1 true .int := ⟨RX4, TX4, 5, tyX4, rfl, wsin_X4, Nat.le_of_ble_eq_true rfl, w_462, tyX4_ok, nmX4, rfl, by decide +kernel, fun _ => rfl⟩
theorem lp_X4_18 : LkP RX4 18 4 2 true .int := ⟨RX4, TX4, 5, tyX4, rfl, wsin_X4, Nat.le_of_ble_eq_true rfl, w_464, tyX4_ok, nmX4, rfl, by decide +kernel, fun _ => rfl⟩
theorem lp_X4_21 : LkP RX4 21 4 3 true .int := ⟨RX4, TX4, 5, tyX4, rfl, wsin_X4, Nat.le_of_ble_eq_true rfl, w_466, tyX4_ok, nmX4, rfl, by decide +kernel, fun _ => rfl⟩
theorem lp_X4_24 : LkP RX4 24 4 4 true (.object "MoonOverTheHill$Shelf") := ⟨RX4, TX4, 5, tyX4, rfl, wsin_X4, Nat.le_of_ble_eq_true rfl, w_468, tyX4_ok, nmX4, rfl, by decide +kernel, fun _ => rfl⟩
theorem lk_X4_28 : LkI RX4 28 m_X4_init 5 := ⟨(List.forall_mem_cons.mpr ⟨w_456, (List.forall_mem_cons.mpr ⟨w_457, (List.forall_mem_cons.mpr ⟨w_73, (List.forall_mem_nil _)⟩)⟩)⟩), gy_X4_init, rfl, rfl⟩
theorem kb_11 : (Int8.ofInt (11)).toInt32 = (11 : Int32) := by decide
theorem lf_X5_15 : LkF RX5 15 5 1 := ⟨RX5, TX5, 4, rfl, wsin_X5, Nat.le_of_ble_eq_true rfl, w_231⟩
theorem kb_10 : (Int8.ofInt (10)).toInt32 = (10 : Int32) := by decide
theorem lk_X5_19 : LkV RX5 19 m_X5_isRow 0 := ⟨(List.forall_mem_cons.mpr ⟨w_334, (List.forall_mem_cons.mpr ⟨w_335, (List.forall_mem_cons.mpr ⟨w_336, (List.forall_mem_cons.mpr ⟨w_69, (List.forall_mem_nil _)⟩)⟩)⟩)⟩), gy_X5_isRow⟩
theorem lf_X5_23 : LkF RX5 23 5 3 := ⟨RX5, TX5, 4, rfl, wsin_X5, Nat.le_of_ble_eq_true rfl, w_233⟩
theorem lk_X5_26 : LkV RX5 26 m_X5_isEvening 0 := ⟨(List.forall_mem_cons.mpr ⟨w_305, (List.forall_mem_cons.mpr ⟨w_306, (List.forall_mem_cons.mpr ⟨w_307, (List.forall_mem_cons.mpr ⟨w_69, (List.forall_mem_nil _)⟩)⟩)⟩)⟩), gy_X5_isEvening⟩
theorem lk_X5_29 : LkV RX5 29 m_X5_isBare 0 := ⟨(List.forall_mem_cons.mpr ⟨w_309, (List.forall_mem_cons.mpr ⟨w_310, (List.forall_mem_cons.mpr ⟨w_311, (List.forall_mem_cons.mpr ⟨w_69, (List.forall_mem_nil _)⟩)⟩)⟩)⟩), gy_X5_isBare⟩
theorem lf_X5_32 : LkF RX5 32 5 2 := ⟨RX5, TX5, 4, rfl, wsin_X5, Nat.le_of_ble_eq_true rfl, w_232⟩
theorem kb_m2 : (Int8.ofInt (-2)).toInt32 = (-2 : Int32) := by decide
theorem kb_m4 : (Int8.ofInt (-4)).toInt32 = (-4 : Int32) := by decide
theorem kb_m3 : (Int8.ofInt (-3)).toInt32 = (-3 : Int32) := by decide
theorem lp_X5_15 : LkP RX5 15 5 1 false .int := ⟨RX5, TX5, 4, tyX5, rfl, wsin_X5, Nat.le_of_ble_eq_true rfl, w_231, tyX5_ok, nmX5, rfl, by decide +kernel, fun h => Bool.noConfusion h⟩
theorem lf_X5_11 : LkF RX5 11 5 0 := ⟨RX5, TX5, 4, rfl, wsin_X5, Nat.le_of_ble_eq_true rfl, w_230⟩
theorem kn_40 : Int32.ofNat 40 = (40 : Int32) := by decide
theorem lk_X5_35 : LkS RX5 35 m_J9_min_7cf53 2 := ⟨(List.forall_mem_cons.mpr ⟨w_291, (List.forall_mem_cons.mpr ⟨w_292, (List.forall_mem_cons.mpr ⟨w_65, (List.forall_mem_nil _)⟩)⟩)⟩), gy_J9_min_7cf53⟩
theorem lp_X5_32 : LkP RX5 32 5 2 false .int := ⟨RX5, TX5, 4, tyX5, rfl, wsin_X5, Nat.le_of_ble_eq_true rfl, w_232, tyX5_ok, nmX5, rfl, by decide +kernel, fun h => Bool.noConfusion h⟩
theorem kl_0 : Int64.ofNat (((0 : Fin 2) : Fin 2) : Nat) = (0 : Int64) := by decide
theorem lk_X5_41 : LkS RX5 41 m_J7_fill_d0a16 2 := ⟨(List.forall_mem_cons.mpr ⟨w_294, (List.forall_mem_cons.mpr ⟨w_295, (List.forall_mem_cons.mpr ⟨w_71, (List.forall_mem_nil _)⟩)⟩)⟩), gy_J7_fill_d0a16⟩
theorem lp_X5_23 : LkP RX5 23 5 3 false .int := ⟨RX5, TX5, 4, tyX5, rfl, wsin_X5, Nat.le_of_ble_eq_true rfl, w_233, tyX5_ok, nmX5, rfl, by decide +kernel, fun h => Bool.noConfusion h⟩
theorem kl_1 : Int64.ofNat (((1 : Fin 2) : Fin 2) : Nat) = (1 : Int64) := by decide
theorem tsv_0_5 : ∀ i, i < ([(0 : Int32), (1 : Int32), (2 : Int32), (3 : Int32), (4 : Int32)] : List Int32).length → (([(0 : Int32), (1 : Int32), (2 : Int32), (3 : Int32), (4 : Int32)] : List Int32).getD i 0).toInt = (0 : Int) + i := by decide +kernel
theorem lk_X5_47 : LkV RX5 47 m_X5_cut 1 := ⟨(List.forall_mem_cons.mpr ⟨w_321, (List.forall_mem_cons.mpr ⟨w_323, (List.forall_mem_cons.mpr ⟨w_2, (List.forall_mem_cons.mpr ⟨w_69, (List.forall_mem_nil _)⟩)⟩)⟩)⟩), gy_X5_cut⟩
theorem lk_X5_51 : LkV RX5 51 m_X5_hasPlaces 2 := ⟨(List.forall_mem_cons.mpr ⟨w_343, (List.forall_mem_cons.mpr ⟨w_314, (List.forall_mem_cons.mpr ⟨w_315, (List.forall_mem_cons.mpr ⟨w_69, (List.forall_mem_nil _)⟩)⟩)⟩)⟩), gy_X5_hasPlaces⟩
theorem la_X5_55 : LkA RX5 55 := ⟨w_344, w_346, w_345, w_72⟩
theorem lk_X5_61 : LkV RX5 61 m_X5_at 1 := ⟨(List.forall_mem_cons.mpr ⟨w_544, (List.forall_mem_cons.mpr ⟨w_353, (List.forall_mem_cons.mpr ⟨w_354, (List.forall_mem_cons.mpr ⟨w_69, (List.forall_mem_nil _)⟩)⟩)⟩)⟩), gy_X5_at⟩
theorem kL_X5_65 : Cond.constantLong RX5 65 (29 : Int64) ∈ ALL := w_1009
theorem kL_X5_67 : Cond.constantLong RX5 67 (30 : Int64) ∈ ALL := w_1010
theorem lk_X5_69 : LkV RX5 69 m_X5_isMonthCount 1 := ⟨(List.forall_mem_cons.mpr ⟨w_1005, (List.forall_mem_cons.mpr ⟨w_1007, (List.forall_mem_cons.mpr ⟨w_16, (List.forall_mem_cons.mpr ⟨w_69, (List.forall_mem_nil _)⟩)⟩)⟩)⟩), gy_X5_isMonthCount⟩
theorem lk_X5_73 : LkS RX5 73 m_J9_max_7cf53 2 := ⟨(List.forall_mem_cons.mpr ⟨w_1015, (List.forall_mem_cons.mpr ⟨w_106, (List.forall_mem_cons.mpr ⟨w_65, (List.forall_mem_nil _)⟩)⟩)⟩), gy_J9_max_7cf53⟩
theorem kL_X5_80 : Cond.constantLong RX5 80 (88 : Int64) ∈ ALL := w_1023
theorem kL_X5_84 : Cond.constantLong RX5 84 (22 : Int64) ∈ ALL := w_1025
theorem kL_X5_82 : Cond.constantLong RX5 82 (89 : Int64) ∈ ALL := w_1024
theorem lk_X5_76 : LkS RX5 76 m_X5_isThreeMonths 3 := ⟨(List.forall_mem_cons.mpr ⟨w_1020, (List.forall_mem_cons.mpr ⟨w_1021, (List.forall_mem_cons.mpr ⟨w_69, (List.forall_mem_nil _)⟩)⟩)⟩), gy_X5_isThreeMonths⟩
theorem lf_X6_37 : LkF RX6 37 6 0 := ⟨RX6, TX6, 10, rfl, wsin_X6, Nat.le_of_ble_eq_true rfl, w_131⟩
theorem lf_X6_40 : LkF RX6 40 6 1 := ⟨RX6, TX6, 10, rfl, wsin_X6, Nat.le_of_ble_eq_true rfl, w_134⟩
theorem lf_X6_43 : LkF RX6 43 6 2 := ⟨RX6, TX6, 10, rfl, wsin_X6, Nat.le_of_ble_eq_true rfl, w_136⟩
theorem lf_X6_9 : LkF RX6 9 6 3 := ⟨RX6, TX6, 10, rfl, wsin_X6, Nat.le_of_ble_eq_true rfl, w_138⟩
theorem tsv_0_4 : ∀ i, i < ([(0 : Int32), (1 : Int32), (2 : Int32), (3 : Int32)] : List Int32).length → (([(0 : Int32), (1 : Int32), (2 : Int32), (3 : Int32)] : List Int32).getD i 0).toInt = (0 : Int) + i := by decide +kernel
theorem lp_X6_37 : LkP RX6 37 6 0 false .int := ⟨RX6, TX6, 10, tyX6, rfl, wsin_X6, Nat.le_of_ble_eq_true rfl, w_131, tyX6_ok, nmX6, rfl, by decide +kernel, fun h => Bool.noConfusion h⟩
theorem lp_X6_40 : LkP RX6 40 6 1 false .int := ⟨RX6, TX6, 10, tyX6, rfl, wsin_X6, Nat.le_of_ble_eq_true rfl, w_134, tyX6_ok, nmX6, rfl, by decide +kernel, fun h => Bool.noConfusion h⟩
theorem lp_X6_43 : LkP RX6 43 6 2 false .int := ⟨RX6, TX6, 10, tyX6, rfl, wsin_X6, Nat.le_of_ble_eq_true rfl, w_136, tyX6_ok, nmX6, rfl, by decide +kernel, fun h => Bool.noConfusion h⟩
theorem lp_X6_9 : LkP RX6 9 6 3 false .int := ⟨RX6, TX6, 10, tyX6, rfl, wsin_X6, Nat.le_of_ble_eq_true rfl, w_138, tyX6_ok, nmX6, rfl, by decide +kernel, fun h => Bool.noConfusion h⟩
theorem lf_X6_34 : LkF RX6 34 6 9 := ⟨RX6, TX6, 10, rfl, wsin_X6, Nat.le_of_ble_eq_true rfl, w_155⟩
theorem ks_12345 : (Int16.ofInt (12345)).toInt32 = (12345 : Int32) := by decide
theorem lp_X6_34 : LkP RX6 34 6 9 false .int := ⟨RX6, TX6, 10, tyX6, rfl, wsin_X6, Nat.le_of_ble_eq_true rfl, w_155, tyX6_ok, nmX6, rfl, by decide +kernel, fun h => Bool.noConfusion h⟩
theorem kb_16 : (Int8.ofInt (16)).toInt32 = (16 : Int32) := by decide
theorem lf_X6_18 : LkF RX6 18 6 4 := ⟨RX6, TX6, 10, rfl, wsin_X6, Nat.le_of_ble_eq_true rfl, w_140⟩
theorem lk_X6_47 : LkV RX6 47 m_X1_become 1 := ⟨(List.forall_mem_cons.mpr ⟨w_638, (List.forall_mem_cons.mpr ⟨w_639, (List.forall_mem_cons.mpr ⟨w_640, (List.forall_mem_cons.mpr ⟨w_63, (List.forall_mem_nil _)⟩)⟩)⟩)⟩), gy_X1_become⟩
theorem lf_X6_27 : LkF RX6 27 6 5 := ⟨RX6, TX6, 10, rfl, wsin_X6, Nat.le_of_ble_eq_true rfl, w_144⟩
theorem lk_X6_51 : LkV RX6 51 m_X0_become 1 := ⟨(List.forall_mem_cons.mpr ⟨w_648, (List.forall_mem_cons.mpr ⟨w_643, (List.forall_mem_cons.mpr ⟨w_644, (List.forall_mem_cons.mpr ⟨w_64, (List.forall_mem_nil _)⟩)⟩)⟩)⟩), gy_X0_become⟩
theorem lf_X6_31 : LkF RX6 31 6 6 := ⟨RX6, TX6, 10, rfl, wsin_X6, Nat.le_of_ble_eq_true rfl, w_147⟩
theorem lf_X6_54 : LkF RX6 54 6 7 := ⟨RX6, TX6, 10, rfl, wsin_X6, Nat.le_of_ble_eq_true rfl, w_151⟩
theorem lp_X6_54 : LkP RX6 54 6 7 false .int := ⟨RX6, TX6, 10, tyX6, rfl, wsin_X6, Nat.le_of_ble_eq_true rfl, w_151, tyX6_ok, nmX6, rfl, by decide +kernel, fun h => Bool.noConfusion h⟩
theorem lf_X6_57 : LkF RX6 57 6 8 := ⟨RX6, TX6, 10, rfl, wsin_X6, Nat.le_of_ble_eq_true rfl, w_153⟩
theorem lp_X6_57 : LkP RX6 57 6 8 false .int := ⟨RX6, TX6, 10, tyX6, rfl, wsin_X6, Nat.le_of_ble_eq_true rfl, w_153, tyX6_ok, nmX6, rfl, by decide +kernel, fun h => Bool.noConfusion h⟩
theorem kb_8 : (Int8.ofInt (8)).toInt32 = (8 : Int32) := by decide
theorem kb_63 : (Int8.ofInt (63)).toInt32 = (63 : Int32) := by decide
theorem lk_X2_15 : LkS RX2 15 m_J9_min_7cf53 2 := ⟨(List.forall_mem_cons.mpr ⟨w_445, (List.forall_mem_cons.mpr ⟨w_292, (List.forall_mem_cons.mpr ⟨w_65, (List.forall_mem_nil _)⟩)⟩)⟩), gy_J9_min_7cf53⟩
theorem kb_100 : (Int8.ofInt (100)).toInt32 = (100 : Int32) := by decide
theorem lf_X2_9 : LkF RX2 9 2 0 := ⟨RX2, TX2, 1, rfl, wsin_X2, Nat.le_of_ble_eq_true rfl, w_184⟩
theorem lf_X2_21 : LkF RX2 21 6 0 := ⟨RX6, TX6, 10, rfl, wsin_X6, Nat.le_of_ble_eq_true rfl, w_132⟩
theorem ks_2953 : (Int16.ofInt (2953)).toInt32 = (2953 : Int32) := by decide
theorem kd_2953 : ¬ (2953 : Int32) = 0 := by decide
theorem lk_X2_27 : LkV RX2 27 m_X2_ageOf 1 := ⟨(List.forall_mem_cons.mpr ⟨w_397, (List.forall_mem_cons.mpr ⟨w_398, (List.forall_mem_cons.mpr ⟨w_399, (List.forall_mem_cons.mpr ⟨w_66, (List.forall_mem_nil _)⟩)⟩)⟩)⟩), gy_X2_ageOf⟩
theorem ks_1476 : (Int16.ofInt (1476)).toInt32 = (1476 : Int32) := by decide
theorem ks_1477 : (Int16.ofInt (1477)).toInt32 = (1477 : Int32) := by decide
theorem kd_1477 : ¬ (1477 : Int32) = 0 := by decide
theorem kd_1476 : ¬ (1476 : Int32) = 0 := by decide
theorem lf_X2_31 : LkF RX2 31 6 2 := ⟨RX6, TX6, 10, rfl, wsin_X6, Nat.le_of_ble_eq_true rfl, w_137⟩
theorem ks_6793 : (Int16.ofInt (6793)).toInt32 = (6793 : Int32) := by decide
theorem kd_6793 : ¬ (6793 : Int32) = 0 := by decide
theorem ks_3396 : (Int16.ofInt (3396)).toInt32 = (3396 : Int32) := by decide
theorem kb_18 : (Int8.ofInt (18)).toInt32 = (18 : Int32) := by decide
theorem ks_3397 : (Int16.ofInt (3397)).toInt32 = (3397 : Int32) := by decide
theorem kd_3397 : ¬ (3397 : Int32) = 0 := by decide
theorem kd_3396 : ¬ (3396 : Int32) = 0 := by decide
theorem lk_X2_34 : LkV RX2 34 m_X2_outOf 1 := ⟨(List.forall_mem_cons.mpr ⟨w_416, (List.forall_mem_cons.mpr ⟨w_417, (List.forall_mem_cons.mpr ⟨w_418, (List.forall_mem_cons.mpr ⟨w_66, (List.forall_mem_nil _)⟩)⟩)⟩)⟩), gy_X2_outOf⟩
theorem lf_X2_37 : LkF RX2 37 6 1 := ⟨RX6, TX6, 10, rfl, wsin_X6, Nat.le_of_ble_eq_true rfl, w_135⟩
theorem ks_2732 : (Int16.ofInt (2732)).toInt32 = (2732 : Int32) := by decide
theorem kd_2732 : ¬ (2732 : Int32) = 0 := by decide
theorem ks_683 : (Int16.ofInt (683)).toInt32 = (683 : Int32) := by decide
theorem ks_2049 : (Int16.ofInt (2049)).toInt32 = (2049 : Int32) := by decide
theorem kd_683 : ¬ (683 : Int32) = 0 := by decide
theorem ks_1366 : (Int16.ofInt (1366)).toInt32 = (1366 : Int32) := by decide
theorem ks_360 : (Int16.ofInt (360)).toInt32 = (360 : Int32) := by decide
theorem ks_1440 : (Int16.ofInt (1440)).toInt32 = (1440 : Int32) := by decide
theorem ki_3 : Int32.ofInt (3) = (3 : Int32) := by decide
theorem kd_1440 : ¬ (1440 : Int32) = 0 := by decide
theorem lk_X2_40 : LkS RX2 40 m_J9_floorMod_7cf53 2 := ⟨(List.forall_mem_cons.mpr ⟨w_423, (List.forall_mem_cons.mpr ⟨w_424, (List.forall_mem_cons.mpr ⟨w_65, (List.forall_mem_nil _)⟩)⟩)⟩), gy_J9_floorMod_7cf53⟩
theorem kb_90 : (Int8.ofInt (90)).toInt32 = (90 : Int32) := by decide
theorem lk_X2_43 : LkV RX2 43 m_X2_slantOf 1 := ⟨(List.forall_mem_cons.mpr ⟨w_412, (List.forall_mem_cons.mpr ⟨w_413, (List.forall_mem_cons.mpr ⟨w_414, (List.forall_mem_cons.mpr ⟨w_66, (List.forall_mem_nil _)⟩)⟩)⟩)⟩), gy_X2_slantOf⟩
theorem lk_X2_46 : LkS RX2 46 m_X2_riseBy 2 := ⟨(List.forall_mem_cons.mpr ⟨w_420, (List.forall_mem_cons.mpr ⟨w_421, (List.forall_mem_cons.mpr ⟨w_66, (List.forall_mem_nil _)⟩)⟩)⟩), gy_X2_riseBy⟩
theorem lk_X2_49 : LkS RX2 49 m_X2_wayBy 1 := ⟨(List.forall_mem_cons.mpr ⟨w_426, (List.forall_mem_cons.mpr ⟨w_427, (List.forall_mem_cons.mpr ⟨w_66, (List.forall_mem_nil _)⟩)⟩)⟩), gy_X2_wayBy⟩
theorem lf_X2_52 : LkF RX2 52 6 4 := ⟨RX6, TX6, 10, rfl, wsin_X6, Nat.le_of_ble_eq_true rfl, w_141⟩
theorem lk_X2_56 : LkV RX2 56 m_X2_wayOf 1 := ⟨(List.forall_mem_cons.mpr ⟨w_494, (List.forall_mem_cons.mpr ⟨w_495, (List.forall_mem_cons.mpr ⟨w_496, (List.forall_mem_cons.mpr ⟨w_66, (List.forall_mem_nil _)⟩)⟩)⟩)⟩), gy_X2_wayOf⟩
theorem lk_X2_59 : LkV RX2 59 m_X1_overFrom 1 := ⟨(List.forall_mem_cons.mpr ⟨w_429, (List.forall_mem_cons.mpr ⟨w_430, (List.forall_mem_cons.mpr ⟨w_431, (List.forall_mem_cons.mpr ⟨w_63, (List.forall_mem_nil _)⟩)⟩)⟩)⟩), gy_X1_overFrom⟩
theorem lk_X2_64 : LkV RX2 64 m_X2_upOf 1 := ⟨(List.forall_mem_cons.mpr ⟨w_408, (List.forall_mem_cons.mpr ⟨w_409, (List.forall_mem_cons.mpr ⟨w_410, (List.forall_mem_cons.mpr ⟨w_66, (List.forall_mem_nil _)⟩)⟩)⟩)⟩), gy_X2_upOf⟩
theorem lk_X2_67 : LkV RX2 67 m_X1_makerOf 1 := ⟨(List.forall_mem_cons.mpr ⟨w_502, (List.forall_mem_cons.mpr ⟨w_503, (List.forall_mem_cons.mpr ⟨w_504, (List.forall_mem_cons.mpr ⟨w_63, (List.forall_mem_nil _)⟩)⟩)⟩)⟩), gy_X1_makerOf⟩
theorem ks_600 : (Int16.ofInt (600)).toInt32 = (600 : Int32) := by decide
theorem lk_X2_70 : LkS RX2 70 m_J9_max_7cf53 2 := ⟨(List.forall_mem_cons.mpr ⟨w_446, (List.forall_mem_cons.mpr ⟨w_106, (List.forall_mem_cons.mpr ⟨w_65, (List.forall_mem_nil _)⟩)⟩)⟩), gy_J9_max_7cf53⟩
theorem lk_X2_73 : LkS RX2 73 m_X2_shinesFrom 3 := ⟨(List.forall_mem_cons.mpr ⟨w_442, (List.forall_mem_cons.mpr ⟨w_443, (List.forall_mem_cons.mpr ⟨w_66, (List.forall_mem_nil _)⟩)⟩)⟩), gy_X2_shinesFrom⟩
theorem lk_X2_77 : LkV RX2 77 m_X2_litOf 1 := ⟨(List.forall_mem_cons.mpr ⟨w_536, (List.forall_mem_cons.mpr ⟨w_537, (List.forall_mem_cons.mpr ⟨w_538, (List.forall_mem_cons.mpr ⟨w_66, (List.forall_mem_nil _)⟩)⟩)⟩)⟩), gy_X2_litOf⟩
theorem kd_100 : ¬ (100 : Int32) = 0 := by decide
theorem ks_1427 : (Int16.ofInt (1427)).toInt32 = (1427 : Int32) := by decide
theorem ks_1526 : (Int16.ofInt (1526)).toInt32 = (1526 : Int32) := by decide
theorem lk_X2_80 : LkSN RX2 80 m_X8_isIn 3 "MoonOverTheHill" := ⟨⟨by decide +kernel, (List.forall_mem_cons.mpr ⟨w_281, (List.forall_mem_cons.mpr ⟨w_61, (List.forall_mem_nil _)⟩)⟩)⟩, gy_X8_isIn⟩
theorem lk_X2_84 : LkS RX2 84 m_J9_abs_0f7a4 1 := ⟨(List.forall_mem_cons.mpr ⟨w_401, (List.forall_mem_cons.mpr ⟨w_402, (List.forall_mem_cons.mpr ⟨w_65, (List.forall_mem_nil _)⟩)⟩)⟩), gy_J9_abs_0f7a4⟩
theorem lk_X2_87 : LkV RX2 87 m_X2_laterOf 1 := ⟨(List.forall_mem_cons.mpr ⟨w_404, (List.forall_mem_cons.mpr ⟨w_405, (List.forall_mem_cons.mpr ⟨w_406, (List.forall_mem_cons.mpr ⟨w_66, (List.forall_mem_nil _)⟩)⟩)⟩)⟩), gy_X2_laterOf⟩
theorem kb_28 : (Int8.ofInt (28)).toInt32 = (28 : Int32) := by decide
theorem ks_1320 : (Int16.ofInt (1320)).toInt32 = (1320 : Int32) := by decide
theorem lk_X2_90 : LkV RX2 90 m_X2_shinesOf 3 := ⟨(List.forall_mem_cons.mpr ⟨w_438, (List.forall_mem_cons.mpr ⟨w_439, (List.forall_mem_cons.mpr ⟨w_440, (List.forall_mem_cons.mpr ⟨w_66, (List.forall_mem_nil _)⟩)⟩)⟩)⟩), gy_X2_shinesOf⟩
theorem tsv_1_5 : ∀ i, i < ([(1 : Int32), (2 : Int32), (3 : Int32), (4 : Int32), (5 : Int32)] : List Int32).length → (([(1 : Int32), (2 : Int32), (3 : Int32), (4 : Int32), (5 : Int32)] : List Int32).getD i 0).toInt = (1 : Int) + i := by decide +kernel
theorem kd_1366 : ¬ (1366 : Int32) = 0 := by decide
theorem kb_80 : (Int8.ofInt (80)).toInt32 = (80 : Int32) := by decide
theorem ks_1286 : (Int16.ofInt (1286)).toInt32 = (1286 : Int32) := by decide
theorem kb_6 : (Int8.ofInt (6)).toInt32 = (6 : Int32) := by decide
theorem lk_X2_162 : LkV RX2 162 m_X5_at 1 := ⟨(List.forall_mem_cons.mpr ⟨w_532, (List.forall_mem_cons.mpr ⟨w_353, (List.forall_mem_cons.mpr ⟨w_354, (List.forall_mem_cons.mpr ⟨w_69, (List.forall_mem_nil _)⟩)⟩)⟩)⟩), gy_X5_at⟩
theorem lk_X2_159 : LkS RX2 159 m_X2_minutesUp 2 := ⟨(List.forall_mem_cons.mpr ⟨w_533, (List.forall_mem_cons.mpr ⟨w_534, (List.forall_mem_cons.mpr ⟨w_66, (List.forall_mem_nil _)⟩)⟩)⟩), gy_X2_minutesUp⟩
theorem lk_X2_168 : LkV RX2 168 m_X5_isSpan 2 := ⟨(List.forall_mem_cons.mpr ⟨w_540, (List.forall_mem_cons.mpr ⟨w_541, (List.forall_mem_cons.mpr ⟨w_542, (List.forall_mem_cons.mpr ⟨w_69, (List.forall_mem_nil _)⟩)⟩)⟩)⟩), gy_X5_isSpan⟩
theorem kd_5 : ¬ (5 : Int32) = 0 := by decide
theorem lf_X2_93 : LkF RX2 93 4 0 := ⟨RX4, TX4, 5, rfl, wsin_X4, Nat.le_of_ble_eq_true rfl, w_461⟩
theorem lk_X2_98 : LkV RX2 98 m_X2_isFull 1 := ⟨(List.forall_mem_cons.mpr ⟨w_485, (List.forall_mem_cons.mpr ⟨w_486, (List.forall_mem_cons.mpr ⟨w_487, (List.forall_mem_cons.mpr ⟨w_66, (List.forall_mem_nil _)⟩)⟩)⟩)⟩), gy_X2_isFull⟩
