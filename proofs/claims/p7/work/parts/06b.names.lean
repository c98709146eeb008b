theorem w_1157 : (Jvm.Cond.fieldLink "MoonOverTheHillModel" (147 : Nat) "MoonOverTheHillModel" "from" "I") ∈ ALL := inT_5 137 rfl rfl
theorem w_1158 : (Jvm.Cond.fieldLink "MoonOverTheHillModel" (150 : Nat) "MoonOverTheHillModel" "figures" "I") ∈ ALL := inT_5 138 rfl rfl
theorem w_1391 : (Jvm.Cond.static ({ cls := "MoonOverTheHillModel", name := "isLetter", desc := "(I)Z" } : Jvm.MethodName)) ∈ ALL := inT_6 131 rfl rfl
theorem w_1390 : (Jvm.Cond.methodLink "MoonOverTheHillModel" (156 : Nat) ({ cls := "MoonOverTheHillModel", name := "isLetter", desc := "(I)Z" } : Jvm.MethodName)) ∈ ALL := inT_6 130 rfl rfl
theorem w_1394 : (Jvm.Cond.static ({ cls := "MoonOverTheHillModel", name := "isDigit", desc := "(I)Z" } : Jvm.MethodName)) ∈ ALL := inT_6 134 rfl rfl
theorem w_1393 : (Jvm.Cond.methodLink "MoonOverTheHillModel" (159 : Nat) ({ cls := "MoonOverTheHillModel", name := "isDigit", desc := "(I)Z" } : Jvm.MethodName)) ∈ ALL := inT_6 133 rfl rfl
theorem w_1156 : (Jvm.Cond.fieldLink "MoonOverTheHillModel" (153 : Nat) "MoonOverTheHillModel" "token" "I") ∈ ALL := inT_5 136 rfl rfl
theorem w_1396 : (Jvm.Cond.constant "MoonOverTheHillModel" (162 : Nat) (100000 : Int32)) ∈ ALL := inT_6 136 rfl rfl
theorem w_1159 : (Jvm.Cond.fieldLink "MoonOverTheHillModel" (163 : Nat) "MoonOverTheHillModel" "fault" "I") ∈ ALL := inT_5 139 rfl rfl
theorem w_676 : (Jvm.Cond.selects "java/lang/String" ({ cls := "java/lang/String", name := "length", desc := "()I" } : Jvm.MethodName) ({ cls := "java/lang/String", name := "length", desc := "()I" } : Jvm.MethodName)) ∈ ALL := inT_3 136 rfl rfl
theorem w_675 : (Jvm.Cond.instanceMethod ({ cls := "java/lang/String", name := "length", desc := "()I" } : Jvm.MethodName)) ∈ ALL := inT_3 135 rfl rfl
theorem w_1406 : (Jvm.Cond.methodLink "MoonOverTheHillModel" (166 : Nat) ({ cls := "java/lang/String", name := "length", desc := "()I" } : Jvm.MethodName)) ∈ ALL := inT_6 146 rfl rfl
theorem w_686 : (Jvm.Cond.selects "java/lang/String" ({ cls := "java/lang/String", name := "charAt", desc := "(I)C" } : Jvm.MethodName) ({ cls := "java/lang/String", name := "charAt", desc := "(I)C" } : Jvm.MethodName)) ∈ ALL := inT_3 146 rfl rfl
theorem w_685 : (Jvm.Cond.instanceMethod ({ cls := "java/lang/String", name := "charAt", desc := "(I)C" } : Jvm.MethodName)) ∈ ALL := inT_3 145 rfl rfl
theorem w_1407 : (Jvm.Cond.methodLink "MoonOverTheHillModel" (172 : Nat) ({ cls := "java/lang/String", name := "charAt", desc := "(I)C" } : Jvm.MethodName)) ∈ ALL := inT_6 147 rfl rfl
theorem w_44 : Cond.selects "MoonOverTheHillModel" (⟨"MoonOverTheHillModel", "wrong", "()Z"⟩ : MethodName) (⟨"MoonOverTheHillModel", "wrong", "()Z"⟩ : MethodName) ∈ ALL := inP 44 rfl rfl
theorem w_1422 : (Jvm.Cond.instanceMethod ({ cls := "MoonOverTheHillModel", name := "wrong", desc := "()Z" } : Jvm.MethodName)) ∈ ALL := inT_6 162 rfl rfl
theorem w_1420 : (Jvm.Cond.methodLink "MoonOverTheHillModel" (176 : Nat) ({ cls := "MoonOverTheHillModel", name := "wrong", desc := "()Z" } : Jvm.MethodName)) ∈ ALL := inT_6 160 rfl rfl
theorem w_1160 : (Jvm.Cond.fieldLink "MoonOverTheHillModel" (58 : Nat) "MoonOverTheHillModel" "told" "[I") ∈ ALL := inT_5 140 rfl rfl
theorem w_38 : Cond.selects "MoonOverTheHillModel" (⟨"MoonOverTheHillModel", "look", "()V"⟩ : MethodName) (⟨"MoonOverTheHillModel", "look", "()V"⟩ : MethodName) ∈ ALL := inP 38 rfl rfl
theorem w_1388 : (Jvm.Cond.instanceMethod ({ cls := "MoonOverTheHillModel", name := "look", desc := "()V" } : Jvm.MethodName)) ∈ ALL := inT_6 128 rfl rfl
theorem w_1386 : (Jvm.Cond.methodLink "MoonOverTheHillModel" (180 : Nat) ({ cls := "MoonOverTheHillModel", name := "look", desc := "()V" } : Jvm.MethodName)) ∈ ALL := inT_6 126 rfl rfl
theorem w_43 : Cond.selects "MoonOverTheHillModel" (⟨"MoonOverTheHillModel", "number", "(III)Z"⟩ : MethodName) (⟨"MoonOverTheHillModel", "number", "(III)Z"⟩ : MethodName) ∈ ALL := inP 43 rfl rfl
theorem w_1418 : (Jvm.Cond.instanceMethod ({ cls := "MoonOverTheHillModel", name := "number", desc := "(III)Z" } : Jvm.MethodName)) ∈ ALL := inT_6 158 rfl rfl
theorem w_1416 : (Jvm.Cond.methodLink "MoonOverTheHillModel" (183 : Nat) ({ cls := "MoonOverTheHillModel", name := "number", desc := "(III)Z" } : Jvm.MethodName)) ∈ ALL := inT_6 156 rfl rfl
theorem w_42 : Cond.selects "MoonOverTheHillModel" (⟨"MoonOverTheHillModel", "tells", "(I)Z"⟩ : MethodName) (⟨"MoonOverTheHillModel", "tells", "(I)Z"⟩ : MethodName) ∈ ALL := inP 42 rfl rfl
theorem w_1414 : (Jvm.Cond.instanceMethod ({ cls := "MoonOverTheHillModel", name := "tells", desc := "(I)Z" } : Jvm.MethodName)) ∈ ALL := inT_6 154 rfl rfl
theorem w_1412 : (Jvm.Cond.methodLink "MoonOverTheHillModel" (187 : Nat) ({ cls := "MoonOverTheHillModel", name := "tells", desc := "(I)Z" } : Jvm.MethodName)) ∈ ALL := inT_6 152 rfl rfl
theorem w_40 : Cond.selects "MoonOverTheHillModel" (⟨"MoonOverTheHillModel", "isWord", "(Ljava/lang/String;)Z"⟩ : MethodName) (⟨"MoonOverTheHillModel", "isWord", "(Ljava/lang/String;)Z"⟩ : MethodName) ∈ ALL := inP 40 rfl rfl
theorem w_1404 : (Jvm.Cond.instanceMethod ({ cls := "MoonOverTheHillModel", name := "isWord", desc := "(Ljava/lang/String;)Z" } : Jvm.MethodName)) ∈ ALL := inT_6 144 rfl rfl
theorem w_1402 : (Jvm.Cond.methodLink "MoonOverTheHillModel" (192 : Nat) ({ cls := "MoonOverTheHillModel", name := "isWord", desc := "(Ljava/lang/String;)Z" } : Jvm.MethodName)) ∈ ALL := inT_6 142 rfl rfl
theorem w_45 : Cond.selects "MoonOverTheHillModel" (⟨"MoonOverTheHillModel", "cloudTold", "()Z"⟩ : MethodName) (⟨"MoonOverTheHillModel", "cloudTold", "()Z"⟩ : MethodName) ∈ ALL := inP 45 rfl rfl
theorem w_1431 : (Jvm.Cond.instanceMethod ({ cls := "MoonOverTheHillModel", name := "cloudTold", desc := "()Z" } : Jvm.MethodName)) ∈ ALL := inT_6 171 rfl rfl
theorem w_1429 : (Jvm.Cond.methodLink "MoonOverTheHillModel" (206 : Nat) ({ cls := "MoonOverTheHillModel", name := "cloudTold", desc := "()Z" } : Jvm.MethodName)) ∈ ALL := inT_6 169 rfl rfl
theorem w_41 : Cond.selects "MoonOverTheHillModel" (⟨"MoonOverTheHillModel", "askedTold", "(I)Z"⟩ : MethodName) (⟨"MoonOverTheHillModel", "askedTold", "(I)Z"⟩ : MethodName) ∈ ALL := inP 41 rfl rfl
theorem w_1410 : (Jvm.Cond.instanceMethod ({ cls := "MoonOverTheHillModel", name := "askedTold", desc := "(I)Z" } : Jvm.MethodName)) ∈ ALL := inT_6 150 rfl rfl
theorem w_1408 : (Jvm.Cond.methodLink "MoonOverTheHillModel" (196 : Nat) ({ cls := "MoonOverTheHillModel", name := "askedTold", desc := "(I)Z" } : Jvm.MethodName)) ∈ ALL := inT_6 148 rfl rfl
theorem w_1161 : (Jvm.Cond.fieldLink "MoonOverTheHillModel" (209 : Nat) "MoonOverTheHillModel" "statements" "I") ∈ ALL := inT_5 141 rfl rfl
theorem w_39 : Cond.selects "MoonOverTheHillModel" (⟨"MoonOverTheHillModel", "statement", "()Z"⟩ : MethodName) (⟨"MoonOverTheHillModel", "statement", "()Z"⟩ : MethodName) ∈ ALL := inP 39 rfl rfl
theorem w_1399 : (Jvm.Cond.instanceMethod ({ cls := "MoonOverTheHillModel", name := "statement", desc := "()Z" } : Jvm.MethodName)) ∈ ALL := inT_6 139 rfl rfl
theorem w_1397 : (Jvm.Cond.methodLink "MoonOverTheHillModel" (212 : Nat) ({ cls := "MoonOverTheHillModel", name := "statement", desc := "()Z" } : Jvm.MethodName)) ∈ ALL := inT_6 137 rfl rfl
theorem w_1380 : (Jvm.Cond.static ({ cls := "MoonOverTheHillModel", name := "copyAll", desc := "([I[I)V" } : Jvm.MethodName)) ∈ ALL := inT_6 120 rfl rfl
theorem w_1379 : (Jvm.Cond.methodLink "MoonOverTheHillModel" (345 : Nat) ({ cls := "MoonOverTheHillModel", name := "copyAll", desc := "([I[I)V" } : Jvm.MethodName)) ∈ ALL := inT_6 119 rfl rfl
theorem w_1150 : (Jvm.Cond.fieldLink "MoonOverTheHillModel" (339 : Nat) "MoonOverTheHillModel" "today" "I") ∈ ALL := inT_5 130 rfl rfl
theorem w_1151 : (Jvm.Cond.fieldLink "MoonOverTheHillModel" (336 : Nat) "MoonOverTheHillModel" "looks" "I") ∈ ALL := inT_5 131 rfl rfl
theorem w_1152 : (Jvm.Cond.fieldLink "MoonOverTheHillModel" (54 : Nat) "MoonOverTheHillModel" "seed" "I") ∈ ALL := inT_5 132 rfl rfl
theorem w_1154 : (Jvm.Cond.fieldLink "MoonOverTheHillModel" (215 : Nat) "MoonOverTheHillModel" "tried" "LMoonOverTheHillModel;") ∈ ALL := inT_5 134 rfl rfl
theorem w_1445 : (Jvm.Cond.constantLong "MoonOverTheHillModel" (234 : Nat) (999 : Int64)) ∈ ALL := inT_6 185 rfl rfl
theorem w_1450 : (Jvm.Cond.constantLong "MoonOverTheHillModel" (251 : Nat) (8 : Int64)) ∈ ALL := inT_6 190 rfl rfl
theorem w_46 : Cond.selects "MoonOverTheHillModel" (⟨"MoonOverTheHillModel", "lit", "(I)I"⟩ : MethodName) (⟨"MoonOverTheHillModel", "lit", "(I)I"⟩ : MethodName) ∈ ALL := inP 46 rfl rfl
theorem w_1453 : (Jvm.Cond.instanceMethod ({ cls := "MoonOverTheHillModel", name := "lit", desc := "(I)I" } : Jvm.MethodName)) ∈ ALL := inT_6 193 rfl rfl
theorem w_1451 : (Jvm.Cond.methodLink "MoonOverTheHillModel" (253 : Nat) ({ cls := "MoonOverTheHillModel", name := "lit", desc := "(I)I" } : Jvm.MethodName)) ∈ ALL := inT_6 191 rfl rfl
theorem w_47 : Cond.selects "MoonOverTheHillModel" (⟨"MoonOverTheHillModel", "degreeUp", "(I)I"⟩ : MethodName) (⟨"MoonOverTheHillModel", "degreeUp", "(I)I"⟩ : MethodName) ∈ ALL := inP 47 rfl rfl
theorem w_1457 : (Jvm.Cond.instanceMethod ({ cls := "MoonOverTheHillModel", name := "degreeUp", desc := "(I)I" } : Jvm.MethodName)) ∈ ALL := inT_6 197 rfl rfl
theorem w_1455 : (Jvm.Cond.methodLink "MoonOverTheHillModel" (256 : Nat) ({ cls := "MoonOverTheHillModel", name := "degreeUp", desc := "(I)I" } : Jvm.MethodName)) ∈ ALL := inT_6 195 rfl rfl
theorem w_1463 : (Jvm.Cond.constant "MoonOverTheHillModel" (259 : Nat) (-1000000 : Int32)) ∈ ALL := inT_6 203 rfl rfl
theorem w_48 : Cond.selects "MoonOverTheHillModel" (⟨"MoonOverTheHillModel", "behindOf", "(I)I"⟩ : MethodName) (⟨"MoonOverTheHillModel", "behindOf", "(I)I"⟩ : MethodName) ∈ ALL := inP 48 rfl rfl
theorem w_1470 : (Jvm.Cond.instanceMethod ({ cls := "MoonOverTheHillModel", name := "behindOf", desc := "(I)I" } : Jvm.MethodName)) ∈ ALL := inT_6 210 rfl rfl
theorem w_1468 : (Jvm.Cond.methodLink "MoonOverTheHillModel" (260 : Nat) ({ cls := "MoonOverTheHillModel", name := "behindOf", desc := "(I)I" } : Jvm.MethodName)) ∈ ALL := inT_6 208 rfl rfl
theorem w_1481 : (Jvm.Cond.static ({ cls := "MoonOverTheHillModel", name := "areMinutes", desc := "(II)Z" } : Jvm.MethodName)) ∈ ALL := inT_6 221 rfl rfl
theorem w_1480 : (Jvm.Cond.methodLink "MoonOverTheHillModel" (267 : Nat) ({ cls := "MoonOverTheHillModel", name := "areMinutes", desc := "(II)Z" } : Jvm.MethodName)) ∈ ALL := inT_6 220 rfl rfl
theorem w_49 : Cond.selects "MoonOverTheHillModel" (⟨"MoonOverTheHillModel", "lightIn", "(III)I"⟩ : MethodName) (⟨"MoonOverTheHillModel", "lightIn", "(III)I"⟩ : MethodName) ∈ ALL := inP 49 rfl rfl
theorem w_1489 : (Jvm.Cond.instanceMethod ({ cls := "MoonOverTheHillModel", name := "lightIn", desc := "(III)I" } : Jvm.MethodName)) ∈ ALL := inT_6 229 rfl rfl
theorem w_1487 : (Jvm.Cond.methodLink "MoonOverTheHillModel" (270 : Nat) ({ cls := "MoonOverTheHillModel", name := "lightIn", desc := "(III)I" } : Jvm.MethodName)) ∈ ALL := inT_6 227 rfl rfl
theorem w_1500 : (Jvm.Cond.static ({ cls := "MoonOverTheHillModel", name := "lastOf", desc := "(II)I" } : Jvm.MethodName)) ∈ ALL := inT_7 0 rfl rfl
theorem w_1499 : (Jvm.Cond.methodLink "MoonOverTheHillModel" (273 : Nat) ({ cls := "MoonOverTheHillModel", name := "lastOf", desc := "(II)I" } : Jvm.MethodName)) ∈ ALL := inT_6 239 rfl rfl
theorem w_1507 : (Jvm.Cond.static ({ cls := "MoonOverTheHillModel", name := "areDays", desc := "(II)Z" } : Jvm.MethodName)) ∈ ALL := inT_7 7 rfl rfl
theorem w_1506 : (Jvm.Cond.methodLink "MoonOverTheHillModel" (276 : Nat) ({ cls := "MoonOverTheHillModel", name := "areDays", desc := "(II)Z" } : Jvm.MethodName)) ∈ ALL := inT_7 6 rfl rfl
theorem w_50 : Cond.selects "MoonOverTheHillModel" (⟨"MoonOverTheHillModel", "tellsOf", "(III)I"⟩ : MethodName) (⟨"MoonOverTheHillModel", "tellsOf", "(III)I"⟩ : MethodName) ∈ ALL := inP 50 rfl rfl
theorem w_1524 : (Jvm.Cond.instanceMethod ({ cls := "MoonOverTheHillModel", name := "tellsOf", desc := "(III)I" } : Jvm.MethodName)) ∈ ALL := inT_7 24 rfl rfl
theorem w_1522 : (Jvm.Cond.methodLink "MoonOverTheHillModel" (279 : Nat) ({ cls := "MoonOverTheHillModel", name := "tellsOf", desc := "(III)I" } : Jvm.MethodName)) ∈ ALL := inT_7 22 rfl rfl
theorem w_1530 : (Jvm.Cond.constantLong "MoonOverTheHillModel" (282 : Nat) (1440 : Int64)) ∈ ALL := inT_7 30 rfl rfl
theorem w_1539 : (Jvm.Cond.constantLong "MoonOverTheHillModel" (284 : Nat) (9991 : Int64)) ∈ ALL := inT_7 39 rfl rfl
theorem w_51 : Cond.selects "MoonOverTheHillModel" (⟨"MoonOverTheHillModel", "sizeOf", "(I)I"⟩ : MethodName) (⟨"MoonOverTheHillModel", "sizeOf", "(I)I"⟩ : MethodName) ∈ ALL := inP 51 rfl rfl
theorem w_1550 : (Jvm.Cond.instanceMethod ({ cls := "MoonOverTheHillModel", name := "sizeOf", desc := "(I)I" } : Jvm.MethodName)) ∈ ALL := inT_7 50 rfl rfl
theorem w_1548 : (Jvm.Cond.methodLink "MoonOverTheHillModel" (286 : Nat) ({ cls := "MoonOverTheHillModel", name := "sizeOf", desc := "(I)I" } : Jvm.MethodName)) ∈ ALL := inT_7 48 rfl rfl
theorem w_1560 : (Jvm.Cond.constantLong "MoonOverTheHillModel" (289 : Nat) (1439 : Int64)) ∈ ALL := inT_7 60 rfl rfl
theorem w_52 : Cond.selects "MoonOverTheHillModel" (⟨"MoonOverTheHillModel", "isPicture", "([JI)Z"⟩ : MethodName) (⟨"MoonOverTheHillModel", "isPicture", "([JI)Z"⟩ : MethodName) ∈ ALL := inP 52 rfl rfl
theorem w_1567 : (Jvm.Cond.instanceMethod ({ cls := "MoonOverTheHillModel", name := "isPicture", desc := "([JI)Z" } : Jvm.MethodName)) ∈ ALL := inT_7 67 rfl rfl
theorem w_1565 : (Jvm.Cond.methodLink "MoonOverTheHillModel" (291 : Nat) ({ cls := "MoonOverTheHillModel", name := "isPicture", desc := "([JI)Z" } : Jvm.MethodName)) ∈ ALL := inT_7 65 rfl rfl
theorem w_1573 : (Jvm.Cond.constantLong "MoonOverTheHillModel" (295 : Nat) (50 : Int64)) ∈ ALL := inT_7 73 rfl rfl
theorem w_1574 : (Jvm.Cond.constantLong "MoonOverTheHillModel" (297 : Nat) (1476 : Int64)) ∈ ALL := inT_7 74 rfl rfl
theorem w_1587 : (Jvm.Cond.constantLong "MoonOverTheHillModel" (299 : Nat) (100 : Int64)) ∈ ALL := inT_7 87 rfl rfl
theorem w_1588 : (Jvm.Cond.constantLong "MoonOverTheHillModel" (301 : Nat) (400 : Int64)) ∈ ALL := inT_7 88 rfl rfl
theorem w_53 : Cond.selects "MoonOverTheHillModel" (⟨"MoonOverTheHillModel", "noWitnesses", "(II)I"⟩ : MethodName) (⟨"MoonOverTheHillModel", "noWitnesses", "(II)I"⟩ : MethodName) ∈ ALL := inP 53 rfl rfl
theorem w_1581 : (Jvm.Cond.instanceMethod ({ cls := "MoonOverTheHillModel", name := "noWitnesses", desc := "(II)I" } : Jvm.MethodName)) ∈ ALL := inT_7 81 rfl rfl
theorem w_1579 : (Jvm.Cond.methodLink "MoonOverTheHillModel" (303 : Nat) ({ cls := "MoonOverTheHillModel", name := "noWitnesses", desc := "(II)I" } : Jvm.MethodName)) ∈ ALL := inT_7 79 rfl rfl
theorem w_54 : Cond.selects "MoonOverTheHillModel" (⟨"MoonOverTheHillModel", "canBe", "(J)Z"⟩ : MethodName) (⟨"MoonOverTheHillModel", "canBe", "(J)Z"⟩ : MethodName) ∈ ALL := inP 54 rfl rfl
theorem w_1585 : (Jvm.Cond.instanceMethod ({ cls := "MoonOverTheHillModel", name := "canBe", desc := "(J)Z" } : Jvm.MethodName)) ∈ ALL := inT_7 85 rfl rfl
theorem w_1583 : (Jvm.Cond.methodLink "MoonOverTheHillModel" (306 : Nat) ({ cls := "MoonOverTheHillModel", name := "canBe", desc := "(J)Z" } : Jvm.MethodName)) ∈ ALL := inT_7 83 rfl rfl
theorem w_55 : Cond.selects "MoonOverTheHillModel" (⟨"MoonOverTheHillModel", "highOf", "(I)I"⟩ : MethodName) (⟨"MoonOverTheHillModel", "highOf", "(I)I"⟩ : MethodName) ∈ ALL := inP 55 rfl rfl
theorem w_1611 : (Jvm.Cond.instanceMethod ({ cls := "MoonOverTheHillModel", name := "highOf", desc := "(I)I" } : Jvm.MethodName)) ∈ ALL := inT_7 111 rfl rfl
theorem w_1609 : (Jvm.Cond.methodLink "MoonOverTheHillModel" (309 : Nat) ({ cls := "MoonOverTheHillModel", name := "highOf", desc := "(I)I" } : Jvm.MethodName)) ∈ ALL := inT_7 109 rfl rfl
theorem w_1621 : (Jvm.Cond.constantLong "MoonOverTheHillModel" (312 : Nat) (29 : Int64)) ∈ ALL := inT_7 121 rfl rfl
theorem w_1622 : (Jvm.Cond.constantLong "MoonOverTheHillModel" (314 : Nat) (88 : Int64)) ∈ ALL := inT_7 122 rfl rfl
theorem w_1623 : (Jvm.Cond.constantLong "MoonOverTheHillModel" (316 : Nat) (89 : Int64)) ∈ ALL := inT_7 123 rfl rfl
theorem w_1631 : (Jvm.Cond.constantLong "MoonOverTheHillModel" (318 : Nat) (20 : Int64)) ∈ ALL := inT_7 131 rfl rfl
theorem w_1629 : (Jvm.Cond.static ({ cls := "MoonOverTheHillModel", name := "isNear", desc := "(I)Z" } : Jvm.MethodName)) ∈ ALL := inT_7 129 rfl rfl
theorem w_1628 : (Jvm.Cond.methodLink "MoonOverTheHillModel" (320 : Nat) ({ cls := "MoonOverTheHillModel", name := "isNear", desc := "(I)Z" } : Jvm.MethodName)) ∈ ALL := inT_7 128 rfl rfl
theorem w_56 : Cond.selects "MoonOverTheHillModel" (⟨"MoonOverTheHillModel", "isHit", "(IIII)Z"⟩ : MethodName) (⟨"MoonOverTheHillModel", "isHit", "(IIII)Z"⟩ : MethodName) ∈ ALL := inP 56 rfl rfl
theorem w_1634 : (Jvm.Cond.instanceMethod ({ cls := "MoonOverTheHillModel", name := "isHit", desc := "(IIII)Z" } : Jvm.MethodName)) ∈ ALL := inT_7 134 rfl rfl
theorem w_1632 : (Jvm.Cond.methodLink "MoonOverTheHillModel" (323 : Nat) ({ cls := "MoonOverTheHillModel", name := "isHit", desc := "(IIII)Z" } : Jvm.MethodName)) ∈ ALL := inT_7 132 rfl rfl
theorem w_1644 : (Jvm.Cond.arrayClass Jvm.ClassFile.FieldType.boolean) ∈ ALL := inT_7 144 rfl rfl
theorem w_57 : Cond.selects "MoonOverTheHillModel" (⟨"MoonOverTheHillModel", "chanceOf", "(III)I"⟩ : MethodName) (⟨"MoonOverTheHillModel", "chanceOf", "(III)I"⟩ : MethodName) ∈ ALL := inP 57 rfl rfl
theorem w_1642 : (Jvm.Cond.instanceMethod ({ cls := "MoonOverTheHillModel", name := "chanceOf", desc := "(III)I" } : Jvm.MethodName)) ∈ ALL := inT_7 142 rfl rfl
theorem w_1640 : (Jvm.Cond.methodLink "MoonOverTheHillModel" (327 : Nat) ({ cls := "MoonOverTheHillModel", name := "chanceOf", desc := "(III)I" } : Jvm.MethodName)) ∈ ALL := inT_7 140 rfl rfl
theorem w_115 : (Jvm.Cond.arrayClass Jvm.ClassFile.FieldType.int) ∈ ALL := inT_1 55 rfl rfl
theorem w_1661 : (Jvm.Cond.constantLong "MoonOverTheHillModel" (330 : Nat) (2952 : Int64)) ∈ ALL := inT_7 161 rfl rfl
theorem w_1674 : (Jvm.Cond.constant "MoonOverTheHillModel" (332 : Nat) (1103515245 : Int32)) ∈ ALL := inT_7 174 rfl rfl
theorem w_59 : Cond.selects "MoonOverTheHillModel" (⟨"MoonOverTheHillModel", "below", "(I)I"⟩ : MethodName) (⟨"MoonOverTheHillModel", "below", "(I)I"⟩ : MethodName) ∈ ALL := inP 59 rfl rfl
theorem w_1672 : (Jvm.Cond.instanceMethod ({ cls := "MoonOverTheHillModel", name := "below", desc := "(I)I" } : Jvm.MethodName)) ∈ ALL := inT_7 172 rfl rfl
theorem w_1670 : (Jvm.Cond.methodLink "MoonOverTheHillModel" (333 : Nat) ({ cls := "MoonOverTheHillModel", name := "below", desc := "(I)I" } : Jvm.MethodName)) ∈ ALL := inT_7 170 rfl rfl
theorem w_58 : Cond.selects "MoonOverTheHillModel" (⟨"MoonOverTheHillModel", "goesBy", "()I"⟩ : MethodName) (⟨"MoonOverTheHillModel", "goesBy", "()I"⟩ : MethodName) ∈ ALL := inP 58 rfl rfl
theorem w_1668 : (Jvm.Cond.instanceMethod ({ cls := "MoonOverTheHillModel", name := "goesBy", desc := "()I" } : Jvm.MethodName)) ∈ ALL := inT_7 168 rfl rfl
theorem w_1666 : (Jvm.Cond.methodLink "MoonOverTheHillModel" (342 : Nat) ({ cls := "MoonOverTheHillModel", name := "goesBy", desc := "()I" } : Jvm.MethodName)) ∈ ALL := inT_7 166 rfl rfl
theorem w_1153 : (Jvm.Cond.fieldLink "MoonOverTheHillModel" (349 : Nat) "MoonOverTheHillModel" "kept" "LMoonOverTheHillModel;") ∈ ALL := inT_5 133 rfl rfl
theorem w_1695 : (Jvm.Cond.constantLong "MoonOverTheHillModel" (352 : Nat) (12 : Int64)) ∈ ALL := inT_7 195 rfl rfl
theorem w_1696 : (Jvm.Cond.constantLong "MoonOverTheHillModel" (354 : Nat) (16 : Int64)) ∈ ALL := inT_7 196 rfl rfl
theorem w_195 : (Jvm.Cond.fieldLink "MoonOverTheHill$Tape" (15 : Nat) "MoonOverTheHill$Tape" "size" "I") ∈ ALL := inT_1 135 rfl rfl
theorem w_194 : (Jvm.Cond.fieldLink "MoonOverTheHill$Tape" (11 : Nat) "MoonOverTheHill$Tape" "bytes" "[I") ∈ ALL := inT_1 134 rfl rfl
theorem w_197 : (Jvm.Cond.fieldLink "MoonOverTheHill$Tape" (19 : Nat) "MoonOverTheHill$Tape" "start" "I") ∈ ALL := inT_1 137 rfl rfl
theorem w_198 : (Jvm.Cond.fieldLink "MoonOverTheHill$Tape" (22 : Nat) "MoonOverTheHill$Tape" "end" "I") ∈ ALL := inT_1 138 rfl rfl
theorem w_67 : (Jvm.Cond.initialized "MoonOverTheHill$Tape") ∈ ALL := inT_1 7 rfl rfl
theorem w_4 : Cond.selects "MoonOverTheHill$Tape" (⟨"MoonOverTheHill$Tape", "byteAt", "(I)I"⟩ : MethodName) (⟨"MoonOverTheHill$Tape", "byteAt", "(I)I"⟩ : MethodName) ∈ ALL := inP 4 rfl rfl
theorem w_659 : (Jvm.Cond.instanceMethod ({ cls := "MoonOverTheHill$Tape", name := "byteAt", desc := "(I)I" } : Jvm.MethodName)) ∈ ALL := inT_3 119 rfl rfl
theorem w_657 : (Jvm.Cond.methodLink "MoonOverTheHill$Tape" (35 : Nat) ({ cls := "MoonOverTheHill$Tape", name := "byteAt", desc := "(I)I" } : Jvm.MethodName)) ∈ ALL := inT_3 117 rfl rfl
theorem w_662 : (Jvm.Cond.static ({ cls := "MoonOverTheHill$Tape", name := "tokenOf", desc := "(I)I" } : Jvm.MethodName)) ∈ ALL := inT_3 122 rfl rfl
theorem w_661 : (Jvm.Cond.methodLink "MoonOverTheHill$Tape" (39 : Nat) ({ cls := "MoonOverTheHill$Tape", name := "tokenOf", desc := "(I)I" } : Jvm.MethodName)) ∈ ALL := inT_3 121 rfl rfl
theorem w_196 : (Jvm.Cond.fieldLink "MoonOverTheHill$Tape" (32 : Nat) "MoonOverTheHill$Tape" "token" "I") ∈ ALL := inT_1 136 rfl rfl
theorem w_664 : (Jvm.Cond.methodLink "MoonOverTheHill$Tape" (42 : Nat) ({ cls := "java/lang/Math", name := "min", desc := "(II)I" } : Jvm.MethodName)) ∈ ALL := inT_3 124 rfl rfl
theorem w_674 : (Jvm.Cond.methodLink "MoonOverTheHill$Tape" (48 : Nat) ({ cls := "java/lang/String", name := "length", desc := "()I" } : Jvm.MethodName)) ∈ ALL := inT_3 134 rfl rfl
theorem w_684 : (Jvm.Cond.methodLink "MoonOverTheHill$Tape" (54 : Nat) ({ cls := "java/lang/String", name := "charAt", desc := "(I)C" } : Jvm.MethodName)) ∈ ALL := inT_3 144 rfl rfl
theorem w_3 : Cond.selects "MoonOverTheHill$Tape" (⟨"MoonOverTheHill$Tape", "step", "()V"⟩ : MethodName) (⟨"MoonOverTheHill$Tape", "step", "()V"⟩ : MethodName) ∈ ALL := inP 3 rfl rfl
theorem w_655 : (Jvm.Cond.instanceMethod ({ cls := "MoonOverTheHill$Tape", name := "step", desc := "()V" } : Jvm.MethodName)) ∈ ALL := inT_3 115 rfl rfl
theorem w_653 : (Jvm.Cond.methodLink "MoonOverTheHill$Tape" (25 : Nat) ({ cls := "MoonOverTheHill$Tape", name := "step", desc := "()V" } : Jvm.MethodName)) ∈ ALL := inT_3 113 rfl rfl
theorem w_199 : (Jvm.Cond.fieldLink "MoonOverTheHill$Tape" (102 : Nat) "MoonOverTheHill$Tape" "value" "I") ∈ ALL := inT_1 139 rfl rfl
theorem w_8 : Cond.selects "MoonOverTheHill$Tape" (⟨"MoonOverTheHill$Tape", "takeNumber", "(II)Z"⟩ : MethodName) (⟨"MoonOverTheHill$Tape", "takeNumber", "(II)Z"⟩ : MethodName) ∈ ALL := inP 8 rfl rfl
theorem w_728 : (Jvm.Cond.instanceMethod ({ cls := "MoonOverTheHill$Tape", name := "takeNumber", desc := "(II)Z" } : Jvm.MethodName)) ∈ ALL := inT_3 188 rfl rfl
theorem w_726 : (Jvm.Cond.methodLink "MoonOverTheHill$Tape" (109 : Nat) ({ cls := "MoonOverTheHill$Tape", name := "takeNumber", desc := "(II)Z" } : Jvm.MethodName)) ∈ ALL := inT_3 186 rfl rfl
theorem w_62 : (Jvm.Cond.initialized "MoonOverTheHill$State") ∈ ALL := inT_1 2 rfl rfl
theorem w_555 : (Jvm.Cond.selects "MoonOverTheHill$State" ({ cls := "MoonOverTheHill$State", name := "setAsked", desc := "(II)V" } : Jvm.MethodName) ({ cls := "MoonOverTheHill$State", name := "setAsked", desc := "(II)V" } : Jvm.MethodName)) ∈ ALL := inT_3 15 rfl rfl
theorem w_554 : (Jvm.Cond.instanceMethod ({ cls := "MoonOverTheHill$State", name := "setAsked", desc := "(II)V" } : Jvm.MethodName)) ∈ ALL := inT_3 14 rfl rfl
theorem w_731 : (Jvm.Cond.methodLink "MoonOverTheHill$Tape" (113 : Nat) ({ cls := "MoonOverTheHill$State", name := "setAsked", desc := "(II)V" } : Jvm.MethodName)) ∈ ALL := inT_3 191 rfl rfl
theorem w_563 : (Jvm.Cond.selects "MoonOverTheHill$Hill" ({ cls := "MoonOverTheHill$Hill", name := "isFull", desc := "()Z" } : Jvm.MethodName) ({ cls := "MoonOverTheHill$Hill", name := "isFull", desc := "()Z" } : Jvm.MethodName)) ∈ ALL := inT_3 23 rfl rfl
theorem w_562 : (Jvm.Cond.instanceMethod ({ cls := "MoonOverTheHill$Hill", name := "isFull", desc := "()Z" } : Jvm.MethodName)) ∈ ALL := inT_3 22 rfl rfl
theorem w_739 : (Jvm.Cond.methodLink "MoonOverTheHill$Tape" (117 : Nat) ({ cls := "MoonOverTheHill$Hill", name := "isFull", desc := "()Z" } : Jvm.MethodName)) ∈ ALL := inT_3 199 rfl rfl
theorem w_571 : (Jvm.Cond.selects "MoonOverTheHill$Hill" ({ cls := "MoonOverTheHill$Hill", name := "add", desc := "(III)V" } : Jvm.MethodName) ({ cls := "MoonOverTheHill$Hill", name := "add", desc := "(III)V" } : Jvm.MethodName)) ∈ ALL := inT_3 31 rfl rfl
theorem w_570 : (Jvm.Cond.instanceMethod ({ cls := "MoonOverTheHill$Hill", name := "add", desc := "(III)V" } : Jvm.MethodName)) ∈ ALL := inT_3 30 rfl rfl
theorem w_740 : (Jvm.Cond.methodLink "MoonOverTheHill$Tape" (123 : Nat) ({ cls := "MoonOverTheHill$Hill", name := "add", desc := "(III)V" } : Jvm.MethodName)) ∈ ALL := inT_3 200 rfl rfl
theorem w_746 : (Jvm.Cond.methodLink "MoonOverTheHill$Tape" (127 : Nat) ({ cls := "MoonOverTheHill$Few", name := "isFull", desc := "()Z" } : Jvm.MethodName)) ∈ ALL := inT_3 206 rfl rfl
theorem w_747 : (Jvm.Cond.methodLink "MoonOverTheHill$Tape" (130 : Nat) ({ cls := "MoonOverTheHill$Few", name := "add", desc := "(I)V" } : Jvm.MethodName)) ∈ ALL := inT_3 207 rfl rfl
theorem w_753 : (Jvm.Cond.methodLink "MoonOverTheHill$Tape" (133 : Nat) ({ cls := "MoonOverTheHill$Few", name := "contains", desc := "(I)Z" } : Jvm.MethodName)) ∈ ALL := inT_3 213 rfl rfl
theorem w_6 : Cond.selects "MoonOverTheHill$Tape" (⟨"MoonOverTheHill$Tape", "isWord", "(Ljava/lang/String;)Z"⟩ : MethodName) (⟨"MoonOverTheHill$Tape", "isWord", "(Ljava/lang/String;)Z"⟩ : MethodName) ∈ ALL := inP 6 rfl rfl
theorem w_672 : (Jvm.Cond.instanceMethod ({ cls := "MoonOverTheHill$Tape", name := "isWord", desc := "(Ljava/lang/String;)Z" } : Jvm.MethodName)) ∈ ALL := inT_3 132 rfl rfl
theorem w_670 : (Jvm.Cond.methodLink "MoonOverTheHill$Tape" (60 : Nat) ({ cls := "MoonOverTheHill$Tape", name := "isWord", desc := "(Ljava/lang/String;)Z" } : Jvm.MethodName)) ∈ ALL := inT_3 130 rfl rfl
theorem w_148 : (Jvm.Cond.fieldLink "MoonOverTheHill$Tape" (96 : Nat) "MoonOverTheHill$State" "clouds" "LMoonOverTheHill$Few;") ∈ ALL := inT_1 88 rfl rfl
theorem w_11 : Cond.selects "MoonOverTheHill$Tape" (⟨"MoonOverTheHill$Tape", "takeCloud", "(LMoonOverTheHill$Few;)Z"⟩ : MethodName) (⟨"MoonOverTheHill$Tape", "takeCloud", "(LMoonOverTheHill$Few;)Z"⟩ : MethodName) ∈ ALL := inP 11 rfl rfl
theorem w_751 : (Jvm.Cond.instanceMethod ({ cls := "MoonOverTheHill$Tape", name := "takeCloud", desc := "(LMoonOverTheHill$Few;)Z" } : Jvm.MethodName)) ∈ ALL := inT_3 211 rfl rfl
theorem w_749 : (Jvm.Cond.methodLink "MoonOverTheHill$Tape" (99 : Nat) ({ cls := "MoonOverTheHill$Tape", name := "takeCloud", desc := "(LMoonOverTheHill$Few;)Z" } : Jvm.MethodName)) ∈ ALL := inT_3 209 rfl rfl
theorem w_146 : (Jvm.Cond.fieldLink "MoonOverTheHill$Tape" (86 : Nat) "MoonOverTheHill$State" "stones" "LMoonOverTheHill$Few;") ∈ ALL := inT_1 86 rfl rfl
theorem w_10 : Cond.selects "MoonOverTheHill$Tape" (⟨"MoonOverTheHill$Tape", "takeStone", "(LMoonOverTheHill$Few;)Z"⟩ : MethodName) (⟨"MoonOverTheHill$Tape", "takeStone", "(LMoonOverTheHill$Few;)Z"⟩ : MethodName) ∈ ALL := inP 10 rfl rfl
theorem w_744 : (Jvm.Cond.instanceMethod ({ cls := "MoonOverTheHill$Tape", name := "takeStone", desc := "(LMoonOverTheHill$Few;)Z" } : Jvm.MethodName)) ∈ ALL := inT_3 204 rfl rfl
theorem w_742 : (Jvm.Cond.methodLink "MoonOverTheHill$Tape" (90 : Nat) ({ cls := "MoonOverTheHill$Tape", name := "takeStone", desc := "(LMoonOverTheHill$Few;)Z" } : Jvm.MethodName)) ∈ ALL := inT_3 202 rfl rfl
theorem w_143 : (Jvm.Cond.fieldLink "MoonOverTheHill$Tape" (74 : Nat) "MoonOverTheHill$State" "hill" "LMoonOverTheHill$Hill;") ∈ ALL := inT_1 83 rfl rfl
theorem w_9 : Cond.selects "MoonOverTheHill$Tape" (⟨"MoonOverTheHill$Tape", "takeNotch", "(LMoonOverTheHill$Hill;)Z"⟩ : MethodName) (⟨"MoonOverTheHill$Tape", "takeNotch", "(LMoonOverTheHill$Hill;)Z"⟩ : MethodName) ∈ ALL := inP 9 rfl rfl
theorem w_737 : (Jvm.Cond.instanceMethod ({ cls := "MoonOverTheHill$Tape", name := "takeNotch", desc := "(LMoonOverTheHill$Hill;)Z" } : Jvm.MethodName)) ∈ ALL := inT_3 197 rfl rfl
theorem w_735 : (Jvm.Cond.methodLink "MoonOverTheHill$Tape" (80 : Nat) ({ cls := "MoonOverTheHill$Tape", name := "takeNotch", desc := "(LMoonOverTheHill$Hill;)Z" } : Jvm.MethodName)) ∈ ALL := inT_3 195 rfl rfl
theorem w_7 : Cond.selects "MoonOverTheHill$Tape" (⟨"MoonOverTheHill$Tape", "takeAsked", "(LMoonOverTheHill$State;I)Z"⟩ : MethodName) (⟨"MoonOverTheHill$Tape", "takeAsked", "(LMoonOverTheHill$State;I)Z"⟩ : MethodName) ∈ ALL := inP 7 rfl rfl
theorem w_724 : (Jvm.Cond.instanceMethod ({ cls := "MoonOverTheHill$Tape", name := "takeAsked", desc := "(LMoonOverTheHill$State;I)Z" } : Jvm.MethodName)) ∈ ALL := inT_3 184 rfl rfl
theorem w_722 : (Jvm.Cond.methodLink "MoonOverTheHill$Tape" (64 : Nat) ({ cls := "MoonOverTheHill$Tape", name := "takeAsked", desc := "(LMoonOverTheHill$State;I)Z" } : Jvm.MethodName)) ∈ ALL := inT_3 182 rfl rfl
theorem w_5 : Cond.selects "MoonOverTheHill$Tape" (⟨"MoonOverTheHill$Tape", "takeStatement", "(LMoonOverTheHill$State;)Z"⟩ : MethodName) (⟨"MoonOverTheHill$Tape", "takeStatement", "(LMoonOverTheHill$State;)Z"⟩ : MethodName) ∈ ALL := inP 5 rfl rfl
theorem w_667 : (Jvm.Cond.instanceMethod ({ cls := "MoonOverTheHill$Tape", name := "takeStatement", desc := "(LMoonOverTheHill$State;)Z" } : Jvm.MethodName)) ∈ ALL := inT_3 127 rfl rfl
theorem w_665 : (Jvm.Cond.methodLink "MoonOverTheHill$Tape" (28 : Nat) ({ cls := "MoonOverTheHill$Tape", name := "takeStatement", desc := "(LMoonOverTheHill$State;)Z" } : Jvm.MethodName)) ∈ ALL := inT_3 125 rfl rfl
theorem w_250 : (Jvm.Cond.fieldLink "MoonOverTheHill" (47 : Nat) "MoonOverTheHill" "shelves" "[LMoonOverTheHill$Shelf;") ∈ ALL := inT_1 190 rfl rfl
theorem w_251 : (Jvm.Cond.fieldLink "MoonOverTheHill" (51 : Nat) "MoonOverTheHill" "refusals" "[I") ∈ ALL := inT_1 191 rfl rfl
theorem w_0 : Cond.selects "MoonOverTheHill" (⟨"MoonOverTheHill", "shelfAt", "(I)LMoonOverTheHill$Shelf;"⟩ : MethodName) (⟨"MoonOverTheHill", "shelfAt", "(I)LMoonOverTheHill$Shelf;"⟩ : MethodName) ∈ ALL := inP 0 rfl rfl
theorem w_278 : (Jvm.Cond.instanceMethod ({ cls := "MoonOverTheHill", name := "shelfAt", desc := "(I)LMoonOverTheHill$Shelf;" } : Jvm.MethodName)) ∈ ALL := inT_1 218 rfl rfl
theorem w_276 : (Jvm.Cond.methodLink "MoonOverTheHill" (56 : Nat) ({ cls := "MoonOverTheHill", name := "shelfAt", desc := "(I)LMoonOverTheHill$Shelf;" } : Jvm.MethodName)) ∈ ALL := inT_1 216 rfl rfl
theorem w_1 : Cond.selects "MoonOverTheHill" (⟨"MoonOverTheHill", "refuse", "(I)I"⟩ : MethodName) (⟨"MoonOverTheHill", "refuse", "(I)I"⟩ : MethodName) ∈ ALL := inP 1 rfl rfl
theorem w_285 : (Jvm.Cond.instanceMethod ({ cls := "MoonOverTheHill", name := "refuse", desc := "(I)I" } : Jvm.MethodName)) ∈ ALL := inT_1 225 rfl rfl
theorem w_283 : (Jvm.Cond.methodLink "MoonOverTheHill" (64 : Nat) ({ cls := "MoonOverTheHill", name := "refuse", desc := "(I)I" } : Jvm.MethodName)) ∈ ALL := inT_1 223 rfl rfl
theorem w_289 : (Jvm.Cond.selects "MoonOverTheHill$Shelf" ({ cls := "MoonOverTheHill$Shelf", name := "putRow", desc := "(II)V" } : Jvm.MethodName) ({ cls := "MoonOverTheHill$Shelf", name := "putRow", desc := "(II)V" } : Jvm.MethodName)) ∈ ALL := inT_1 229 rfl rfl
theorem w_288 : (Jvm.Cond.instanceMethod ({ cls := "MoonOverTheHill$Shelf", name := "putRow", desc := "(II)V" } : Jvm.MethodName)) ∈ ALL := inT_1 228 rfl rfl
theorem w_287 : (Jvm.Cond.methodLink "MoonOverTheHill" (68 : Nat) ({ cls := "MoonOverTheHill$Shelf", name := "putRow", desc := "(II)V" } : Jvm.MethodName)) ∈ ALL := inT_1 227 rfl rfl
theorem w_303 : (Jvm.Cond.selects "MoonOverTheHill$Shelf" ({ cls := "MoonOverTheHill$Shelf", name := "refusalAsRow", desc := "(I)I" } : Jvm.MethodName) ({ cls := "MoonOverTheHill$Shelf", name := "refusalAsRow", desc := "(I)I" } : Jvm.MethodName)) ∈ ALL := inT_2 3 rfl rfl
theorem w_302 : (Jvm.Cond.instanceMethod ({ cls := "MoonOverTheHill$Shelf", name := "refusalAsRow", desc := "(I)I" } : Jvm.MethodName)) ∈ ALL := inT_2 2 rfl rfl
theorem w_301 : (Jvm.Cond.methodLink "MoonOverTheHill" (72 : Nat) ({ cls := "MoonOverTheHill$Shelf", name := "refusalAsRow", desc := "(I)I" } : Jvm.MethodName)) ∈ ALL := inT_2 1 rfl rfl
theorem w_313 : (Jvm.Cond.methodLink "MoonOverTheHill" (75 : Nat) ({ cls := "MoonOverTheHill$Shelf", name := "hasPlaces", desc := "(II)Z" } : Jvm.MethodName)) ∈ ALL := inT_2 13 rfl rfl
theorem w_319 : (Jvm.Cond.selects "MoonOverTheHill$Shelf" ({ cls := "MoonOverTheHill$Shelf", name := "put", desc := "(IJ)V" } : Jvm.MethodName) ({ cls := "MoonOverTheHill$Shelf", name := "put", desc := "(IJ)V" } : Jvm.MethodName)) ∈ ALL := inT_2 19 rfl rfl
theorem w_318 : (Jvm.Cond.instanceMethod ({ cls := "MoonOverTheHill$Shelf", name := "put", desc := "(IJ)V" } : Jvm.MethodName)) ∈ ALL := inT_2 18 rfl rfl
theorem w_317 : (Jvm.Cond.methodLink "MoonOverTheHill" (79 : Nat) ({ cls := "MoonOverTheHill$Shelf", name := "put", desc := "(IJ)V" } : Jvm.MethodName)) ∈ ALL := inT_2 17 rfl rfl
theorem w_329 : (Jvm.Cond.methodLink "MoonOverTheHill" (83 : Nat) ({ cls := "MoonOverTheHill$Shelf", name := "isEvening", desc := "()Z" } : Jvm.MethodName)) ∈ ALL := inT_2 29 rfl rfl
theorem w_332 : (Jvm.Cond.selects "MoonOverTheHill$Shelf" ({ cls := "MoonOverTheHill$Shelf", name := "isRowOfOtherSort", desc := "(LMoonOverTheHill$Shelf;)Z" } : Jvm.MethodName) ({ cls := "MoonOverTheHill$Shelf", name := "isRowOfOtherSort", desc := "(LMoonOverTheHill$Shelf;)Z" } : Jvm.MethodName)) ∈ ALL := inT_2 32 rfl rfl
theorem w_331 : (Jvm.Cond.instanceMethod ({ cls := "MoonOverTheHill$Shelf", name := "isRowOfOtherSort", desc := "(LMoonOverTheHill$Shelf;)Z" } : Jvm.MethodName)) ∈ ALL := inT_2 31 rfl rfl
theorem w_330 : (Jvm.Cond.methodLink "MoonOverTheHill" (87 : Nat) ({ cls := "MoonOverTheHill$Shelf", name := "isRowOfOtherSort", desc := "(LMoonOverTheHill$Shelf;)Z" } : Jvm.MethodName)) ∈ ALL := inT_2 30 rfl rfl
theorem w_338 : (Jvm.Cond.methodLink "MoonOverTheHill" (91 : Nat) ({ cls := "MoonOverTheHill$Shelf", name := "isBare", desc := "()Z" } : Jvm.MethodName)) ∈ ALL := inT_2 38 rfl rfl
theorem w_341 : (Jvm.Cond.selects "MoonOverTheHill$Shelf" ({ cls := "MoonOverTheHill$Shelf", name := "take", desc := "(LMoonOverTheHill$Shelf;III)V" } : Jvm.MethodName) ({ cls := "MoonOverTheHill$Shelf", name := "take", desc := "(LMoonOverTheHill$Shelf;III)V" } : Jvm.MethodName)) ∈ ALL := inT_2 41 rfl rfl
theorem w_340 : (Jvm.Cond.instanceMethod ({ cls := "MoonOverTheHill$Shelf", name := "take", desc := "(LMoonOverTheHill$Shelf;III)V" } : Jvm.MethodName)) ∈ ALL := inT_2 40 rfl rfl
theorem w_339 : (Jvm.Cond.methodLink "MoonOverTheHill" (94 : Nat) ({ cls := "MoonOverTheHill$Shelf", name := "take", desc := "(LMoonOverTheHill$Shelf;III)V" } : Jvm.MethodName)) ∈ ALL := inT_2 39 rfl rfl
theorem w_351 : (Jvm.Cond.methodLink "MoonOverTheHill" (98 : Nat) ({ cls := "MoonOverTheHill$Shelf", name := "isRow", desc := "()Z" } : Jvm.MethodName)) ∈ ALL := inT_2 51 rfl rfl
theorem w_352 : (Jvm.Cond.methodLink "MoonOverTheHill" (101 : Nat) ({ cls := "MoonOverTheHill$Shelf", name := "at", desc := "(I)J" } : Jvm.MethodName)) ∈ ALL := inT_2 52 rfl rfl
theorem w_362 : (Jvm.Cond.selects "MoonOverTheHill$Shelf" ({ cls := "MoonOverTheHill$Shelf", name := "content", desc := "()I" } : Jvm.MethodName) ({ cls := "MoonOverTheHill$Shelf", name := "content", desc := "()I" } : Jvm.MethodName)) ∈ ALL := inT_2 62 rfl rfl
theorem w_361 : (Jvm.Cond.instanceMethod ({ cls := "MoonOverTheHill$Shelf", name := "content", desc := "()I" } : Jvm.MethodName)) ∈ ALL := inT_2 61 rfl rfl
theorem w_360 : (Jvm.Cond.methodLink "MoonOverTheHill" (105 : Nat) ({ cls := "MoonOverTheHill$Shelf", name := "content", desc := "()I" } : Jvm.MethodName)) ∈ ALL := inT_2 60 rfl rfl
theorem w_369 : (Jvm.Cond.static ({ cls := "MoonOverTheHill", name := "isKind", desc := "(I)Z" } : Jvm.MethodName)) ∈ ALL := inT_2 69 rfl rfl
theorem w_368 : (Jvm.Cond.methodLink "MoonOverTheHill" (109 : Nat) ({ cls := "MoonOverTheHill", name := "isKind", desc := "(I)Z" } : Jvm.MethodName)) ∈ ALL := inT_2 68 rfl rfl
theorem w_376 : (Jvm.Cond.selects "MoonOverTheHill$Shelf" ({ cls := "MoonOverTheHill$Shelf", name := "putEvening", desc := "(II)V" } : Jvm.MethodName) ({ cls := "MoonOverTheHill$Shelf", name := "putEvening", desc := "(II)V" } : Jvm.MethodName)) ∈ ALL := inT_2 76 rfl rfl
theorem w_375 : (Jvm.Cond.instanceMethod ({ cls := "MoonOverTheHill$Shelf", name := "putEvening", desc := "(II)V" } : Jvm.MethodName)) ∈ ALL := inT_2 75 rfl rfl
theorem w_374 : (Jvm.Cond.methodLink "MoonOverTheHill" (116 : Nat) ({ cls := "MoonOverTheHill$Shelf", name := "putEvening", desc := "(II)V" } : Jvm.MethodName)) ∈ ALL := inT_2 74 rfl rfl
theorem w_384 : (Jvm.Cond.selects "MoonOverTheHill$Shelf" ({ cls := "MoonOverTheHill$Shelf", name := "kind", desc := "()I" } : Jvm.MethodName) ({ cls := "MoonOverTheHill$Shelf", name := "kind", desc := "()I" } : Jvm.MethodName)) ∈ ALL := inT_2 84 rfl rfl
theorem w_383 : (Jvm.Cond.instanceMethod ({ cls := "MoonOverTheHill$Shelf", name := "kind", desc := "()I" } : Jvm.MethodName)) ∈ ALL := inT_2 83 rfl rfl
theorem w_382 : (Jvm.Cond.methodLink "MoonOverTheHill" (119 : Nat) ({ cls := "MoonOverTheHill$Shelf", name := "kind", desc := "()I" } : Jvm.MethodName)) ∈ ALL := inT_2 82 rfl rfl
theorem w_387 : (Jvm.Cond.static ({ cls := "MoonOverTheHill", name := "isUnder", desc := "(II)Z" } : Jvm.MethodName)) ∈ ALL := inT_2 87 rfl rfl
theorem w_386 : (Jvm.Cond.methodLink "MoonOverTheHill" (122 : Nat) ({ cls := "MoonOverTheHill", name := "isUnder", desc := "(II)Z" } : Jvm.MethodName)) ∈ ALL := inT_2 86 rfl rfl
theorem w_247 : (Jvm.Cond.fieldLink "MoonOverTheHill" (27 : Nat) "MoonOverTheHill" "moon" "LMoonOverTheHill$Moon;") ∈ ALL := inT_1 187 rfl rfl
theorem w_391 : (Jvm.Cond.selects "MoonOverTheHill$Shelf" ({ cls := "MoonOverTheHill$Shelf", name := "day", desc := "()I" } : Jvm.MethodName) ({ cls := "MoonOverTheHill$Shelf", name := "day", desc := "()I" } : Jvm.MethodName)) ∈ ALL := inT_2 91 rfl rfl
theorem w_390 : (Jvm.Cond.instanceMethod ({ cls := "MoonOverTheHill$Shelf", name := "day", desc := "()I" } : Jvm.MethodName)) ∈ ALL := inT_2 90 rfl rfl
theorem w_389 : (Jvm.Cond.methodLink "MoonOverTheHill" (125 : Nat) ({ cls := "MoonOverTheHill$Shelf", name := "day", desc := "()I" } : Jvm.MethodName)) ∈ ALL := inT_2 89 rfl rfl
theorem w_395 : (Jvm.Cond.selects "MoonOverTheHill$Moon" ({ cls := "MoonOverTheHill$Moon", name := "saysOf", desc := "(II)I" } : Jvm.MethodName) ({ cls := "MoonOverTheHill$Moon", name := "saysOf", desc := "(II)I" } : Jvm.MethodName)) ∈ ALL := inT_2 95 rfl rfl
theorem w_394 : (Jvm.Cond.instanceMethod ({ cls := "MoonOverTheHill$Moon", name := "saysOf", desc := "(II)I" } : Jvm.MethodName)) ∈ ALL := inT_2 94 rfl rfl
theorem w_393 : (Jvm.Cond.methodLink "MoonOverTheHill" (128 : Nat) ({ cls := "MoonOverTheHill$Moon", name := "saysOf", desc := "(II)I" } : Jvm.MethodName)) ∈ ALL := inT_2 93 rfl rfl
theorem w_451 : (Jvm.Cond.classLink "MoonOverTheHill" (132 : Nat) "MoonOverTheHill$Question") ∈ ALL := inT_2 151 rfl rfl
theorem w_452 : (Jvm.Cond.instantiable "MoonOverTheHill$Question" (5 : Nat)) ∈ ALL := inT_2 152 rfl rfl
theorem w_454 : (Jvm.Cond.instanceMethod ({ cls := "MoonOverTheHill$Question", name := "<init>", desc := "(I)V" } : Jvm.MethodName)) ∈ ALL := inT_2 154 rfl rfl
theorem w_453 : (Jvm.Cond.methodLink "MoonOverTheHill" (134 : Nat) ({ cls := "MoonOverTheHill$Question", name := "<init>", desc := "(I)V" } : Jvm.MethodName)) ∈ ALL := inT_2 153 rfl rfl
theorem w_481 : (Jvm.Cond.methodLink "MoonOverTheHill" (137 : Nat) ({ cls := "MoonOverTheHill$Moon", name := "fits", desc := "(LMoonOverTheHill$Question;I)Z" } : Jvm.MethodName)) ∈ ALL := inT_2 181 rfl rfl
theorem w_244 : (Jvm.Cond.fieldLink "MoonOverTheHill" (10 : Nat) "MoonOverTheHill" "now" "LMoonOverTheHill$State;") ∈ ALL := inT_1 184 rfl rfl
theorem w_551 : (Jvm.Cond.selects "MoonOverTheHill$State" ({ cls := "MoonOverTheHill$State", name := "askedOf", desc := "(I)I" } : Jvm.MethodName) ({ cls := "MoonOverTheHill$State", name := "askedOf", desc := "(I)I" } : Jvm.MethodName)) ∈ ALL := inT_3 11 rfl rfl
theorem w_550 : (Jvm.Cond.instanceMethod ({ cls := "MoonOverTheHill$State", name := "askedOf", desc := "(I)I" } : Jvm.MethodName)) ∈ ALL := inT_3 10 rfl rfl
theorem w_549 : (Jvm.Cond.methodLink "MoonOverTheHill" (141 : Nat) ({ cls := "MoonOverTheHill$State", name := "askedOf", desc := "(I)I" } : Jvm.MethodName)) ∈ ALL := inT_3 9 rfl rfl
theorem w_553 : (Jvm.Cond.methodLink "MoonOverTheHill" (144 : Nat) ({ cls := "MoonOverTheHill$State", name := "setAsked", desc := "(II)V" } : Jvm.MethodName)) ∈ ALL := inT_3 13 rfl rfl
theorem w_142 : (Jvm.Cond.fieldLink "MoonOverTheHill" (147 : Nat) "MoonOverTheHill$State" "hill" "LMoonOverTheHill$Hill;") ∈ ALL := inT_1 82 rfl rfl
theorem w_561 : (Jvm.Cond.methodLink "MoonOverTheHill" (151 : Nat) ({ cls := "MoonOverTheHill$Hill", name := "isFull", desc := "()Z" } : Jvm.MethodName)) ∈ ALL := inT_3 21 rfl rfl
theorem w_569 : (Jvm.Cond.methodLink "MoonOverTheHill" (156 : Nat) ({ cls := "MoonOverTheHill$Hill", name := "add", desc := "(III)V" } : Jvm.MethodName)) ∈ ALL := inT_3 29 rfl rfl
theorem w_577 : (Jvm.Cond.methodLink "MoonOverTheHill" (160 : Nat) ({ cls := "MoonOverTheHill$Hill", name := "count", desc := "()I" } : Jvm.MethodName)) ∈ ALL := inT_3 37 rfl rfl
theorem w_145 : (Jvm.Cond.fieldLink "MoonOverTheHill" (163 : Nat) "MoonOverTheHill$State" "stones" "LMoonOverTheHill$Few;") ∈ ALL := inT_1 85 rfl rfl
theorem w_582 : (Jvm.Cond.methodLink "MoonOverTheHill" (167 : Nat) ({ cls := "MoonOverTheHill$Few", name := "isFull", desc := "()Z" } : Jvm.MethodName)) ∈ ALL := inT_3 42 rfl rfl
theorem w_583 : (Jvm.Cond.methodLink "MoonOverTheHill" (170 : Nat) ({ cls := "MoonOverTheHill$Few", name := "add", desc := "(I)V" } : Jvm.MethodName)) ∈ ALL := inT_3 43 rfl rfl
theorem w_584 : (Jvm.Cond.methodLink "MoonOverTheHill" (172 : Nat) ({ cls := "MoonOverTheHill$Few", name := "count", desc := "()I" } : Jvm.MethodName)) ∈ ALL := inT_3 44 rfl rfl
theorem w_149 : (Jvm.Cond.fieldLink "MoonOverTheHill" (173 : Nat) "MoonOverTheHill$State" "clouds" "LMoonOverTheHill$Few;") ∈ ALL := inT_1 89 rfl rfl
theorem w_589 : (Jvm.Cond.methodLink "MoonOverTheHill" (176 : Nat) ({ cls := "MoonOverTheHill$Few", name := "contains", desc := "(I)Z" } : Jvm.MethodName)) ∈ ALL := inT_3 49 rfl rfl
theorem w_596 : (Jvm.Cond.selects "MoonOverTheHill$Hill" ({ cls := "MoonOverTheHill$Hill", name := "empty", desc := "()V" } : Jvm.MethodName) ({ cls := "MoonOverTheHill$Hill", name := "empty", desc := "()V" } : Jvm.MethodName)) ∈ ALL := inT_3 56 rfl rfl
theorem w_595 : (Jvm.Cond.instanceMethod ({ cls := "MoonOverTheHill$Hill", name := "empty", desc := "()V" } : Jvm.MethodName)) ∈ ALL := inT_3 55 rfl rfl
theorem w_594 : (Jvm.Cond.methodLink "MoonOverTheHill" (179 : Nat) ({ cls := "MoonOverTheHill$Hill", name := "empty", desc := "()V" } : Jvm.MethodName)) ∈ ALL := inT_3 54 rfl rfl
theorem w_605 : (Jvm.Cond.methodLink "MoonOverTheHill" (182 : Nat) ({ cls := "MoonOverTheHill$Few", name := "empty", desc := "()V" } : Jvm.MethodName)) ∈ ALL := inT_3 65 rfl rfl
theorem w_248 : (Jvm.Cond.fieldLink "MoonOverTheHill" (34 : Nat) "MoonOverTheHill" "tape" "LMoonOverTheHill$Tape;") ∈ ALL := inT_1 188 rfl rfl
theorem w_612 : (Jvm.Cond.selects "MoonOverTheHill$Tape" ({ cls := "MoonOverTheHill$Tape", name := "isFull", desc := "()Z" } : Jvm.MethodName) ({ cls := "MoonOverTheHill$Tape", name := "isFull", desc := "()Z" } : Jvm.MethodName)) ∈ ALL := inT_3 72 rfl rfl
theorem w_611 : (Jvm.Cond.instanceMethod ({ cls := "MoonOverTheHill$Tape", name := "isFull", desc := "()Z" } : Jvm.MethodName)) ∈ ALL := inT_3 71 rfl rfl
theorem w_610 : (Jvm.Cond.methodLink "MoonOverTheHill" (183 : Nat) ({ cls := "MoonOverTheHill$Tape", name := "isFull", desc := "()Z" } : Jvm.MethodName)) ∈ ALL := inT_3 70 rfl rfl
theorem w_616 : (Jvm.Cond.selects "MoonOverTheHill$Tape" ({ cls := "MoonOverTheHill$Tape", name := "add", desc := "(I)V" } : Jvm.MethodName) ({ cls := "MoonOverTheHill$Tape", name := "add", desc := "(I)V" } : Jvm.MethodName)) ∈ ALL := inT_3 76 rfl rfl
theorem w_615 : (Jvm.Cond.instanceMethod ({ cls := "MoonOverTheHill$Tape", name := "add", desc := "(I)V" } : Jvm.MethodName)) ∈ ALL := inT_3 75 rfl rfl
theorem w_614 : (Jvm.Cond.methodLink "MoonOverTheHill" (184 : Nat) ({ cls := "MoonOverTheHill$Tape", name := "add", desc := "(I)V" } : Jvm.MethodName)) ∈ ALL := inT_3 74 rfl rfl
theorem w_620 : (Jvm.Cond.selects "MoonOverTheHill$Tape" ({ cls := "MoonOverTheHill$Tape", name := "size", desc := "()I" } : Jvm.MethodName) ({ cls := "MoonOverTheHill$Tape", name := "size", desc := "()I" } : Jvm.MethodName)) ∈ ALL := inT_3 80 rfl rfl
theorem w_619 : (Jvm.Cond.instanceMethod ({ cls := "MoonOverTheHill$Tape", name := "size", desc := "()I" } : Jvm.MethodName)) ∈ ALL := inT_3 79 rfl rfl
theorem w_618 : (Jvm.Cond.methodLink "MoonOverTheHill" (185 : Nat) ({ cls := "MoonOverTheHill$Tape", name := "size", desc := "()I" } : Jvm.MethodName)) ∈ ALL := inT_3 78 rfl rfl
theorem w_628 : (Jvm.Cond.selects "MoonOverTheHill$Tape" ({ cls := "MoonOverTheHill$Tape", name := "empty", desc := "()V" } : Jvm.MethodName) ({ cls := "MoonOverTheHill$Tape", name := "empty", desc := "()V" } : Jvm.MethodName)) ∈ ALL := inT_3 88 rfl rfl
theorem w_627 : (Jvm.Cond.instanceMethod ({ cls := "MoonOverTheHill$Tape", name := "empty", desc := "()V" } : Jvm.MethodName)) ∈ ALL := inT_3 87 rfl rfl
theorem w_626 : (Jvm.Cond.methodLink "MoonOverTheHill" (188 : Nat) ({ cls := "MoonOverTheHill$Tape", name := "empty", desc := "()V" } : Jvm.MethodName)) ∈ ALL := inT_3 86 rfl rfl
theorem w_245 : (Jvm.Cond.fieldLink "MoonOverTheHill" (16 : Nat) "MoonOverTheHill" "draft" "LMoonOverTheHill$State;") ∈ ALL := inT_1 185 rfl rfl
theorem w_636 : (Jvm.Cond.selects "MoonOverTheHill$State" ({ cls := "MoonOverTheHill$State", name := "become", desc := "(LMoonOverTheHill$State;)V" } : Jvm.MethodName) ({ cls := "MoonOverTheHill$State", name := "become", desc := "(LMoonOverTheHill$State;)V" } : Jvm.MethodName)) ∈ ALL := inT_3 96 rfl rfl
theorem w_635 : (Jvm.Cond.instanceMethod ({ cls := "MoonOverTheHill$State", name := "become", desc := "(LMoonOverTheHill$State;)V" } : Jvm.MethodName)) ∈ ALL := inT_3 95 rfl rfl
theorem w_634 : (Jvm.Cond.methodLink "MoonOverTheHill" (189 : Nat) ({ cls := "MoonOverTheHill$State", name := "become", desc := "(LMoonOverTheHill$State;)V" } : Jvm.MethodName)) ∈ ALL := inT_3 94 rfl rfl
theorem w_651 : (Jvm.Cond.selects "MoonOverTheHill$Tape" ({ cls := "MoonOverTheHill$Tape", name := "read", desc := "(LMoonOverTheHill$State;)I" } : Jvm.MethodName) ({ cls := "MoonOverTheHill$Tape", name := "read", desc := "(LMoonOverTheHill$State;)I" } : Jvm.MethodName)) ∈ ALL := inT_3 111 rfl rfl
theorem w_650 : (Jvm.Cond.instanceMethod ({ cls := "MoonOverTheHill$Tape", name := "read", desc := "(LMoonOverTheHill$State;)I" } : Jvm.MethodName)) ∈ ALL := inT_3 110 rfl rfl
theorem w_649 : (Jvm.Cond.methodLink "MoonOverTheHill" (192 : Nat) ({ cls := "MoonOverTheHill$Tape", name := "read", desc := "(LMoonOverTheHill$State;)I" } : Jvm.MethodName)) ∈ ALL := inT_3 109 rfl rfl
theorem w_756 : (Jvm.Cond.selects "MoonOverTheHill$Tape" ({ cls := "MoonOverTheHill$Tape", name := "fault", desc := "()I" } : Jvm.MethodName) ({ cls := "MoonOverTheHill$Tape", name := "fault", desc := "()I" } : Jvm.MethodName)) ∈ ALL := inT_3 216 rfl rfl
theorem w_755 : (Jvm.Cond.instanceMethod ({ cls := "MoonOverTheHill$Tape", name := "fault", desc := "()I" } : Jvm.MethodName)) ∈ ALL := inT_3 215 rfl rfl
theorem w_754 : (Jvm.Cond.methodLink "MoonOverTheHill" (196 : Nat) ({ cls := "MoonOverTheHill$Tape", name := "fault", desc := "()I" } : Jvm.MethodName)) ∈ ALL := inT_3 214 rfl rfl
theorem w_765 : (Jvm.Cond.selects "MoonOverTheHill$Hill" ({ cls := "MoonOverTheHill$Hill", name := "partOf", desc := "(II)I" } : Jvm.MethodName) ({ cls := "MoonOverTheHill$Hill", name := "partOf", desc := "(II)I" } : Jvm.MethodName)) ∈ ALL := inT_3 225 rfl rfl
theorem w_764 : (Jvm.Cond.instanceMethod ({ cls := "MoonOverTheHill$Hill", name := "partOf", desc := "(II)I" } : Jvm.MethodName)) ∈ ALL := inT_3 224 rfl rfl
theorem w_763 : (Jvm.Cond.methodLink "MoonOverTheHill" (199 : Nat) ({ cls := "MoonOverTheHill$Hill", name := "partOf", desc := "(II)I" } : Jvm.MethodName)) ∈ ALL := inT_3 223 rfl rfl
theorem w_12 : Cond.selects "MoonOverTheHill" (⟨"MoonOverTheHill", "isStone", "(I)Z"⟩ : MethodName) (⟨"MoonOverTheHill", "isStone", "(I)Z"⟩ : MethodName) ∈ ALL := inP 12 rfl rfl
theorem w_773 : (Jvm.Cond.instanceMethod ({ cls := "MoonOverTheHill", name := "isStone", desc := "(I)Z" } : Jvm.MethodName)) ∈ ALL := inT_3 233 rfl rfl
theorem w_771 : (Jvm.Cond.methodLink "MoonOverTheHill" (202 : Nat) ({ cls := "MoonOverTheHill", name := "isStone", desc := "(I)Z" } : Jvm.MethodName)) ∈ ALL := inT_3 231 rfl rfl
theorem w_775 : (Jvm.Cond.methodLink "MoonOverTheHill" (205 : Nat) ({ cls := "MoonOverTheHill$Few", name := "at", desc := "(I)I" } : Jvm.MethodName)) ∈ ALL := inT_3 235 rfl rfl
theorem w_780 : (Jvm.Cond.methodLink "MoonOverTheHill" (207 : Nat) ({ cls := "MoonOverTheHill$Hill", name := "lineAt", desc := "(I)I" } : Jvm.MethodName)) ∈ ALL := inT_4 0 rfl rfl
theorem w_785 : (Jvm.Cond.methodLink "MoonOverTheHill" (210 : Nat) ({ cls := "MoonOverTheHill$Moon", name := "ageOf", desc := "(I)I" } : Jvm.MethodName)) ∈ ALL := inT_4 5 rfl rfl
theorem w_786 : (Jvm.Cond.methodLink "MoonOverTheHill" (213 : Nat) ({ cls := "MoonOverTheHill$Moon", name := "litOf", desc := "(I)I" } : Jvm.MethodName)) ∈ ALL := inT_4 6 rfl rfl
theorem w_787 : (Jvm.Cond.methodLink "MoonOverTheHill" (216 : Nat) ({ cls := "MoonOverTheHill$Moon", name := "outOf", desc := "(I)I" } : Jvm.MethodName)) ∈ ALL := inT_4 7 rfl rfl
theorem w_788 : (Jvm.Cond.methodLink "MoonOverTheHill" (219 : Nat) ({ cls := "MoonOverTheHill$Moon", name := "riseOf", desc := "(I)I" } : Jvm.MethodName)) ∈ ALL := inT_4 8 rfl rfl
theorem w_792 : (Jvm.Cond.methodLink "MoonOverTheHill" (222 : Nat) ({ cls := "MoonOverTheHill$Moon", name := "wayOf", desc := "(I)I" } : Jvm.MethodName)) ∈ ALL := inT_4 12 rfl rfl
theorem w_793 : (Jvm.Cond.methodLink "MoonOverTheHill" (225 : Nat) ({ cls := "MoonOverTheHill$Moon", name := "overOf", desc := "(I)I" } : Jvm.MethodName)) ∈ ALL := inT_4 13 rfl rfl
theorem w_797 : (Jvm.Cond.methodLink "MoonOverTheHill" (228 : Nat) ({ cls := "MoonOverTheHill$Moon", name := "upOf", desc := "(I)I" } : Jvm.MethodName)) ∈ ALL := inT_4 17 rfl rfl
theorem w_798 : (Jvm.Cond.methodLink "MoonOverTheHill" (231 : Nat) ({ cls := "MoonOverTheHill$Moon", name := "laterOf", desc := "(I)I" } : Jvm.MethodName)) ∈ ALL := inT_4 18 rfl rfl
theorem w_799 : (Jvm.Cond.methodLink "MoonOverTheHill" (234 : Nat) ({ cls := "MoonOverTheHill$Moon", name := "degreeOf", desc := "(I)I" } : Jvm.MethodName)) ∈ ALL := inT_4 19 rfl rfl
theorem w_809 : (Jvm.Cond.constant "MoonOverTheHill" (369 : Nat) (-1000000 : Int32)) ∈ ALL := inT_4 29 rfl rfl
theorem w_13 : Cond.selects "MoonOverTheHill" (⟨"MoonOverTheHill", "refuseFarBelow", "(I)I"⟩ : MethodName) (⟨"MoonOverTheHill", "refuseFarBelow", "(I)I"⟩ : MethodName) ∈ ALL := inP 13 rfl rfl
theorem w_807 : (Jvm.Cond.instanceMethod ({ cls := "MoonOverTheHill", name := "refuseFarBelow", desc := "(I)I" } : Jvm.MethodName)) ∈ ALL := inT_4 27 rfl rfl
theorem w_805 : (Jvm.Cond.methodLink "MoonOverTheHill" (240 : Nat) ({ cls := "MoonOverTheHill", name := "refuseFarBelow", desc := "(I)I" } : Jvm.MethodName)) ∈ ALL := inT_4 25 rfl rfl
theorem w_804 : (Jvm.Cond.methodLink "MoonOverTheHill" (237 : Nat) ({ cls := "MoonOverTheHill$Moon", name := "slantOf", desc := "(I)I" } : Jvm.MethodName)) ∈ ALL := inT_4 24 rfl rfl
theorem w_814 : (Jvm.Cond.methodLink "MoonOverTheHill" (243 : Nat) ({ cls := "MoonOverTheHill$Moon", name := "behindOf", desc := "(I)I" } : Jvm.MethodName)) ∈ ALL := inT_4 34 rfl rfl
theorem w_824 : (Jvm.Cond.static ({ cls := "MoonOverTheHill", name := "areMinutes", desc := "(II)Z" } : Jvm.MethodName)) ∈ ALL := inT_4 44 rfl rfl
theorem w_823 : (Jvm.Cond.methodLink "MoonOverTheHill" (246 : Nat) ({ cls := "MoonOverTheHill", name := "areMinutes", desc := "(II)Z" } : Jvm.MethodName)) ∈ ALL := inT_4 43 rfl rfl
theorem w_826 : (Jvm.Cond.methodLink "MoonOverTheHill" (249 : Nat) ({ cls := "MoonOverTheHill$Moon", name := "shinesOf", desc := "(III)I" } : Jvm.MethodName)) ∈ ALL := inT_4 46 rfl rfl
theorem w_831 : (Jvm.Cond.methodLink "MoonOverTheHill" (253 : Nat) ({ cls := "MoonOverTheHill$Moon", name := "lightOf", desc := "(III)I" } : Jvm.MethodName)) ∈ ALL := inT_4 51 rfl rfl
theorem w_841 : (Jvm.Cond.selects "MoonOverTheHill$Moon" ({ cls := "MoonOverTheHill$Moon", name := "pick", desc := "(IIILMoonOverTheHill$Question;)I" } : Jvm.MethodName) ({ cls := "MoonOverTheHill$Moon", name := "pick", desc := "(IIILMoonOverTheHill$Question;)I" } : Jvm.MethodName)) ∈ ALL := inT_4 61 rfl rfl
theorem w_840 : (Jvm.Cond.instanceMethod ({ cls := "MoonOverTheHill$Moon", name := "pick", desc := "(IIILMoonOverTheHill$Question;)I" } : Jvm.MethodName)) ∈ ALL := inT_4 60 rfl rfl
theorem w_839 : (Jvm.Cond.methodLink "MoonOverTheHill" (256 : Nat) ({ cls := "MoonOverTheHill$Moon", name := "pick", desc := "(IIILMoonOverTheHill$Question;)I" } : Jvm.MethodName)) ∈ ALL := inT_4 59 rfl rfl
theorem w_852 : (Jvm.Cond.static ({ cls := "MoonOverTheHill", name := "areDays", desc := "(II)Z" } : Jvm.MethodName)) ∈ ALL := inT_4 72 rfl rfl
theorem w_851 : (Jvm.Cond.methodLink "MoonOverTheHill" (260 : Nat) ({ cls := "MoonOverTheHill", name := "areDays", desc := "(II)Z" } : Jvm.MethodName)) ∈ ALL := inT_4 71 rfl rfl
theorem w_859 : (Jvm.Cond.instanceMethod ({ cls := "MoonOverTheHill$Question", name := "<init>", desc := "(IIII)V" } : Jvm.MethodName)) ∈ ALL := inT_4 79 rfl rfl
theorem w_858 : (Jvm.Cond.methodLink "MoonOverTheHill" (263 : Nat) ({ cls := "MoonOverTheHill$Question", name := "<init>", desc := "(IIII)V" } : Jvm.MethodName)) ∈ ALL := inT_4 78 rfl rfl
theorem w_14 : Cond.selects "MoonOverTheHill" (⟨"MoonOverTheHill", "orStuck", "(I)I"⟩ : MethodName) (⟨"MoonOverTheHill", "orStuck", "(I)I"⟩ : MethodName) ∈ ALL := inP 14 rfl rfl
theorem w_863 : (Jvm.Cond.instanceMethod ({ cls := "MoonOverTheHill", name := "orStuck", desc := "(I)I" } : Jvm.MethodName)) ∈ ALL := inT_4 83 rfl rfl
theorem w_861 : (Jvm.Cond.methodLink "MoonOverTheHill" (266 : Nat) ({ cls := "MoonOverTheHill", name := "orStuck", desc := "(I)I" } : Jvm.MethodName)) ∈ ALL := inT_4 81 rfl rfl
theorem w_871 : (Jvm.Cond.selects "MoonOverTheHill$Moon" ({ cls := "MoonOverTheHill$Moon", name := "bestOf", desc := "(III)I" } : Jvm.MethodName) ({ cls := "MoonOverTheHill$Moon", name := "bestOf", desc := "(III)I" } : Jvm.MethodName)) ∈ ALL := inT_4 91 rfl rfl
theorem w_870 : (Jvm.Cond.instanceMethod ({ cls := "MoonOverTheHill$Moon", name := "bestOf", desc := "(III)I" } : Jvm.MethodName)) ∈ ALL := inT_4 90 rfl rfl
theorem w_869 : (Jvm.Cond.methodLink "MoonOverTheHill" (269 : Nat) ({ cls := "MoonOverTheHill$Moon", name := "bestOf", desc := "(III)I" } : Jvm.MethodName)) ∈ ALL := inT_4 89 rfl rfl
theorem w_891 : (Jvm.Cond.methodLink "MoonOverTheHill" (272 : Nat) ({ cls := "MoonOverTheHill$Moon", name := "lastOf", desc := "(II)I" } : Jvm.MethodName)) ∈ ALL := inT_4 111 rfl rfl
theorem w_912 : (Jvm.Cond.methodLink "MoonOverTheHill" (275 : Nat) ({ cls := "java/lang/Math", name := "min", desc := "(II)I" } : Jvm.MethodName)) ∈ ALL := inT_4 132 rfl rfl
theorem w_913 : (Jvm.Cond.methodLink "MoonOverTheHill" (280 : Nat) ({ cls := "java/lang/Math", name := "max", desc := "(II)I" } : Jvm.MethodName)) ∈ ALL := inT_4 133 rfl rfl
theorem w_924 : (Jvm.Cond.selects "MoonOverTheHill$Moon" ({ cls := "MoonOverTheHill$Moon", name := "newDaysTill", desc := "(I)I" } : Jvm.MethodName) ({ cls := "MoonOverTheHill$Moon", name := "newDaysTill", desc := "(I)I" } : Jvm.MethodName)) ∈ ALL := inT_4 144 rfl rfl
theorem w_923 : (Jvm.Cond.instanceMethod ({ cls := "MoonOverTheHill$Moon", name := "newDaysTill", desc := "(I)I" } : Jvm.MethodName)) ∈ ALL := inT_4 143 rfl rfl
theorem w_922 : (Jvm.Cond.methodLink "MoonOverTheHill" (283 : Nat) ({ cls := "MoonOverTheHill$Moon", name := "newDaysTill", desc := "(I)I" } : Jvm.MethodName)) ∈ ALL := inT_4 142 rfl rfl
theorem w_944 : (Jvm.Cond.selects "MoonOverTheHill$Moon" ({ cls := "MoonOverTheHill$Moon", name := "degreeAt", desc := "(II)I" } : Jvm.MethodName) ({ cls := "MoonOverTheHill$Moon", name := "degreeAt", desc := "(II)I" } : Jvm.MethodName)) ∈ ALL := inT_4 164 rfl rfl
theorem w_943 : (Jvm.Cond.instanceMethod ({ cls := "MoonOverTheHill$Moon", name := "degreeAt", desc := "(II)I" } : Jvm.MethodName)) ∈ ALL := inT_4 163 rfl rfl
theorem w_942 : (Jvm.Cond.methodLink "MoonOverTheHill" (289 : Nat) ({ cls := "MoonOverTheHill$Moon", name := "degreeAt", desc := "(II)I" } : Jvm.MethodName)) ∈ ALL := inT_4 162 rfl rfl
theorem w_939 : (Jvm.Cond.selects "MoonOverTheHill$Moon" ({ cls := "MoonOverTheHill$Moon", name := "heightAt", desc := "(II)I" } : Jvm.MethodName) ({ cls := "MoonOverTheHill$Moon", name := "heightAt", desc := "(II)I" } : Jvm.MethodName)) ∈ ALL := inT_4 159 rfl rfl
theorem w_938 : (Jvm.Cond.instanceMethod ({ cls := "MoonOverTheHill$Moon", name := "heightAt", desc := "(II)I" } : Jvm.MethodName)) ∈ ALL := inT_4 158 rfl rfl
theorem w_937 : (Jvm.Cond.methodLink "MoonOverTheHill" (286 : Nat) ({ cls := "MoonOverTheHill$Moon", name := "heightAt", desc := "(II)I" } : Jvm.MethodName)) ∈ ALL := inT_4 157 rfl rfl
theorem w_950 : (Jvm.Cond.constantLong "MoonOverTheHill" (292 : Nat) (1000 : Int64)) ∈ ALL := inT_4 170 rfl rfl
theorem w_951 : (Jvm.Cond.constantLong "MoonOverTheHill" (294 : Nat) (1439 : Int64)) ∈ ALL := inT_4 171 rfl rfl
theorem w_953 : (Jvm.Cond.instanceMethod ({ cls := "MoonOverTheHill$Question", name := "<init>", desc := "(LMoonOverTheHill$Shelf;)V" } : Jvm.MethodName)) ∈ ALL := inT_4 173 rfl rfl
theorem w_952 : (Jvm.Cond.methodLink "MoonOverTheHill" (296 : Nat) ({ cls := "MoonOverTheHill$Question", name := "<init>", desc := "(LMoonOverTheHill$Shelf;)V" } : Jvm.MethodName)) ∈ ALL := inT_4 172 rfl rfl
theorem w_969 : (Jvm.Cond.selects "MoonOverTheHill$Moon" ({ cls := "MoonOverTheHill$Moon", name := "couldBegin", desc := "(J)Z" } : Jvm.MethodName) ({ cls := "MoonOverTheHill$Moon", name := "couldBegin", desc := "(J)Z" } : Jvm.MethodName)) ∈ ALL := inT_4 189 rfl rfl
theorem w_968 : (Jvm.Cond.instanceMethod ({ cls := "MoonOverTheHill$Moon", name := "couldBegin", desc := "(J)Z" } : Jvm.MethodName)) ∈ ALL := inT_4 188 rfl rfl
theorem w_967 : (Jvm.Cond.methodLink "MoonOverTheHill" (303 : Nat) ({ cls := "MoonOverTheHill$Moon", name := "couldBegin", desc := "(J)Z" } : Jvm.MethodName)) ∈ ALL := inT_4 187 rfl rfl
theorem w_974 : (Jvm.Cond.selects "MoonOverTheHill$Shelf" ({ cls := "MoonOverTheHill$Shelf", name := "timesOf", desc := "(JI)I" } : Jvm.MethodName) ({ cls := "MoonOverTheHill$Shelf", name := "timesOf", desc := "(JI)I" } : Jvm.MethodName)) ∈ ALL := inT_4 194 rfl rfl
theorem w_973 : (Jvm.Cond.instanceMethod ({ cls := "MoonOverTheHill$Shelf", name := "timesOf", desc := "(JI)I" } : Jvm.MethodName)) ∈ ALL := inT_4 193 rfl rfl
theorem w_972 : (Jvm.Cond.methodLink "MoonOverTheHill" (370 : Nat) ({ cls := "MoonOverTheHill$Shelf", name := "timesOf", desc := "(JI)I" } : Jvm.MethodName)) ∈ ALL := inT_4 192 rfl rfl
theorem w_15 : Cond.selects "MoonOverTheHill" (⟨"MoonOverTheHill", "toldByMost", "(LMoonOverTheHill$Shelf;I)I"⟩ : MethodName) (⟨"MoonOverTheHill", "toldByMost", "(LMoonOverTheHill$Shelf;I)I"⟩ : MethodName) ∈ ALL := inP 15 rfl rfl
