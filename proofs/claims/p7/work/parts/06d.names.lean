theorem w_1513 : (Jvm.Cond.code ({ cls := "MoonOverTheHillModel", name := "next", desc := "(II)I" } : Jvm.MethodName) prog_11_method_68_code (4 : Nat) (Option.some Jvm.ClassFile.FieldType.int)) ∈ ALL := inT_7 13 rfl rfl
theorem w_1517 : (Jvm.Cond.code ({ cls := "MoonOverTheHillModel", name := "many", desc := "(III)I" } : Jvm.MethodName) prog_11_method_69_code (6 : Nat) (Option.some Jvm.ClassFile.FieldType.int)) ∈ ALL := inT_7 17 rfl rfl
theorem w_1525 : (Jvm.Cond.code ({ cls := "MoonOverTheHillModel", name := "tellsOf", desc := "(III)I" } : Jvm.MethodName) prog_11_method_70_code (4 : Nat) (Option.some Jvm.ClassFile.FieldType.int)) ∈ ALL := inT_7 25 rfl rfl
theorem w_1521 : (Jvm.Cond.code ({ cls := "MoonOverTheHillModel", name := "between", desc := "(IIIII)I" } : Jvm.MethodName) prog_11_method_71_code (9 : Nat) (Option.some Jvm.ClassFile.FieldType.int)) ∈ ALL := inT_7 21 rfl rfl
theorem w_1529 : (Jvm.Cond.code ({ cls := "MoonOverTheHillModel", name := "walks", desc := "(IIIIII)I" } : Jvm.MethodName) prog_11_method_72_code (10 : Nat) (Option.some Jvm.ClassFile.FieldType.int)) ∈ ALL := inT_7 29 rfl rfl
theorem w_1534 : (Jvm.Cond.code ({ cls := "MoonOverTheHillModel", name := "overs", desc := "(IIII)I" } : Jvm.MethodName) prog_11_method_73_code (8 : Nat) (Option.some Jvm.ClassFile.FieldType.int)) ∈ ALL := inT_7 34 rfl rfl
theorem w_1538 : (Jvm.Cond.code ({ cls := "MoonOverTheHillModel", name := "alike", desc := "(I)I" } : Jvm.MethodName) prog_11_method_74_code (4 : Nat) (Option.some Jvm.ClassFile.FieldType.int)) ∈ ALL := inT_7 38 rfl rfl
theorem w_1543 : (Jvm.Cond.code ({ cls := "MoonOverTheHillModel", name := "lates", desc := "(III)I" } : Jvm.MethodName) prog_11_method_75_code (9 : Nat) (Option.some Jvm.ClassFile.FieldType.int)) ∈ ALL := inT_7 43 rfl rfl
theorem w_1551 : (Jvm.Cond.code ({ cls := "MoonOverTheHillModel", name := "sizeOf", desc := "(I)I" } : Jvm.MethodName) prog_11_method_76_code (3 : Nat) (Option.some Jvm.ClassFile.FieldType.int)) ∈ ALL := inT_7 51 rfl rfl
theorem w_1547 : (Jvm.Cond.code ({ cls := "MoonOverTheHillModel", name := "farthest", desc := "(II)I" } : Jvm.MethodName) prog_11_method_77_code (5 : Nat) (Option.some Jvm.ClassFile.FieldType.int)) ∈ ALL := inT_7 47 rfl rfl
theorem w_1555 : (Jvm.Cond.code ({ cls := "MoonOverTheHillModel", name := "brightest", desc := "(II)I" } : Jvm.MethodName) prog_11_method_78_code (7 : Nat) (Option.some Jvm.ClassFile.FieldType.int)) ∈ ALL := inT_7 55 rfl rfl
theorem w_1559 : (Jvm.Cond.code ({ cls := "MoonOverTheHillModel", name := "sees", desc := "(III)I" } : Jvm.MethodName) prog_11_method_79_code (5 : Nat) (Option.some Jvm.ClassFile.FieldType.int)) ∈ ALL := inT_7 59 rfl rfl
theorem w_1568 : (Jvm.Cond.code ({ cls := "MoonOverTheHillModel", name := "isPicture", desc := "([JI)Z" } : Jvm.MethodName) prog_11_method_80_code (5 : Nat) (Option.some Jvm.ClassFile.FieldType.boolean)) ∈ ALL := inT_7 68 rfl rfl
theorem w_1564 : (Jvm.Cond.code ({ cls := "MoonOverTheHillModel", name := "picture", desc := "(III)I" } : Jvm.MethodName) prog_11_method_81_code (9 : Nat) (Option.some Jvm.ClassFile.FieldType.int)) ∈ ALL := inT_7 64 rfl rfl
theorem w_1572 : (Jvm.Cond.code ({ cls := "MoonOverTheHillModel", name := "seen", desc := "(II)I" } : Jvm.MethodName) prog_11_method_82_code (4 : Nat) (Option.some Jvm.ClassFile.FieldType.int)) ∈ ALL := inT_7 72 rfl rfl
theorem w_1586 : (Jvm.Cond.code ({ cls := "MoonOverTheHillModel", name := "canBe", desc := "(J)Z" } : Jvm.MethodName) prog_11_method_83_code (3 : Nat) (Option.some Jvm.ClassFile.FieldType.boolean)) ∈ ALL := inT_7 86 rfl rfl
theorem w_1582 : (Jvm.Cond.code ({ cls := "MoonOverTheHillModel", name := "noWitnesses", desc := "(II)I" } : Jvm.MethodName) prog_11_method_84_code (4 : Nat) (Option.some Jvm.ClassFile.FieldType.int)) ∈ ALL := inT_7 82 rfl rfl
theorem w_1578 : (Jvm.Cond.code ({ cls := "MoonOverTheHillModel", name := "court", desc := "(II)I" } : Jvm.MethodName) prog_11_method_85_code (9 : Nat) (Option.some Jvm.ClassFile.FieldType.int)) ∈ ALL := inT_7 78 rfl rfl
theorem w_1592 : (Jvm.Cond.code ({ cls := "MoonOverTheHillModel", name := "eager", desc := "(II)I" } : Jvm.MethodName) prog_11_method_86_code (6 : Nat) (Option.some Jvm.ClassFile.FieldType.int)) ∈ ALL := inT_7 92 rfl rfl
theorem w_1596 : (Jvm.Cond.code ({ cls := "MoonOverTheHillModel", name := "date", desc := "(I)I" } : Jvm.MethodName) prog_11_method_87_code (3 : Nat) (Option.some Jvm.ClassFile.FieldType.int)) ∈ ALL := inT_7 96 rfl rfl
theorem w_1600 : (Jvm.Cond.code ({ cls := "MoonOverTheHillModel", name := "months", desc := "(I)I" } : Jvm.MethodName) prog_11_method_88_code (4 : Nat) (Option.some Jvm.ClassFile.FieldType.int)) ∈ ALL := inT_7 100 rfl rfl
theorem w_1604 : (Jvm.Cond.code ({ cls := "MoonOverTheHillModel", name := "eclipse", desc := "(I)I" } : Jvm.MethodName) prog_11_method_89_code (4 : Nat) (Option.some Jvm.ClassFile.FieldType.int)) ∈ ALL := inT_7 104 rfl rfl
theorem w_1612 : (Jvm.Cond.code ({ cls := "MoonOverTheHillModel", name := "highOf", desc := "(I)I" } : Jvm.MethodName) prog_11_method_90_code (2 : Nat) (Option.some Jvm.ClassFile.FieldType.int)) ∈ ALL := inT_7 112 rfl rfl
theorem w_1608 : (Jvm.Cond.code ({ cls := "MoonOverTheHillModel", name := "tide", desc := "(II)I" } : Jvm.MethodName) prog_11_method_91_code (5 : Nat) (Option.some Jvm.ClassFile.FieldType.int)) ∈ ALL := inT_7 108 rfl rfl
theorem w_1616 : (Jvm.Cond.code ({ cls := "MoonOverTheHillModel", name := "high", desc := "(I)I" } : Jvm.MethodName) prog_11_method_92_code (2 : Nat) (Option.some Jvm.ClassFile.FieldType.int)) ∈ ALL := inT_7 116 rfl rfl
theorem w_1620 : (Jvm.Cond.code ({ cls := "MoonOverTheHillModel", name := "bone", desc := "(III)I" } : Jvm.MethodName) prog_11_method_93_code (12 : Nat) (Option.some Jvm.ClassFile.FieldType.int)) ∈ ALL := inT_7 120 rfl rfl
theorem w_1635 : (Jvm.Cond.code ({ cls := "MoonOverTheHillModel", name := "isHit", desc := "(IIII)Z" } : Jvm.MethodName) prog_11_method_94_code (7 : Nat) (Option.some Jvm.ClassFile.FieldType.boolean)) ∈ ALL := inT_7 135 rfl rfl
theorem w_1630 : (Jvm.Cond.code ({ cls := "MoonOverTheHillModel", name := "isNear", desc := "(I)Z" } : Jvm.MethodName) prog_11_method_95_code (1 : Nat) (Option.some Jvm.ClassFile.FieldType.boolean)) ∈ ALL := inT_7 130 rfl rfl
theorem w_1627 : (Jvm.Cond.code ({ cls := "MoonOverTheHillModel", name := "hits", desc := "(III)I" } : Jvm.MethodName) prog_11_method_96_code (6 : Nat) (Option.some Jvm.ClassFile.FieldType.int)) ∈ ALL := inT_7 127 rfl rfl
theorem w_1643 : (Jvm.Cond.code ({ cls := "MoonOverTheHillModel", name := "chanceOf", desc := "(III)I" } : Jvm.MethodName) prog_11_method_97_code (8 : Nat) (Option.some Jvm.ClassFile.FieldType.int)) ∈ ALL := inT_7 143 rfl rfl
theorem w_1639 : (Jvm.Cond.code ({ cls := "MoonOverTheHillModel", name := "chance", desc := "(III)I" } : Jvm.MethodName) prog_11_method_98_code (4 : Nat) (Option.some Jvm.ClassFile.FieldType.int)) ∈ ALL := inT_7 139 rfl rfl
theorem w_1648 : (Jvm.Cond.code ({ cls := "MoonOverTheHillModel", name := "meant", desc := "(III)I" } : Jvm.MethodName) prog_11_method_99_code (6 : Nat) (Option.some Jvm.ClassFile.FieldType.int)) ∈ ALL := inT_7 148 rfl rfl
theorem w_1652 : (Jvm.Cond.code ({ cls := "MoonOverTheHillModel", name := "meets", desc := "(III)I" } : Jvm.MethodName) prog_11_method_100_code (5 : Nat) (Option.some Jvm.ClassFile.FieldType.int)) ∈ ALL := inT_7 152 rfl rfl
theorem w_1656 : (Jvm.Cond.code ({ cls := "MoonOverTheHillModel", name := "place", desc := "(III)I" } : Jvm.MethodName) prog_11_method_101_code (11 : Nat) (Option.some Jvm.ClassFile.FieldType.int)) ∈ ALL := inT_7 156 rfl rfl
theorem w_1660 : (Jvm.Cond.code ({ cls := "MoonOverTheHillModel", name := "told", desc := "(II)I" } : Jvm.MethodName) prog_11_method_102_code (3 : Nat) (Option.some Jvm.ClassFile.FieldType.int)) ∈ ALL := inT_7 160 rfl rfl
theorem w_1673 : (Jvm.Cond.code ({ cls := "MoonOverTheHillModel", name := "below", desc := "(I)I" } : Jvm.MethodName) prog_11_method_103_code (2 : Nat) (Option.some Jvm.ClassFile.FieldType.int)) ∈ ALL := inT_7 173 rfl rfl
theorem w_1669 : (Jvm.Cond.code ({ cls := "MoonOverTheHillModel", name := "goesBy", desc := "()I" } : Jvm.MethodName) prog_11_method_104_code (2 : Nat) (Option.some Jvm.ClassFile.FieldType.int)) ∈ ALL := inT_7 169 rfl rfl
theorem w_1665 : (Jvm.Cond.code ({ cls := "MoonOverTheHillModel", name := "goes", desc := "()I" } : Jvm.MethodName) prog_11_method_105_code (1 : Nat) (Option.some Jvm.ClassFile.FieldType.int)) ∈ ALL := inT_7 165 rfl rfl
theorem w_1678 : (Jvm.Cond.code ({ cls := "MoonOverTheHillModel", name := "looks", desc := "(I)I" } : Jvm.MethodName) prog_11_method_106_code (3 : Nat) (Option.some Jvm.ClassFile.FieldType.int)) ∈ ALL := inT_7 178 rfl rfl
theorem w_1682 : (Jvm.Cond.code ({ cls := "MoonOverTheHillModel", name := "seed", desc := "(I)I" } : Jvm.MethodName) prog_11_method_107_code (3 : Nat) (Option.some Jvm.ClassFile.FieldType.int)) ∈ ALL := inT_7 182 rfl rfl
theorem w_1686 : (Jvm.Cond.code ({ cls := "MoonOverTheHillModel", name := "image", desc := "()I" } : Jvm.MethodName) prog_11_method_110_code (1 : Nat) (Option.some Jvm.ClassFile.FieldType.int)) ∈ ALL := inT_7 186 rfl rfl
theorem w_1690 : (Jvm.Cond.code ({ cls := "MoonOverTheHillModel", name := "back", desc := "()I" } : Jvm.MethodName) prog_11_method_111_code (1 : Nat) (Option.some Jvm.ClassFile.FieldType.int)) ∈ ALL := inT_7 190 rfl rfl
theorem w_1694 : (Jvm.Cond.code ({ cls := "MoonOverTheHillModel", name := "status", desc := "(I)I" } : Jvm.MethodName) prog_11_method_112_code (4 : Nat) (Option.some Jvm.ClassFile.FieldType.int)) ∈ ALL := inT_7 194 rfl rfl
theorem w_192 : (Jvm.Cond.code ({ cls := "MoonOverTheHill$Tape", name := "<init>", desc := "()V" } : Jvm.MethodName) prog_9_method_1_code (1 : Nat) (Option.none : Option Jvm.ClassFile.FieldType)) ∈ ALL := inT_1 132 rfl rfl
theorem w_621 : (Jvm.Cond.code ({ cls := "MoonOverTheHill$Tape", name := "size", desc := "()I" } : Jvm.MethodName) prog_9_method_2_code (1 : Nat) (Option.some Jvm.ClassFile.FieldType.int)) ∈ ALL := inT_3 81 rfl rfl
theorem w_613 : (Jvm.Cond.code ({ cls := "MoonOverTheHill$Tape", name := "isFull", desc := "()Z" } : Jvm.MethodName) prog_9_method_3_code (1 : Nat) (Option.some Jvm.ClassFile.FieldType.boolean)) ∈ ALL := inT_3 73 rfl rfl
theorem w_617 : (Jvm.Cond.code ({ cls := "MoonOverTheHill$Tape", name := "add", desc := "(I)V" } : Jvm.MethodName) prog_9_method_4_code (2 : Nat) (Option.none : Option Jvm.ClassFile.FieldType)) ∈ ALL := inT_3 77 rfl rfl
theorem w_629 : (Jvm.Cond.code ({ cls := "MoonOverTheHill$Tape", name := "empty", desc := "()V" } : Jvm.MethodName) prog_9_method_5_code (1 : Nat) (Option.none : Option Jvm.ClassFile.FieldType)) ∈ ALL := inT_3 89 rfl rfl
theorem w_757 : (Jvm.Cond.code ({ cls := "MoonOverTheHill$Tape", name := "fault", desc := "()I" } : Jvm.MethodName) prog_9_method_6_code (1 : Nat) (Option.some Jvm.ClassFile.FieldType.int)) ∈ ALL := inT_3 217 rfl rfl
theorem w_660 : (Jvm.Cond.code ({ cls := "MoonOverTheHill$Tape", name := "byteAt", desc := "(I)I" } : Jvm.MethodName) prog_9_method_8_code (2 : Nat) (Option.some Jvm.ClassFile.FieldType.int)) ∈ ALL := inT_3 120 rfl rfl
theorem w_663 : (Jvm.Cond.code ({ cls := "MoonOverTheHill$Tape", name := "tokenOf", desc := "(I)I" } : Jvm.MethodName) prog_9_method_9_code (1 : Nat) (Option.some Jvm.ClassFile.FieldType.int)) ∈ ALL := inT_3 123 rfl rfl
theorem w_656 : (Jvm.Cond.code ({ cls := "MoonOverTheHill$Tape", name := "step", desc := "()V" } : Jvm.MethodName) prog_9_method_10_code (2 : Nat) (Option.none : Option Jvm.ClassFile.FieldType)) ∈ ALL := inT_3 116 rfl rfl
theorem w_673 : (Jvm.Cond.code ({ cls := "MoonOverTheHill$Tape", name := "isWord", desc := "(Ljava/lang/String;)Z" } : Jvm.MethodName) prog_9_method_11_code (3 : Nat) (Option.some Jvm.ClassFile.FieldType.boolean)) ∈ ALL := inT_3 133 rfl rfl
theorem w_729 : (Jvm.Cond.code ({ cls := "MoonOverTheHill$Tape", name := "takeNumber", desc := "(II)Z" } : Jvm.MethodName) prog_9_method_13_code (4 : Nat) (Option.some Jvm.ClassFile.FieldType.boolean)) ∈ ALL := inT_3 189 rfl rfl
theorem w_725 : (Jvm.Cond.code ({ cls := "MoonOverTheHill$Tape", name := "takeAsked", desc := "(LMoonOverTheHill$State;I)Z" } : Jvm.MethodName) prog_9_method_14_code (3 : Nat) (Option.some Jvm.ClassFile.FieldType.boolean)) ∈ ALL := inT_3 185 rfl rfl
theorem w_738 : (Jvm.Cond.code ({ cls := "MoonOverTheHill$Tape", name := "takeNotch", desc := "(LMoonOverTheHill$Hill;)Z" } : Jvm.MethodName) prog_9_method_15_code (4 : Nat) (Option.some Jvm.ClassFile.FieldType.boolean)) ∈ ALL := inT_3 198 rfl rfl
theorem w_745 : (Jvm.Cond.code ({ cls := "MoonOverTheHill$Tape", name := "takeStone", desc := "(LMoonOverTheHill$Few;)Z" } : Jvm.MethodName) prog_9_method_16_code (2 : Nat) (Option.some Jvm.ClassFile.FieldType.boolean)) ∈ ALL := inT_3 205 rfl rfl
theorem w_752 : (Jvm.Cond.code ({ cls := "MoonOverTheHill$Tape", name := "takeCloud", desc := "(LMoonOverTheHill$Few;)Z" } : Jvm.MethodName) prog_9_method_17_code (2 : Nat) (Option.some Jvm.ClassFile.FieldType.boolean)) ∈ ALL := inT_3 212 rfl rfl
theorem w_668 : (Jvm.Cond.code ({ cls := "MoonOverTheHill$Tape", name := "takeStatement", desc := "(LMoonOverTheHill$State;)Z" } : Jvm.MethodName) prog_9_method_12_code (2 : Nat) (Option.some Jvm.ClassFile.FieldType.boolean)) ∈ ALL := inT_3 128 rfl rfl
theorem w_652 : (Jvm.Cond.code ({ cls := "MoonOverTheHill$Tape", name := "read", desc := "(LMoonOverTheHill$State;)I" } : Jvm.MethodName) prog_9_method_7_code (3 : Nat) (Option.some Jvm.ClassFile.FieldType.int)) ∈ ALL := inT_3 112 rfl rfl
theorem w_83 : (Jvm.Cond.code ({ cls := "MoonOverTheHill", name := "<init>", desc := "()V" } : Jvm.MethodName) prog_1_method_1_code (2 : Nat) (Option.none : Option Jvm.ClassFile.FieldType)) ∈ ALL := inT_1 23 rfl rfl
theorem w_279 : (Jvm.Cond.code ({ cls := "MoonOverTheHill", name := "shelfAt", desc := "(I)LMoonOverTheHill$Shelf;" } : Jvm.MethodName) prog_1_method_69_code (2 : Nat) (Option.some (Jvm.ClassFile.FieldType.object "MoonOverTheHill$Shelf"))) ∈ ALL := inT_1 219 rfl rfl
theorem w_286 : (Jvm.Cond.code ({ cls := "MoonOverTheHill", name := "refuse", desc := "(I)I" } : Jvm.MethodName) prog_1_method_70_code (3 : Nat) (Option.some Jvm.ClassFile.FieldType.int)) ∈ ALL := inT_1 226 rfl rfl
theorem w_275 : (Jvm.Cond.code ({ cls := "MoonOverTheHill", name := "row", desc := "(III)I" } : Jvm.MethodName) prog_1_method_2_code (5 : Nat) (Option.some Jvm.ClassFile.FieldType.int)) ∈ ALL := inT_1 215 rfl rfl
theorem w_300 : (Jvm.Cond.code ({ cls := "MoonOverTheHill", name := "set", desc := "(IIJ)I" } : Jvm.MethodName) prog_1_method_3_code (7 : Nat) (Option.some Jvm.ClassFile.FieldType.int)) ∈ ALL := inT_2 0 rfl rfl
theorem w_328 : (Jvm.Cond.code ({ cls := "MoonOverTheHill", name := "copy", desc := "(IIIII)I" } : Jvm.MethodName) prog_1_method_4_code (8 : Nat) (Option.some Jvm.ClassFile.FieldType.int)) ∈ ALL := inT_2 28 rfl rfl
theorem w_350 : (Jvm.Cond.code ({ cls := "MoonOverTheHill", name := "element", desc := "(II)J" } : Jvm.MethodName) prog_1_method_5_code (4 : Nat) (Option.some Jvm.ClassFile.FieldType.long)) ∈ ALL := inT_2 50 rfl rfl
theorem w_359 : (Jvm.Cond.code ({ cls := "MoonOverTheHill", name := "holds", desc := "(I)I" } : Jvm.MethodName) prog_1_method_6_code (3 : Nat) (Option.some Jvm.ClassFile.FieldType.int)) ∈ ALL := inT_2 59 rfl rfl
theorem w_367 : (Jvm.Cond.code ({ cls := "MoonOverTheHill", name := "evening", desc := "(III)I" } : Jvm.MethodName) prog_1_method_7_code (5 : Nat) (Option.some Jvm.ClassFile.FieldType.int)) ∈ ALL := inT_2 67 rfl rfl
theorem w_381 : (Jvm.Cond.code ({ cls := "MoonOverTheHill", name := "says", desc := "(II)I" } : Jvm.MethodName) prog_1_method_8_code (4 : Nat) (Option.some Jvm.ClassFile.FieldType.int)) ∈ ALL := inT_2 81 rfl rfl
theorem w_450 : (Jvm.Cond.code ({ cls := "MoonOverTheHill", name := "isSo", desc := "(I)I" } : Jvm.MethodName) prog_1_method_9_code (3 : Nat) (Option.some Jvm.ClassFile.FieldType.int)) ∈ ALL := inT_2 150 rfl rfl
theorem w_548 : (Jvm.Cond.code ({ cls := "MoonOverTheHill", name := "ask", desc := "(II)I" } : Jvm.MethodName) prog_1_method_10_code (4 : Nat) (Option.some Jvm.ClassFile.FieldType.int)) ∈ ALL := inT_3 8 rfl rfl
theorem w_560 : (Jvm.Cond.code ({ cls := "MoonOverTheHill", name := "notch", desc := "(III)I" } : Jvm.MethodName) prog_1_method_11_code (4 : Nat) (Option.some Jvm.ClassFile.FieldType.int)) ∈ ALL := inT_3 20 rfl rfl
theorem w_581 : (Jvm.Cond.code ({ cls := "MoonOverTheHill", name := "stone", desc := "(I)I" } : Jvm.MethodName) prog_1_method_12_code (2 : Nat) (Option.some Jvm.ClassFile.FieldType.int)) ∈ ALL := inT_3 41 rfl rfl
theorem w_588 : (Jvm.Cond.code ({ cls := "MoonOverTheHill", name := "cloud", desc := "(I)I" } : Jvm.MethodName) prog_1_method_13_code (2 : Nat) (Option.some Jvm.ClassFile.FieldType.int)) ∈ ALL := inT_3 48 rfl rfl
theorem w_593 : (Jvm.Cond.code ({ cls := "MoonOverTheHill", name := "clear", desc := "(I)I" } : Jvm.MethodName) prog_1_method_14_code (3 : Nat) (Option.some Jvm.ClassFile.FieldType.int)) ∈ ALL := inT_3 53 rfl rfl
theorem w_609 : (Jvm.Cond.code ({ cls := "MoonOverTheHill", name := "feed", desc := "(I)I" } : Jvm.MethodName) prog_1_method_15_code (2 : Nat) (Option.some Jvm.ClassFile.FieldType.int)) ∈ ALL := inT_3 69 rfl rfl
theorem w_625 : (Jvm.Cond.code ({ cls := "MoonOverTheHill", name := "wipe", desc := "()I" } : Jvm.MethodName) prog_1_method_16_code (2 : Nat) (Option.some Jvm.ClassFile.FieldType.int)) ∈ ALL := inT_3 85 rfl rfl
theorem w_633 : (Jvm.Cond.code ({ cls := "MoonOverTheHill", name := "sky", desc := "()I" } : Jvm.MethodName) prog_1_method_17_code (3 : Nat) (Option.some Jvm.ClassFile.FieldType.int)) ∈ ALL := inT_3 93 rfl rfl
theorem w_762 : (Jvm.Cond.code ({ cls := "MoonOverTheHill", name := "notchOf", desc := "(II)I" } : Jvm.MethodName) prog_1_method_18_code (3 : Nat) (Option.some Jvm.ClassFile.FieldType.int)) ∈ ALL := inT_3 222 rfl rfl
theorem w_774 : (Jvm.Cond.code ({ cls := "MoonOverTheHill", name := "isStone", desc := "(I)Z" } : Jvm.MethodName) prog_1_method_68_code (2 : Nat) (Option.some Jvm.ClassFile.FieldType.boolean)) ∈ ALL := inT_3 234 rfl rfl
theorem w_770 : (Jvm.Cond.code ({ cls := "MoonOverTheHill", name := "stoneOf", desc := "(I)I" } : Jvm.MethodName) prog_1_method_19_code (2 : Nat) (Option.some Jvm.ClassFile.FieldType.int)) ∈ ALL := inT_3 230 rfl rfl
theorem w_779 : (Jvm.Cond.code ({ cls := "MoonOverTheHill", name := "line", desc := "(I)I" } : Jvm.MethodName) prog_1_method_20_code (2 : Nat) (Option.some Jvm.ClassFile.FieldType.int)) ∈ ALL := inT_3 239 rfl rfl
theorem w_784 : (Jvm.Cond.code ({ cls := "MoonOverTheHill", name := "moon", desc := "(II)I" } : Jvm.MethodName) prog_1_method_21_code (3 : Nat) (Option.some Jvm.ClassFile.FieldType.int)) ∈ ALL := inT_4 4 rfl rfl
theorem w_808 : (Jvm.Cond.code ({ cls := "MoonOverTheHill", name := "refuseFarBelow", desc := "(I)I" } : Jvm.MethodName) prog_1_method_71_code (2 : Nat) (Option.some Jvm.ClassFile.FieldType.int)) ∈ ALL := inT_4 28 rfl rfl
theorem w_803 : (Jvm.Cond.code ({ cls := "MoonOverTheHill", name := "slant", desc := "(I)I" } : Jvm.MethodName) prog_1_method_22_code (2 : Nat) (Option.some Jvm.ClassFile.FieldType.int)) ∈ ALL := inT_4 23 rfl rfl
theorem w_813 : (Jvm.Cond.code ({ cls := "MoonOverTheHill", name := "behind", desc := "(I)I" } : Jvm.MethodName) prog_1_method_23_code (2 : Nat) (Option.some Jvm.ClassFile.FieldType.int)) ∈ ALL := inT_4 33 rfl rfl
theorem w_818 : (Jvm.Cond.code ({ cls := "MoonOverTheHill", name := "is", desc := "(II)I" } : Jvm.MethodName) prog_1_method_24_code (3 : Nat) (Option.some Jvm.ClassFile.FieldType.int)) ∈ ALL := inT_4 38 rfl rfl
theorem w_822 : (Jvm.Cond.code ({ cls := "MoonOverTheHill", name := "shines", desc := "(III)I" } : Jvm.MethodName) prog_1_method_25_code (4 : Nat) (Option.some Jvm.ClassFile.FieldType.int)) ∈ ALL := inT_4 42 rfl rfl
theorem w_830 : (Jvm.Cond.code ({ cls := "MoonOverTheHill", name := "light", desc := "(III)I" } : Jvm.MethodName) prog_1_method_26_code (4 : Nat) (Option.some Jvm.ClassFile.FieldType.int)) ∈ ALL := inT_4 50 rfl rfl
theorem w_838 : (Jvm.Cond.code ({ cls := "MoonOverTheHill", name := "next", desc := "(II)I" } : Jvm.MethodName) prog_1_method_27_code (3 : Nat) (Option.some Jvm.ClassFile.FieldType.int)) ∈ ALL := inT_4 58 rfl rfl
theorem w_850 : (Jvm.Cond.code ({ cls := "MoonOverTheHill", name := "many", desc := "(III)I" } : Jvm.MethodName) prog_1_method_28_code (4 : Nat) (Option.some Jvm.ClassFile.FieldType.int)) ∈ ALL := inT_4 70 rfl rfl
theorem w_864 : (Jvm.Cond.code ({ cls := "MoonOverTheHill", name := "orStuck", desc := "(I)I" } : Jvm.MethodName) prog_1_method_72_code (2 : Nat) (Option.some Jvm.ClassFile.FieldType.int)) ∈ ALL := inT_4 84 rfl rfl
theorem w_857 : (Jvm.Cond.code ({ cls := "MoonOverTheHill", name := "between", desc := "(IIIII)I" } : Jvm.MethodName) prog_1_method_29_code (6 : Nat) (Option.some Jvm.ClassFile.FieldType.int)) ∈ ALL := inT_4 77 rfl rfl
theorem w_868 : (Jvm.Cond.code ({ cls := "MoonOverTheHill", name := "alike", desc := "(I)I" } : Jvm.MethodName) prog_1_method_30_code (2 : Nat) (Option.some Jvm.ClassFile.FieldType.int)) ∈ ALL := inT_4 88 rfl rfl
theorem w_882 : (Jvm.Cond.code ({ cls := "MoonOverTheHill", name := "farthest", desc := "(II)I" } : Jvm.MethodName) prog_1_method_31_code (3 : Nat) (Option.some Jvm.ClassFile.FieldType.int)) ∈ ALL := inT_4 102 rfl rfl
theorem w_886 : (Jvm.Cond.code ({ cls := "MoonOverTheHill", name := "grows", desc := "(I)I" } : Jvm.MethodName) prog_1_method_32_code (2 : Nat) (Option.some Jvm.ClassFile.FieldType.int)) ∈ ALL := inT_4 106 rfl rfl
theorem w_890 : (Jvm.Cond.code ({ cls := "MoonOverTheHill", name := "lights", desc := "(IIII)I" } : Jvm.MethodName) prog_1_method_33_code (8 : Nat) (Option.some Jvm.ClassFile.FieldType.int)) ∈ ALL := inT_4 110 rfl rfl
theorem w_895 : (Jvm.Cond.code ({ cls := "MoonOverTheHill", name := "soonest", desc := "(II)I" } : Jvm.MethodName) prog_1_method_34_code (3 : Nat) (Option.some Jvm.ClassFile.FieldType.int)) ∈ ALL := inT_4 115 rfl rfl
theorem w_899 : (Jvm.Cond.code ({ cls := "MoonOverTheHill", name := "brightest", desc := "(II)I" } : Jvm.MethodName) prog_1_method_35_code (3 : Nat) (Option.some Jvm.ClassFile.FieldType.int)) ∈ ALL := inT_4 119 rfl rfl
theorem w_903 : (Jvm.Cond.code ({ cls := "MoonOverTheHill", name := "walks", desc := "(IIIIII)I" } : Jvm.MethodName) prog_1_method_36_code (7 : Nat) (Option.some Jvm.ClassFile.FieldType.int)) ∈ ALL := inT_4 123 rfl rfl
theorem w_907 : (Jvm.Cond.code ({ cls := "MoonOverTheHill", name := "overs", desc := "(IIII)I" } : Jvm.MethodName) prog_1_method_37_code (5 : Nat) (Option.some Jvm.ClassFile.FieldType.int)) ∈ ALL := inT_4 127 rfl rfl
theorem w_911 : (Jvm.Cond.code ({ cls := "MoonOverTheHill", name := "lates", desc := "(III)I" } : Jvm.MethodName) prog_1_method_38_code (10 : Nat) (Option.some Jvm.ClassFile.FieldType.int)) ∈ ALL := inT_4 131 rfl rfl
theorem w_917 : (Jvm.Cond.code ({ cls := "MoonOverTheHill", name := "date", desc := "(I)I" } : Jvm.MethodName) prog_1_method_39_code (3 : Nat) (Option.some Jvm.ClassFile.FieldType.int)) ∈ ALL := inT_4 137 rfl rfl
theorem w_921 : (Jvm.Cond.code ({ cls := "MoonOverTheHill", name := "months", desc := "(I)I" } : Jvm.MethodName) prog_1_method_40_code (2 : Nat) (Option.some Jvm.ClassFile.FieldType.int)) ∈ ALL := inT_4 141 rfl rfl
theorem w_932 : (Jvm.Cond.code ({ cls := "MoonOverTheHill", name := "eclipse", desc := "(I)I" } : Jvm.MethodName) prog_1_method_41_code (2 : Nat) (Option.some Jvm.ClassFile.FieldType.int)) ∈ ALL := inT_4 152 rfl rfl
theorem w_936 : (Jvm.Cond.code ({ cls := "MoonOverTheHill", name := "sees", desc := "(III)I" } : Jvm.MethodName) prog_1_method_42_code (4 : Nat) (Option.some Jvm.ClassFile.FieldType.int)) ∈ ALL := inT_4 156 rfl rfl
theorem w_949 : (Jvm.Cond.code ({ cls := "MoonOverTheHill", name := "picture", desc := "(III)I" } : Jvm.MethodName) prog_1_method_43_code (10 : Nat) (Option.some Jvm.ClassFile.FieldType.int)) ∈ ALL := inT_4 169 rfl rfl
theorem w_958 : (Jvm.Cond.code ({ cls := "MoonOverTheHill", name := "seen", desc := "(II)I" } : Jvm.MethodName) prog_1_method_44_code (3 : Nat) (Option.some Jvm.ClassFile.FieldType.int)) ∈ ALL := inT_4 178 rfl rfl
theorem w_966 : (Jvm.Cond.code ({ cls := "MoonOverTheHill", name := "toldByMost", desc := "(LMoonOverTheHill$Shelf;I)I" } : Jvm.MethodName) prog_1_method_75_code (9 : Nat) (Option.some Jvm.ClassFile.FieldType.int)) ∈ ALL := inT_4 186 rfl rfl
theorem w_962 : (Jvm.Cond.code ({ cls := "MoonOverTheHill", name := "court", desc := "(II)I" } : Jvm.MethodName) prog_1_method_45_code (5 : Nat) (Option.some Jvm.ClassFile.FieldType.int)) ∈ ALL := inT_4 182 rfl rfl
theorem w_979 : (Jvm.Cond.code ({ cls := "MoonOverTheHill", name := "eager", desc := "(II)I" } : Jvm.MethodName) prog_1_method_46_code (7 : Nat) (Option.some Jvm.ClassFile.FieldType.int)) ∈ ALL := inT_4 199 rfl rfl
theorem w_983 : (Jvm.Cond.code ({ cls := "MoonOverTheHill", name := "tide", desc := "(II)I" } : Jvm.MethodName) prog_1_method_47_code (3 : Nat) (Option.some Jvm.ClassFile.FieldType.int)) ∈ ALL := inT_4 203 rfl rfl
theorem w_995 : (Jvm.Cond.code ({ cls := "MoonOverTheHill", name := "high", desc := "(I)I" } : Jvm.MethodName) prog_1_method_48_code (2 : Nat) (Option.some Jvm.ClassFile.FieldType.int)) ∈ ALL := inT_4 215 rfl rfl
theorem w_1000 : (Jvm.Cond.code ({ cls := "MoonOverTheHill", name := "bone", desc := "(III)I" } : Jvm.MethodName) prog_1_method_49_code (6 : Nat) (Option.some Jvm.ClassFile.FieldType.int)) ∈ ALL := inT_4 220 rfl rfl
theorem w_1040 : (Jvm.Cond.code ({ cls := "MoonOverTheHill", name := "stonesThatHit", desc := "(I)I" } : Jvm.MethodName) prog_1_method_76_code (4 : Nat) (Option.some Jvm.ClassFile.FieldType.int)) ∈ ALL := inT_5 20 rfl rfl
theorem w_1029 : (Jvm.Cond.code ({ cls := "MoonOverTheHill", name := "hits", desc := "(III)I" } : Jvm.MethodName) prog_1_method_50_code (4 : Nat) (Option.some Jvm.ClassFile.FieldType.int)) ∈ ALL := inT_5 9 rfl rfl
theorem w_1049 : (Jvm.Cond.code ({ cls := "MoonOverTheHill", name := "chance", desc := "(III)I" } : Jvm.MethodName) prog_1_method_51_code (4 : Nat) (Option.some Jvm.ClassFile.FieldType.int)) ∈ ALL := inT_5 29 rfl rfl
theorem w_1058 : (Jvm.Cond.code ({ cls := "MoonOverTheHill", name := "meets", desc := "(III)I" } : Jvm.MethodName) prog_1_method_52_code (5 : Nat) (Option.some Jvm.ClassFile.FieldType.int)) ∈ ALL := inT_5 38 rfl rfl
theorem w_1062 : (Jvm.Cond.code ({ cls := "MoonOverTheHill", name := "place", desc := "(III)I" } : Jvm.MethodName) prog_1_method_53_code (4 : Nat) (Option.some Jvm.ClassFile.FieldType.int)) ∈ ALL := inT_5 42 rfl rfl
theorem w_1070 : (Jvm.Cond.code ({ cls := "MoonOverTheHill", name := "meant", desc := "(III)I" } : Jvm.MethodName) prog_1_method_54_code (6 : Nat) (Option.some Jvm.ClassFile.FieldType.int)) ∈ ALL := inT_5 50 rfl rfl
theorem w_1080 : (Jvm.Cond.code ({ cls := "MoonOverTheHill", name := "told", desc := "(II)I" } : Jvm.MethodName) prog_1_method_55_code (4 : Nat) (Option.some Jvm.ClassFile.FieldType.int)) ∈ ALL := inT_5 60 rfl rfl
theorem w_1089 : (Jvm.Cond.code ({ cls := "MoonOverTheHill", name := "letEveningPass", desc := "()Z" } : Jvm.MethodName) prog_1_method_77_code (2 : Nat) (Option.some Jvm.ClassFile.FieldType.boolean)) ∈ ALL := inT_5 69 rfl rfl
theorem w_1085 : (Jvm.Cond.code ({ cls := "MoonOverTheHill", name := "goes", desc := "()I" } : Jvm.MethodName) prog_1_method_56_code (1 : Nat) (Option.some Jvm.ClassFile.FieldType.int)) ∈ ALL := inT_5 65 rfl rfl
theorem w_1098 : (Jvm.Cond.code ({ cls := "MoonOverTheHill", name := "looks", desc := "(I)I" } : Jvm.MethodName) prog_1_method_57_code (3 : Nat) (Option.some Jvm.ClassFile.FieldType.int)) ∈ ALL := inT_5 78 rfl rfl
theorem w_1102 : (Jvm.Cond.code ({ cls := "MoonOverTheHill", name := "seed", desc := "(I)I" } : Jvm.MethodName) prog_1_method_58_code (3 : Nat) (Option.some Jvm.ClassFile.FieldType.int)) ∈ ALL := inT_5 82 rfl rfl
theorem w_1106 : (Jvm.Cond.code ({ cls := "MoonOverTheHill", name := "image", desc := "()I" } : Jvm.MethodName) prog_1_method_59_code (1 : Nat) (Option.some Jvm.ClassFile.FieldType.int)) ∈ ALL := inT_5 86 rfl rfl
theorem w_1110 : (Jvm.Cond.code ({ cls := "MoonOverTheHill", name := "back", desc := "()I" } : Jvm.MethodName) prog_1_method_60_code (1 : Nat) (Option.some Jvm.ClassFile.FieldType.int)) ∈ ALL := inT_5 90 rfl rfl
theorem w_1118 : (Jvm.Cond.code ({ cls := "MoonOverTheHill", name := "shelvesInUse", desc := "()I" } : Jvm.MethodName) prog_1_method_74_code (4 : Nat) (Option.some Jvm.ClassFile.FieldType.int)) ∈ ALL := inT_5 98 rfl rfl
theorem w_1122 : (Jvm.Cond.code ({ cls := "MoonOverTheHill", name := "refusalsAt", desc := "(I)I" } : Jvm.MethodName) prog_1_method_73_code (2 : Nat) (Option.some Jvm.ClassFile.FieldType.int)) ∈ ALL := inT_5 102 rfl rfl
theorem w_1114 : (Jvm.Cond.code ({ cls := "MoonOverTheHill", name := "status", desc := "(I)I" } : Jvm.MethodName) prog_1_method_61_code (2 : Nat) (Option.some Jvm.ClassFile.FieldType.int)) ∈ ALL := inT_5 94 rfl rfl
theorem wsin_X0 : ∀ w ∈ u_ws RX0 TX0 2, w ∈ ALL := (List.forall_mem_cons.mpr ⟨w_110, (List.forall_mem_cons.mpr ⟨w_112, (List.forall_mem_nil _)⟩)⟩)
theorem wsin_X1 : ∀ w ∈ u_ws RX1 TX1 4, w ∈ ALL := (List.forall_mem_cons.mpr ⟨w_120, (List.forall_mem_cons.mpr ⟨w_122, (List.forall_mem_cons.mpr ⟨w_124, (List.forall_mem_cons.mpr ⟨w_126, (List.forall_mem_nil _)⟩)⟩)⟩)⟩)
theorem wsin_X2 : ∀ w ∈ u_ws RX2 TX2 1, w ∈ ALL := (List.forall_mem_cons.mpr ⟨w_185, (List.forall_mem_nil _)⟩)
theorem wsin_X3 : ∀ w ∈ u_ws RX3 TX3 1, w ∈ ALL := (List.forall_mem_cons.mpr ⟨w_220, (List.forall_mem_nil _)⟩)
theorem wsin_X4 : ∀ w ∈ u_ws RX4 TX4 5, w ∈ ALL := (List.forall_mem_cons.mpr ⟨w_470, (List.forall_mem_cons.mpr ⟨w_472, (List.forall_mem_cons.mpr ⟨w_474, (List.forall_mem_cons.mpr ⟨w_476, (List.forall_mem_cons.mpr ⟨w_478, (List.forall_mem_nil _)⟩)⟩)⟩)⟩)⟩)
theorem wsin_X5 : ∀ w ∈ u_ws RX5 TX5 4, w ∈ ALL := (List.forall_mem_cons.mpr ⟨w_234, (List.forall_mem_cons.mpr ⟨w_236, (List.forall_mem_cons.mpr ⟨w_238, (List.forall_mem_cons.mpr ⟨w_240, (List.forall_mem_nil _)⟩)⟩)⟩)⟩)
theorem wsin_X6 : ∀ w ∈ u_ws RX6 TX6 10, w ∈ ALL := (List.forall_mem_cons.mpr ⟨w_157, (List.forall_mem_cons.mpr ⟨w_159, (List.forall_mem_cons.mpr ⟨w_161, (List.forall_mem_cons.mpr ⟨w_163, (List.forall_mem_cons.mpr ⟨w_165, (List.forall_mem_cons.mpr ⟨w_167, (List.forall_mem_cons.mpr ⟨w_169, (List.forall_mem_cons.mpr ⟨w_171, (List.forall_mem_cons.mpr ⟨w_173, (List.forall_mem_cons.mpr ⟨w_175, (List.forall_mem_nil _)⟩)⟩)⟩)⟩)⟩)⟩)⟩)⟩)⟩)⟩)
theorem wsin_X7 : ∀ w ∈ u_ws RX7 TX7 6, w ∈ ALL := (List.forall_mem_cons.mpr ⟨w_200, (List.forall_mem_cons.mpr ⟨w_202, (List.forall_mem_cons.mpr ⟨w_204, (List.forall_mem_cons.mpr ⟨w_206, (List.forall_mem_cons.mpr ⟨w_208, (List.forall_mem_cons.mpr ⟨w_210, (List.forall_mem_nil _)⟩)⟩)⟩)⟩)⟩)⟩)
theorem wsin_X8 : ∀ w ∈ u_ws RX8 TX8 9, w ∈ ALL := (List.forall_mem_cons.mpr ⟨w_253, (List.forall_mem_cons.mpr ⟨w_255, (List.forall_mem_cons.mpr ⟨w_257, (List.forall_mem_cons.mpr ⟨w_259, (List.forall_mem_cons.mpr ⟨w_261, (List.forall_mem_cons.mpr ⟨w_263, (List.forall_mem_cons.mpr ⟨w_265, (List.forall_mem_cons.mpr ⟨w_267, (List.forall_mem_cons.mpr ⟨w_269, (List.forall_mem_nil _)⟩)⟩)⟩)⟩)⟩)⟩)⟩)⟩)⟩)
theorem wsin_X9 : ∀ w ∈ u_ws RX9 TX9 29, w ∈ ALL := (List.forall_mem_cons.mpr ⟨w_1162, (List.forall_mem_cons.mpr ⟨w_1164, (List.forall_mem_cons.mpr ⟨w_1166, (List.forall_mem_cons.mpr ⟨w_1168, (List.forall_mem_cons.mpr ⟨w_1170, (List.forall_mem_cons.mpr ⟨w_1172, (List.forall_mem_cons.mpr ⟨w_1174, (List.forall_mem_cons.mpr ⟨w_1176, (List.forall_mem_cons.mpr ⟨w_1178, (List.forall_mem_cons.mpr ⟨w_1180, (List.forall_mem_cons.mpr ⟨w_1182, (List.forall_mem_cons.mpr ⟨w_1184, (List.forall_mem_cons.mpr ⟨w_1186, (List.forall_mem_cons.mpr ⟨w_1188, (List.forall_mem_cons.mpr ⟨w_1190, (List.forall_mem_cons.mpr ⟨w_1192, (List.forall_mem_cons.mpr ⟨w_1194, (List.forall_mem_cons.mpr ⟨w_1196, (List.forall_mem_cons.mpr ⟨w_1198, (List.forall_mem_cons.mpr ⟨w_1200, (List.forall_mem_cons.mpr ⟨w_1202, (List.forall_mem_cons.mpr ⟨w_1204, (List.forall_mem_cons.mpr ⟨w_1206, (List.forall_mem_cons.mpr ⟨w_1208, (List.forall_mem_cons.mpr ⟨w_1210, (List.forall_mem_cons.mpr ⟨w_1212, (List.forall_mem_cons.mpr ⟨w_1214, (List.forall_mem_cons.mpr ⟨w_1216, (List.forall_mem_cons.mpr ⟨w_1218, (List.forall_mem_nil _)⟩)⟩)⟩)⟩)⟩)⟩)⟩)⟩)⟩)⟩)⟩)⟩)⟩)⟩)⟩)⟩)⟩)⟩)⟩)⟩)⟩)⟩)⟩)⟩)⟩)⟩)⟩)⟩)⟩)
def m_X8_isIn : MI := (⟨RX8, "isIn", "(III)Z"⟩, prog_1_method_62_code, 3, some .boolean)
theorem gy_X8_isIn : goodY m_X8_isIn 3 := ⟨w_282, by decide +kernel, plainFor_of_name (by decide +kernel)⟩
def m_X8_isDay : MI := (⟨RX8, "isDay", "(I)Z"⟩, prog_1_method_63_code, 1, some .boolean)
theorem gy_X8_isDay : goodY m_X8_isDay 1 := ⟨w_373, by decide +kernel, plainFor_of_name (by decide +kernel)⟩
def m_X8_areDays : MI := (⟨RX8, "areDays", "(II)Z"⟩, prog_1_method_64_code, 2, some .boolean)
theorem gy_X8_areDays : goodY m_X8_areDays 2 := ⟨w_853, by decide +kernel, plainFor_of_name (by decide +kernel)⟩
def m_X8_areMinutes : MI := (⟨RX8, "areMinutes", "(II)Z"⟩, prog_1_method_65_code, 2, some .boolean)
theorem gy_X8_areMinutes : goodY m_X8_areMinutes 2 := ⟨w_825, by decide +kernel, plainFor_of_name (by decide +kernel)⟩
def m_X8_isKind : MI := (⟨RX8, "isKind", "(I)Z"⟩, prog_1_method_66_code, 1, some .boolean)
theorem gy_X8_isKind : goodY m_X8_isKind 1 := ⟨w_370, by decide +kernel, plainFor_of_name (by decide +kernel)⟩
def m_X8_isUnder : MI := (⟨RX8, "isUnder", "(II)Z"⟩, prog_1_method_67_code, 2, some .boolean)
theorem gy_X8_isUnder : goodY m_X8_isUnder 2 := ⟨w_388, by decide +kernel, plainFor_of_name (by decide +kernel)⟩
def m_J9_max_7cf53 : MI := (⟨RJ9, "max", "(II)I"⟩, prog_13_method_65_code, 2, some .int)
theorem gy_J9_max_7cf53 : goodY m_J9_max_7cf53 2 := ⟨w_107, by decide +kernel, jm_plain rfl (by decide +kernel)⟩
def m_X0_init : MI := (⟨RX0, "<init>", "(I)V"⟩, prog_2_method_1_code, 2, none)
theorem gy_X0_init : goodY m_X0_init 1 := ⟨w_103, by decide +kernel, plainFor_of_name (by decide +kernel)⟩
def m_X0_count : MI := (⟨RX0, "count", "()I"⟩, prog_2_method_2_code, 1, some .int)
theorem gy_X0_count : goodY m_X0_count 0 := ⟨w_513, by decide +kernel, plainFor_of_name (by decide +kernel)⟩
def m_X0_isFull : MI := (⟨RX0, "isFull", "()Z"⟩, prog_2_method_3_code, 1, some .boolean)
theorem gy_X0_isFull : goodY m_X0_isFull 0 := ⟨w_568, by decide +kernel, plainFor_of_name (by decide +kernel)⟩
def m_X0_add : MI := (⟨RX0, "add", "(I)V"⟩, prog_2_method_4_code, 2, none)
theorem gy_X0_add : goodY m_X0_add 1 := ⟨w_576, by decide +kernel, plainFor_of_name (by decide +kernel)⟩
def m_X0_at : MI := (⟨RX0, "at", "(I)I"⟩, prog_2_method_5_code, 2, some .int)
theorem gy_X0_at : goodY m_X0_at 1 := ⟨w_517, by decide +kernel, plainFor_of_name (by decide +kernel)⟩
def m_X0_contains : MI := (⟨RX0, "contains", "(I)Z"⟩, prog_2_method_6_code, 3, some .boolean)
theorem gy_X0_contains : goodY m_X0_contains 1 := ⟨w_526, by decide +kernel, plainFor_of_name (by decide +kernel)⟩
def m_X0_empty : MI := (⟨RX0, "empty", "()V"⟩, prog_2_method_7_code, 1, none)
theorem gy_X0_empty : goodY m_X0_empty 0 := ⟨w_601, by decide +kernel, plainFor_of_name (by decide +kernel)⟩
def m_X0_become : MI := (⟨RX0, "become", "(LMoonOverTheHill$Few;)V"⟩, prog_2_method_8_code, 3, none)
theorem gy_X0_become : goodY m_X0_become 1 := ⟨w_645, by decide +kernel, plainFor_of_name (by decide +kernel)⟩
def m_X1_init : MI := (⟨RX1, "<init>", "()V"⟩, prog_3_method_1_code, 1, none)
theorem gy_X1_init : goodY m_X1_init 0 := ⟨w_97, by decide +kernel, plainFor_of_name (by decide +kernel)⟩
def m_X1_count : MI := (⟨RX1, "count", "()I"⟩, prog_3_method_2_code, 1, some .int)
theorem gy_X1_count : goodY m_X1_count 0 := ⟨w_509, by decide +kernel, plainFor_of_name (by decide +kernel)⟩
def m_X1_isFull : MI := (⟨RX1, "isFull", "()Z"⟩, prog_3_method_3_code, 1, some .boolean)
theorem gy_X1_isFull : goodY m_X1_isFull 0 := ⟨w_564, by decide +kernel, plainFor_of_name (by decide +kernel)⟩
def m_X1_add : MI := (⟨RX1, "add", "(III)V"⟩, prog_3_method_4_code, 5, none)
theorem gy_X1_add : goodY m_X1_add 3 := ⟨w_572, by decide +kernel, plainFor_of_name (by decide +kernel)⟩
def m_X1_partOf : MI := (⟨RX1, "partOf", "(II)I"⟩, prog_3_method_5_code, 3, some .int)
theorem gy_X1_partOf : goodY m_X1_partOf 2 := ⟨w_766, by decide +kernel, plainFor_of_name (by decide +kernel)⟩
def m_X1_lineAt : MI := (⟨RX1, "lineAt", "(I)I"⟩, prog_3_method_6_code, 2, some .int)
theorem gy_X1_lineAt : goodY m_X1_lineAt 1 := ⟨w_436, by decide +kernel, plainFor_of_name (by decide +kernel)⟩
def m_X1_overFrom : MI := (⟨RX1, "overFrom", "(I)I"⟩, prog_3_method_7_code, 5, some .int)
theorem gy_X1_overFrom : goodY m_X1_overFrom 1 := ⟨w_432, by decide +kernel, plainFor_of_name (by decide +kernel)⟩
def m_X1_makerOf : MI := (⟨RX1, "makerOf", "(I)I"⟩, prog_3_method_8_code, 3, some .int)
theorem gy_X1_makerOf : goodY m_X1_makerOf 1 := ⟨w_505, by decide +kernel, plainFor_of_name (by decide +kernel)⟩
def m_J7_fill_53178 : MI := (⟨RJ7, "fill", "([II)V"⟩, prog_18_method_103_code, 4, none)
theorem gy_J7_fill_53178 : goodY m_J7_fill_53178 2 := ⟨w_604, by decide +kernel, plainFor_of_name (by decide +kernel)⟩
def m_X1_empty : MI := (⟨RX1, "empty", "()V"⟩, prog_3_method_9_code, 1, none)
theorem gy_X1_empty : goodY m_X1_empty 0 := ⟨w_597, by decide +kernel, plainFor_of_name (by decide +kernel)⟩
def m_X1_become : MI := (⟨RX1, "become", "(LMoonOverTheHill$Hill;)V"⟩, prog_3_method_10_code, 2, none)
theorem gy_X1_become : goodY m_X1_become 1 := ⟨w_641, by decide +kernel, plainFor_of_name (by decide +kernel)⟩
def m_X4_init : MI := (⟨RX4, "<init>", "(IIIILMoonOverTheHill$Shelf;)V"⟩, prog_6_method_1_code, 6, none)
theorem gy_X4_init : goodY m_X4_init 5 := ⟨w_458, by decide +kernel, plainFor_of_name (by decide +kernel)⟩
def m_X4_init_ : MI := (⟨RX4, "<init>", "(I)V"⟩, prog_6_method_2_code, 2, none)
theorem gy_X4_init_ : goodY m_X4_init_ 1 := ⟨w_455, by decide +kernel, plainFor_of_name (by decide +kernel)⟩
def m_X4_init__ : MI := (⟨RX4, "<init>", "(IIII)V"⟩, prog_6_method_3_code, 5, none)
theorem gy_X4_init__ : goodY m_X4_init__ 4 := ⟨w_860, by decide +kernel, plainFor_of_name (by decide +kernel)⟩
def m_X4_init___ : MI := (⟨RX4, "<init>", "(LMoonOverTheHill$Shelf;)V"⟩, prog_6_method_4_code, 2, none)
theorem gy_X4_init___ : goodY m_X4_init___ 1 := ⟨w_954, by decide +kernel, plainFor_of_name (by decide +kernel)⟩
def m_X5_init : MI := (⟨RX5, "<init>", "()V"⟩, prog_7_method_1_code, 1, none)
theorem gy_X5_init : goodY m_X5_init 0 := ⟨w_228, by decide +kernel, plainFor_of_name (by decide +kernel)⟩
def m_X5_content : MI := (⟨RX5, "content", "()I"⟩, prog_7_method_2_code, 1, some .int)
theorem gy_X5_content : goodY m_X5_content 0 := ⟨w_363, by decide +kernel, plainFor_of_name (by decide +kernel)⟩
def m_X5_isBare : MI := (⟨RX5, "isBare", "()Z"⟩, prog_7_method_3_code, 1, some .boolean)
theorem gy_X5_isBare : goodY m_X5_isBare 0 := ⟨w_312, by decide +kernel, plainFor_of_name (by decide +kernel)⟩
def m_X5_isEvening : MI := (⟨RX5, "isEvening", "()Z"⟩, prog_7_method_4_code, 1, some .boolean)
theorem gy_X5_isEvening : goodY m_X5_isEvening 0 := ⟨w_308, by decide +kernel, plainFor_of_name (by decide +kernel)⟩
def m_X5_isRow : MI := (⟨RX5, "isRow", "()Z"⟩, prog_7_method_5_code, 1, some .boolean)
theorem gy_X5_isRow : goodY m_X5_isRow 0 := ⟨w_337, by decide +kernel, plainFor_of_name (by decide +kernel)⟩
def m_X5_isRowOfOtherSort : MI := (⟨RX5, "isRowOfOtherSort", "(LMoonOverTheHill$Shelf;)Z"⟩, prog_7_method_6_code, 2, some .boolean)
theorem gy_X5_isRowOfOtherSort : goodY m_X5_isRowOfOtherSort 1 := ⟨w_333, by decide +kernel, plainFor_of_name (by decide +kernel)⟩
def m_X5_kind : MI := (⟨RX5, "kind", "()I"⟩, prog_7_method_7_code, 1, some .int)
theorem gy_X5_kind : goodY m_X5_kind 0 := ⟨w_385, by decide +kernel, plainFor_of_name (by decide +kernel)⟩
def m_X5_day : MI := (⟨RX5, "day", "()I"⟩, prog_7_method_8_code, 1, some .int)
theorem gy_X5_day : goodY m_X5_day 0 := ⟨w_392, by decide +kernel, plainFor_of_name (by decide +kernel)⟩
def m_X5_refusalAsRow : MI := (⟨RX5, "refusalAsRow", "(I)I"⟩, prog_7_method_9_code, 2, some .int)
theorem gy_X5_refusalAsRow : goodY m_X5_refusalAsRow 1 := ⟨w_304, by decide +kernel, plainFor_of_name (by decide +kernel)⟩
def m_J9_min_7cf53 : MI := (⟨RJ9, "min", "(II)I"⟩, prog_13_method_69_code, 2, some .int)
theorem gy_J9_min_7cf53 : goodY m_J9_min_7cf53 2 := ⟨w_293, by decide +kernel, jm_plain rfl (by decide +kernel)⟩
def m_J7_fill_d0a16 : MI := (⟨RJ7, "fill", "([JJ)V"⟩, prog_18_method_101_code, 5, none)
theorem gy_J7_fill_d0a16 : goodY m_J7_fill_d0a16 2 := ⟨w_296, by decide +kernel, plainFor_of_name (by decide +kernel)⟩
def m_X5_putRow : MI := (⟨RX5, "putRow", "(II)V"⟩, prog_7_method_10_code, 3, none)
theorem gy_X5_putRow : goodY m_X5_putRow 2 := ⟨w_290, by decide +kernel, plainFor_of_name (by decide +kernel)⟩
def m_X5_putEvening : MI := (⟨RX5, "putEvening", "(II)V"⟩, prog_7_method_11_code, 3, none)
theorem gy_X5_putEvening : goodY m_X5_putEvening 2 := ⟨w_377, by decide +kernel, plainFor_of_name (by decide +kernel)⟩
def m_X5_hasPlaces : MI := (⟨RX5, "hasPlaces", "(II)Z"⟩, prog_7_method_12_code, 3, some .boolean)
theorem gy_X5_hasPlaces : goodY m_X5_hasPlaces 2 := ⟨w_316, by decide +kernel, plainFor_of_name (by decide +kernel)⟩
def m_X5_at : MI := (⟨RX5, "at", "(I)J"⟩, prog_7_method_13_code, 2, some .long)
theorem gy_X5_at : goodY m_X5_at 1 := ⟨w_355, by decide +kernel, plainFor_of_name (by decide +kernel)⟩
def m_X5_cut : MI := (⟨RX5, "cut", "(J)J"⟩, prog_7_method_15_code, 3, some .long)
theorem gy_X5_cut : goodY m_X5_cut 1 := ⟨w_324, by decide +kernel, plainFor_of_name (by decide +kernel)⟩
def m_X5_put : MI := (⟨RX5, "put", "(IJ)V"⟩, prog_7_method_14_code, 4, none)
theorem gy_X5_put : goodY m_X5_put 2 := ⟨w_320, by decide +kernel, plainFor_of_name (by decide +kernel)⟩
def m_X5_take : MI := (⟨RX5, "take", "(LMoonOverTheHill$Shelf;III)V"⟩, prog_7_method_16_code, 5, none)
theorem gy_X5_take : goodY m_X5_take 4 := ⟨w_342, by decide +kernel, plainFor_of_name (by decide +kernel)⟩
def m_X5_timesOf : MI := (⟨RX5, "timesOf", "(JI)I"⟩, prog_7_method_17_code, 6, some .int)
theorem gy_X5_timesOf : goodY m_X5_timesOf 2 := ⟨w_975, by decide +kernel, plainFor_of_name (by decide +kernel)⟩
def m_X5_isSpan : MI := (⟨RX5, "isSpan", "(II)Z"⟩, prog_7_method_18_code, 3, some .boolean)
theorem gy_X5_isSpan : goodY m_X5_isSpan 2 := ⟨w_543, by decide +kernel, plainFor_of_name (by decide +kernel)⟩
def m_X5_isMonthCount : MI := (⟨RX5, "isMonthCount", "(I)Z"⟩, prog_7_method_19_code, 2, some .boolean)
theorem gy_X5_isMonthCount : goodY m_X5_isMonthCount 1 := ⟨w_1008, by decide +kernel, plainFor_of_name (by decide +kernel)⟩
def m_X5_monthCounts : MI := (⟨RX5, "monthCounts", "(I)I"⟩, prog_7_method_20_code, 4, some .int)
theorem gy_X5_monthCounts : goodY m_X5_monthCounts 1 := ⟨w_1004, by decide +kernel, plainFor_of_name (by decide +kernel)⟩
def m_X5_longestRun : MI := (⟨RX5, "longestRun", "(I)I"⟩, prog_7_method_21_code, 5, some .int)
theorem gy_X5_longestRun : goodY m_X5_longestRun 1 := ⟨w_1014, by decide +kernel, plainFor_of_name (by decide +kernel)⟩
def m_X5_isThreeMonths : MI := (⟨RX5, "isThreeMonths", "(JJJ)Z"⟩, prog_7_method_23_code, 10, some .boolean)
theorem gy_X5_isThreeMonths : goodY m_X5_isThreeMonths 3 := ⟨w_1022, by decide +kernel, plainFor_of_name (by decide +kernel)⟩
def m_X5_threesOfMonths : MI := (⟨RX5, "threesOfMonths", "(I)I"⟩, prog_7_method_22_code, 4, some .int)
theorem gy_X5_threesOfMonths : goodY m_X5_threesOfMonths 1 := ⟨w_1019, by decide +kernel, plainFor_of_name (by decide +kernel)⟩
def m_X6_init : MI := (⟨RX6, "<init>", "()V"⟩, prog_8_method_1_code, 1, none)
theorem gy_X6_init : goodY m_X6_init 0 := ⟨w_91, by decide +kernel, plainFor_of_name (by decide +kernel)⟩
def m_X6_askedOf : MI := (⟨RX6, "askedOf", "(I)I"⟩, prog_8_method_2_code, 2, some .int)
theorem gy_X6_askedOf : goodY m_X6_askedOf 1 := ⟨w_552, by decide +kernel, plainFor_of_name (by decide +kernel)⟩
def m_X6_setAsked : MI := (⟨RX6, "setAsked", "(II)V"⟩, prog_8_method_3_code, 3, none)
theorem gy_X6_setAsked : goodY m_X6_setAsked 2 := ⟨w_556, by decide +kernel, plainFor_of_name (by decide +kernel)⟩
def m_X6_draw : MI := (⟨RX6, "draw", "(I)I"⟩, prog_8_method_4_code, 2, some .int)
theorem gy_X6_draw : goodY m_X6_draw 1 := ⟨w_1093, by decide +kernel, plainFor_of_name (by decide +kernel)⟩
def m_X6_become : MI := (⟨RX6, "become", "(LMoonOverTheHill$State;)V"⟩, prog_8_method_5_code, 2, none)
theorem gy_X6_become : goodY m_X6_become 1 := ⟨w_637, by decide +kernel, plainFor_of_name (by decide +kernel)⟩
def m_J6_bitCount_0f7a4 : MI := (⟨RJ6, "bitCount", "(I)I"⟩, prog_12_method_49_code, 1, some .int)
theorem gy_J6_bitCount_0f7a4 : goodY m_J6_bitCount_0f7a4 1 := ⟨w_1073, by decide +kernel, plainFor_of_name (by decide +kernel)⟩
def m_J9_floorDiv_7cf53 : MI := (⟨RJ9, "floorDiv", "(II)I"⟩, prog_13_method_47_code, 3, some .int)
theorem gy_J9_floorDiv_7cf53 : goodY m_J9_floorDiv_7cf53 2 := ⟨w_928, by decide +kernel, jm_plain rfl (by decide +kernel)⟩
def m_J9_floorMod_7cf53 : MI := (⟨RJ9, "floorMod", "(II)I"⟩, prog_13_method_50_code, 3, some .int)
theorem gy_J9_floorMod_7cf53 : goodY m_J9_floorMod_7cf53 2 := ⟨w_425, by decide +kernel, jm_plain rfl (by decide +kernel)⟩
def m_J9_abs_0f7a4 : MI := (⟨RJ9, "abs", "(I)I"⟩, prog_13_method_59_code, 1, some .int)
theorem gy_J9_abs_0f7a4 : goodY m_J9_abs_0f7a4 1 := ⟨w_403, by decide +kernel, jm_plain rfl (by decide +kernel)⟩
def m_X5_take_same : MI := (⟨RX5, "take", "(LMoonOverTheHill$Shelf;III)V"⟩, prog_7_method_16_code, 5, none)
theorem gy_X5_take_same : goodY m_X5_take_same 4 := ⟨w_342, by decide +kernel, plainFor_of_name (by decide +kernel)⟩
def m_X2_init : MI := (⟨RX2, "<init>", "(LMoonOverTheHill$State;)V"⟩, prog_4_method_1_code, 2, none)
theorem gy_X2_init : goodY m_X2_init 1 := ⟨w_182, by decide +kernel, plainFor_of_name (by decide +kernel)⟩
def m_X2_lastOf : MI := (⟨RX2, "lastOf", "(II)I"⟩, prog_4_method_2_code, 2, some .int)
theorem gy_X2_lastOf : goodY m_X2_lastOf 2 := ⟨w_845, by decide +kernel, plainFor_of_name (by decide +kernel)⟩
def m_X2_ageOf : MI := (⟨RX2, "ageOf", "(I)I"⟩, prog_4_method_3_code, 2, some .int)
theorem gy_X2_ageOf : goodY m_X2_ageOf 1 := ⟨w_400, by decide +kernel, plainFor_of_name (by decide +kernel)⟩
def m_X2_litOf : MI := (⟨RX2, "litOf", "(I)I"⟩, prog_4_method_4_code, 3, some .int)
theorem gy_X2_litOf : goodY m_X2_litOf 1 := ⟨w_539, by decide +kernel, plainFor_of_name (by decide +kernel)⟩
def m_X2_outOf : MI := (⟨RX2, "outOf", "(I)I"⟩, prog_4_method_5_code, 3, some .int)
theorem gy_X2_outOf : goodY m_X2_outOf 1 := ⟨w_419, by decide +kernel, plainFor_of_name (by decide +kernel)⟩
def m_X2_slantOf : MI := (⟨RX2, "slantOf", "(I)I"⟩, prog_4_method_6_code, 4, some .int)
theorem gy_X2_slantOf : goodY m_X2_slantOf 1 := ⟨w_415, by decide +kernel, plainFor_of_name (by decide +kernel)⟩
def m_X2_riseBy : MI := (⟨RX2, "riseBy", "(II)I"⟩, prog_4_method_7_code, 2, some .int)
theorem gy_X2_riseBy : goodY m_X2_riseBy 2 := ⟨w_422, by decide +kernel, plainFor_of_name (by decide +kernel)⟩
def m_X2_wayBy : MI := (⟨RX2, "wayBy", "(I)I"⟩, prog_4_method_8_code, 1, some .int)
theorem gy_X2_wayBy : goodY m_X2_wayBy 1 := ⟨w_428, by decide +kernel, plainFor_of_name (by decide +kernel)⟩
def m_X2_riseOf : MI := (⟨RX2, "riseOf", "(I)I"⟩, prog_4_method_9_code, 2, some .int)
theorem gy_X2_riseOf : goodY m_X2_riseOf 1 := ⟨w_791, by decide +kernel, plainFor_of_name (by decide +kernel)⟩
def m_X2_wayOf : MI := (⟨RX2, "wayOf", "(I)I"⟩, prog_4_method_10_code, 2, some .int)
theorem gy_X2_wayOf : goodY m_X2_wayOf 1 := ⟨w_497, by decide +kernel, plainFor_of_name (by decide +kernel)⟩
def m_X2_overOf : MI := (⟨RX2, "overOf", "(I)I"⟩, prog_4_method_11_code, 2, some .int)
theorem gy_X2_overOf : goodY m_X2_overOf 1 := ⟨w_796, by decide +kernel, plainFor_of_name (by decide +kernel)⟩
def m_X2_upOf : MI := (⟨RX2, "upOf", "(I)I"⟩, prog_4_method_12_code, 3, some .int)
theorem gy_X2_upOf : goodY m_X2_upOf 1 := ⟨w_411, by decide +kernel, plainFor_of_name (by decide +kernel)⟩
def m_X2_laterOf : MI := (⟨RX2, "laterOf", "(I)I"⟩, prog_4_method_13_code, 2, some .int)
theorem gy_X2_laterOf : goodY m_X2_laterOf 1 := ⟨w_407, by decide +kernel, plainFor_of_name (by decide +kernel)⟩
def m_X2_degreeOf : MI := (⟨RX2, "degreeOf", "(I)I"⟩, prog_4_method_14_code, 3, some .int)
theorem gy_X2_degreeOf : goodY m_X2_degreeOf 1 := ⟨w_493, by decide +kernel, plainFor_of_name (by decide +kernel)⟩
def m_X2_behindOf : MI := (⟨RX2, "behindOf", "(I)I"⟩, prog_4_method_15_code, 4, some .int)
theorem gy_X2_behindOf : goodY m_X2_behindOf 1 := ⟨w_501, by decide +kernel, plainFor_of_name (by decide +kernel)⟩
def m_X2_shinesFrom : MI := (⟨RX2, "shinesFrom", "(III)I"⟩, prog_4_method_16_code, 6, some .int)
theorem gy_X2_shinesFrom : goodY m_X2_shinesFrom 3 := ⟨w_444, by decide +kernel, plainFor_of_name (by decide +kernel)⟩
def m_X2_shinesOf : MI := (⟨RX2, "shinesOf", "(III)I"⟩, prog_4_method_17_code, 4, some .int)
theorem gy_X2_shinesOf : goodY m_X2_shinesOf 3 := ⟨w_441, by decide +kernel, plainFor_of_name (by decide +kernel)⟩
def m_X2_lightOf : MI := (⟨RX2, "lightOf", "(III)I"⟩, prog_4_method_18_code, 4, some .int)
theorem gy_X2_lightOf : goodY m_X2_lightOf 3 := ⟨w_834, by decide +kernel, plainFor_of_name (by decide +kernel)⟩
def m_X2_isFull : MI := (⟨RX2, "isFull", "(I)Z"⟩, prog_4_method_19_code, 2, some .boolean)
theorem gy_X2_isFull : goodY m_X2_isFull 1 := ⟨w_488, by decide +kernel, plainFor_of_name (by decide +kernel)⟩
def m_X2_saysOf : MI := (⟨RX2, "saysOf", "(II)I"⟩, prog_4_method_20_code, 3, some .int)
theorem gy_X2_saysOf : goodY m_X2_saysOf 2 := ⟨w_396, by decide +kernel, plainFor_of_name (by decide +kernel)⟩
def m_X2_isAtNode : MI := (⟨RX2, "isAtNode", "(I)Z"⟩, prog_4_method_26_code, 3, some .boolean)
theorem gy_X2_isAtNode : goodY m_X2_isAtNode 1 := ⟨w_522, by decide +kernel, plainFor_of_name (by decide +kernel)⟩
def m_X2_minutesUp : MI := (⟨RX2, "minutesUp", "(II)I"⟩, prog_4_method_27_code, 3, some .int)
theorem gy_X2_minutesUp : goodY m_X2_minutesUp 2 := ⟨w_535, by decide +kernel, plainFor_of_name (by decide +kernel)⟩
def m_X2_isAsPictured : MI := (⟨RX2, "isAsPictured", "(LMoonOverTheHill$Shelf;I)Z"⟩, prog_4_method_30_code, 6, some .boolean)
theorem gy_X2_isAsPictured : goodY m_X2_isAsPictured 2 := ⟨w_531, by decide +kernel, plainFor_of_name (by decide +kernel)⟩
def m_X2_fits : MI := (⟨RX2, "fits", "(LMoonOverTheHill$Question;I)Z"⟩, prog_4_method_21_code, 3, some .boolean)
theorem gy_X2_fits : goodY m_X2_fits 2 := ⟨w_484, by decide +kernel, plainFor_of_name (by decide +kernel)⟩
def m_X2_pick : MI := (⟨RX2, "pick", "(IIILMoonOverTheHill$Question;)I"⟩, prog_4_method_22_code, 8, some .int)
theorem gy_X2_pick : goodY m_X2_pick 4 := ⟨w_842, by decide +kernel, plainFor_of_name (by decide +kernel)⟩
def m_X2_meritOf : MI := (⟨RX2, "meritOf", "(II)I"⟩, prog_4_method_24_code, 3, some .int)
theorem gy_X2_meritOf : goodY m_X2_meritOf 2 := ⟨w_876, by decide +kernel, plainFor_of_name (by decide +kernel)⟩
def m_X2_bestOf : MI := (⟨RX2, "bestOf", "(III)I"⟩, prog_4_method_23_code, 9, some .int)
theorem gy_X2_bestOf : goodY m_X2_bestOf 3 := ⟨w_872, by decide +kernel, plainFor_of_name (by decide +kernel)⟩
def m_X2_newDaysTill : MI := (⟨RX2, "newDaysTill", "(I)I"⟩, prog_4_method_25_code, 3, some .int)
theorem gy_X2_newDaysTill : goodY m_X2_newDaysTill 1 := ⟨w_925, by decide +kernel, plainFor_of_name (by decide +kernel)⟩
def m_X2_heightAt : MI := (⟨RX2, "heightAt", "(II)I"⟩, prog_4_method_28_code, 4, some .int)
theorem gy_X2_heightAt : goodY m_X2_heightAt 2 := ⟨w_940, by decide +kernel, plainFor_of_name (by decide +kernel)⟩
def m_X2_degreeAt : MI := (⟨RX2, "degreeAt", "(II)I"⟩, prog_4_method_29_code, 5, some .int)
theorem gy_X2_degreeAt : goodY m_X2_degreeAt 2 := ⟨w_945, by decide +kernel, plainFor_of_name (by decide +kernel)⟩
def m_X2_couldBegin : MI := (⟨RX2, "couldBegin", "(J)Z"⟩, prog_4_method_31_code, 3, some .boolean)
theorem gy_X2_couldBegin : goodY m_X2_couldBegin 1 := ⟨w_970, by decide +kernel, plainFor_of_name (by decide +kernel)⟩
def m_X2_highWaterOf : MI := (⟨RX2, "highWaterOf", "(I)I"⟩, prog_4_method_32_code, 2, some .int)
theorem gy_X2_highWaterOf : goodY m_X2_highWaterOf 1 := ⟨w_991, by decide +kernel, plainFor_of_name (by decide +kernel)⟩
def m_X2_tideAt : MI := (⟨RX2, "tideAt", "(II)I"⟩, prog_4_method_33_code, 5, some .int)
theorem gy_X2_tideAt : goodY m_X2_tideAt 2 := ⟨w_987, by decide +kernel, plainFor_of_name (by decide +kernel)⟩
def m_X3_init : MI := (⟨RX3, "<init>", "()V"⟩, prog_5_method_1_code, 1, none)
theorem gy_X3_init : goodY m_X3_init 0 := ⟨w_217, by decide +kernel, plainFor_of_name (by decide +kernel)⟩
def m_X3_gather : MI := (⟨RX3, "gather", "(LMoonOverTheHill$Moon;II)V"⟩, prog_5_method_2_code, 7, none)
theorem gy_X3_gather : goodY m_X3_gather 3 := ⟨w_1033, by decide +kernel, plainFor_of_name (by decide +kernel)⟩
def m_X3_near : MI := (⟨RX3, "near", "(II)I"⟩, prog_5_method_3_code, 5, some .int)
theorem gy_X3_near : goodY m_X3_near 2 := ⟨w_1044, by decide +kernel, plainFor_of_name (by decide +kernel)⟩
def m_X3_degreesThatHit : MI := (⟨RX3, "degreesThatHit", "(I)I"⟩, prog_5_method_4_code, 4, some .int)
theorem gy_X3_degreesThatHit : goodY m_X3_degreesThatHit 1 := ⟨w_1053, by decide +kernel, plainFor_of_name (by decide +kernel)⟩
def m_X3_fullest : MI := (⟨RX3, "fullest", "(I)I"⟩, prog_5_method_5_code, 6, some .int)
theorem gy_X3_fullest : goodY m_X3_fullest 1 := ⟨w_1066, by decide +kernel, plainFor_of_name (by decide +kernel)⟩
def m_X9_init : MI := (⟨RX9, "<init>", "()V"⟩, prog_11_method_1_code, 1, none)
theorem gy_X9_init : goodY m_X9_init 0 := ⟨w_1127, by decide +kernel, plainFor_of_name (by decide +kernel)⟩
def m_X9_refuse : MI := (⟨RX9, "refuse", "(I)I"⟩, prog_11_method_2_code, 2, some .int)
theorem gy_X9_refuse : goodY m_X9_refuse 1 := ⟨w_1234, by decide +kernel, plainFor_of_name (by decide +kernel)⟩
def m_X9_in : MI := (⟨RX9, "in", "(JJJ)Z"⟩, prog_11_method_3_code, 6, some .boolean)
theorem gy_X9_in : goodY m_X9_in 3 := ⟨w_1228, by decide +kernel, plainFor_of_name (by decide +kernel)⟩
def m_X9_isDay : MI := (⟨RX9, "isDay", "(J)Z"⟩, prog_11_method_4_code, 2, some .boolean)
theorem gy_X9_isDay : goodY m_X9_isDay 1 := ⟨w_1265, by decide +kernel, plainFor_of_name (by decide +kernel)⟩
def m_X9_areDays : MI := (⟨RX9, "areDays", "(II)Z"⟩, prog_11_method_5_code, 2, some .boolean)
theorem gy_X9_areDays : goodY m_X9_areDays 2 := ⟨w_1508, by decide +kernel, plainFor_of_name (by decide +kernel)⟩
def m_X9_lastOf : MI := (⟨RX9, "lastOf", "(II)I"⟩, prog_11_method_6_code, 2, some .int)
theorem gy_X9_lastOf : goodY m_X9_lastOf 2 := ⟨w_1501, by decide +kernel, plainFor_of_name (by decide +kernel)⟩
def m_X9_row : MI := (⟨RX9, "row", "(III)I"⟩, prog_11_method_7_code, 5, some .int)
theorem gy_X9_row : goodY m_X9_row 3 := ⟨w_1224, by decide +kernel, plainFor_of_name (by decide +kernel)⟩
def m_X9_fit : MI := (⟨RX9, "fit", "(IJ)J"⟩, prog_11_method_8_code, 3, some .long)
theorem gy_X9_fit : goodY m_X9_fit 2 := ⟨w_1245, by decide +kernel, plainFor_of_name (by decide +kernel)⟩
def m_X9_noRow : MI := (⟨RX9, "noRow", "(I)I"⟩, prog_11_method_9_code, 2, some .int)
theorem gy_X9_noRow : goodY m_X9_noRow 1 := ⟨w_1242, by decide +kernel, plainFor_of_name (by decide +kernel)⟩
def m_X9_set : MI := (⟨RX9, "set", "(IIJ)I"⟩, prog_11_method_10_code, 6, some .int)
theorem gy_X9_set : goodY m_X9_set 3 := ⟨w_1238, by decide +kernel, plainFor_of_name (by decide +kernel)⟩
def m_X9_copy : MI := (⟨RX9, "copy", "(IIIII)I"⟩, prog_11_method_11_code, 7, some .int)
theorem gy_X9_copy : goodY m_X9_copy 5 := ⟨w_1249, by decide +kernel, plainFor_of_name (by decide +kernel)⟩
def m_X9_element : MI := (⟨RX9, "element", "(II)J"⟩, prog_11_method_12_code, 3, some .long)
theorem gy_X9_element : goodY m_X9_element 2 := ⟨w_1253, by decide +kernel, plainFor_of_name (by decide +kernel)⟩
def m_X9_holds : MI := (⟨RX9, "holds", "(I)I"⟩, prog_11_method_13_code, 2, some .int)
theorem gy_X9_holds : goodY m_X9_holds 1 := ⟨w_1257, by decide +kernel, plainFor_of_name (by decide +kernel)⟩
def m_X9_evening : MI := (⟨RX9, "evening", "(III)I"⟩, prog_11_method_14_code, 4, some .int)
theorem gy_X9_evening : goodY m_X9_evening 3 := ⟨w_1261, by decide +kernel, plainFor_of_name (by decide +kernel)⟩
def m_X9_isUnder : MI := (⟨RX9, "isUnder", "(II)Z"⟩, prog_11_method_15_code, 2, some .boolean)
theorem gy_X9_isUnder : goodY m_X9_isUnder 2 := ⟨w_1273, by decide +kernel, plainFor_of_name (by decide +kernel)⟩
def m_X9_age : MI := (⟨RX9, "age", "(I)I"⟩, prog_11_method_42_code, 2, some .int)
theorem gy_X9_age : goodY m_X9_age 1 := ⟨w_1277, by decide +kernel, plainFor_of_name (by decide +kernel)⟩
def m_X9_out : MI := (⟨RX9, "out", "(I)I"⟩, prog_11_method_44_code, 3, some .int)
theorem gy_X9_out : goodY m_X9_out 1 := ⟨w_1297, by decide +kernel, plainFor_of_name (by decide +kernel)⟩
def m_X9_slantOf : MI := (⟨RX9, "slantOf", "(I)I"⟩, prog_11_method_45_code, 4, some .int)
theorem gy_X9_slantOf : goodY m_X9_slantOf 1 := ⟨w_1293, by decide +kernel, plainFor_of_name (by decide +kernel)⟩
def m_X9_mod : MI := (⟨RX9, "mod", "(II)I"⟩, prog_11_method_41_code, 3, some .int)
theorem gy_X9_mod : goodY m_X9_mod 2 := ⟨w_1300, by decide +kernel, plainFor_of_name (by decide +kernel)⟩
def m_X9_rise : MI := (⟨RX9, "rise", "(I)I"⟩, prog_11_method_46_code, 2, some .int)
theorem gy_X9_rise : goodY m_X9_rise 1 := ⟨w_1289, by decide +kernel, plainFor_of_name (by decide +kernel)⟩
def m_X9_way : MI := (⟨RX9, "way", "(I)I"⟩, prog_11_method_47_code, 2, some .int)
theorem gy_X9_way : goodY m_X9_way 1 := ⟨w_1308, by decide +kernel, plainFor_of_name (by decide +kernel)⟩
def m_X9_lineAt : MI := (⟨RX9, "lineAt", "(I)I"⟩, prog_11_method_48_code, 5, some .int)
theorem gy_X9_lineAt : goodY m_X9_lineAt 1 := ⟨w_1312, by decide +kernel, plainFor_of_name (by decide +kernel)⟩
def m_X9_over : MI := (⟨RX9, "over", "(I)I"⟩, prog_11_method_50_code, 4, some .int)
theorem gy_X9_over : goodY m_X9_over 1 := ⟨w_1304, by decide +kernel, plainFor_of_name (by decide +kernel)⟩
def m_X9_up : MI := (⟨RX9, "up", "(I)I"⟩, prog_11_method_51_code, 2, some .int)
theorem gy_X9_up : goodY m_X9_up 1 := ⟨w_1285, by decide +kernel, plainFor_of_name (by decide +kernel)⟩
def m_X9_later : MI := (⟨RX9, "later", "(I)I"⟩, prog_11_method_53_code, 2, some .int)
theorem gy_X9_later : goodY m_X9_later 1 := ⟨w_1281, by decide +kernel, plainFor_of_name (by decide +kernel)⟩
def m_X9_shinesIn : MI := (⟨RX9, "shinesIn", "(III)I"⟩, prog_11_method_60_code, 7, some .int)
theorem gy_X9_shinesIn : goodY m_X9_shinesIn 3 := ⟨w_1316, by decide +kernel, plainFor_of_name (by decide +kernel)⟩
def m_X9_says : MI := (⟨RX9, "says", "(II)I"⟩, prog_11_method_16_code, 5, some .int)
theorem gy_X9_says : goodY m_X9_says 2 := ⟨w_1270, by decide +kernel, plainFor_of_name (by decide +kernel)⟩
def m_X9_isOf : MI := (⟨RX9, "isOf", "(II)Z"⟩, prog_11_method_58_code, 3, some .boolean)
theorem gy_X9_isOf : goodY m_X9_isOf 2 := ⟨w_1324, by decide +kernel, plainFor_of_name (by decide +kernel)⟩
def m_X9_isSo : MI := (⟨RX9, "isSo", "(I)I"⟩, prog_11_method_17_code, 2, some .int)
theorem gy_X9_isSo : goodY m_X9_isSo 1 := ⟨w_1320, by decide +kernel, plainFor_of_name (by decide +kernel)⟩
def m_X9_ask : MI := (⟨RX9, "ask", "(II)I"⟩, prog_11_method_18_code, 4, some .int)
theorem gy_X9_ask : goodY m_X9_ask 2 := ⟨w_1330, by decide +kernel, plainFor_of_name (by decide +kernel)⟩
def m_X9_addNotch : MI := (⟨RX9, "addNotch", "(III)V"⟩, prog_11_method_19_code, 4, none)
theorem gy_X9_addNotch : goodY m_X9_addNotch 3 := ⟨w_1342, by decide +kernel, plainFor_of_name (by decide +kernel)⟩
