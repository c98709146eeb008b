theorem inP (i : Nat) {w : Cond} (h : (k2_sels lw_privs)[i]? = some w) (hg : goodWord w = true) : w ∈ ALL := List.mem_filter.mpr ⟨List.mem_append_left _ (List.mem_of_getElem? h), hg⟩
theorem inT_1 (i : Nat) {w : Cond} (h : tables_1_1[i]? = some w) (hg : goodWord w = true) : w ∈ ALL := List.mem_filter.mpr ⟨List.mem_append_right _ (List.mem_append_left _ (List.mem_of_getElem? h)), hg⟩
theorem inT_2 (i : Nat) {w : Cond} (h : tables_1_2[i]? = some w) (hg : goodWord w = true) : w ∈ ALL := List.mem_filter.mpr ⟨List.mem_append_right _ (List.mem_append_right _ (List.mem_append_left _ (List.mem_of_getElem? h))), hg⟩
theorem inT_3 (i : Nat) {w : Cond} (h : tables_1_3[i]? = some w) (hg : goodWord w = true) : w ∈ ALL := List.mem_filter.mpr ⟨List.mem_append_right _ (List.mem_append_right _ (List.mem_append_right _ (List.mem_append_left _ (List.mem_of_getElem? h)))), hg⟩
theorem inT_4 (i : Nat) {w : Cond} (h : tables_1_4[i]? = some w) (hg : goodWord w = true) : w ∈ ALL := List.mem_filter.mpr ⟨List.mem_append_right _ (List.mem_append_right _ (List.mem_append_right _ (List.mem_append_right _ (List.mem_append_left _ (List.mem_of_getElem? h))))), hg⟩
theorem inT_5 (i : Nat) {w : Cond} (h : tables_1_5[i]? = some w) (hg : goodWord w = true) : w ∈ ALL := List.mem_filter.mpr ⟨List.mem_append_right _ (List.mem_append_right _ (List.mem_append_right _ (List.mem_append_right _ (List.mem_append_right _ (List.mem_append_left _ (List.mem_of_getElem? h)))))), hg⟩
theorem inT_6 (i : Nat) {w : Cond} (h : tables_1_6[i]? = some w) (hg : goodWord w = true) : w ∈ ALL := List.mem_filter.mpr ⟨List.mem_append_right _ (List.mem_append_right _ (List.mem_append_right _ (List.mem_append_right _ (List.mem_append_right _ (List.mem_append_right _ (List.mem_append_left _ (List.mem_of_getElem? h))))))), hg⟩
theorem inT_7 (i : Nat) {w : Cond} (h : tables_1_7[i]? = some w) (hg : goodWord w = true) : w ∈ ALL := List.mem_filter.mpr ⟨List.mem_append_right _ (List.mem_append_right _ (List.mem_append_right _ (List.mem_append_right _ (List.mem_append_right _ (List.mem_append_right _ (List.mem_append_right _ (List.mem_of_getElem? h))))))), hg⟩
theorem w_682 : (Jvm.Cond.fieldLink "java/lang/String" (38 : Nat) "java/lang/String" "COMPACT_STRINGS" "Z") ∈ ALL := inT_3 142 rfl rfl
theorem w_1699 : (Jvm.Cond.fieldLink "java/lang/String" (15 : Nat) "java/lang/String" "coder" "B") ∈ ALL := inT_7 199 rfl rfl
theorem w_74 : (Jvm.Cond.initialized "java/lang/String") ∈ ALL := inT_1 14 rfl rfl
theorem w_680 : (Jvm.Cond.selects "java/lang/String" ({ cls := "java/lang/String", name := "coder", desc := "()B" } : Jvm.MethodName) ({ cls := "java/lang/String", name := "coder", desc := "()B" } : Jvm.MethodName)) ∈ ALL := inT_3 140 rfl rfl
theorem w_679 : (Jvm.Cond.instanceMethod ({ cls := "java/lang/String", name := "coder", desc := "()B" } : Jvm.MethodName)) ∈ ALL := inT_3 139 rfl rfl
theorem w_678 : (Jvm.Cond.methodLink "java/lang/String" (335 : Nat) ({ cls := "java/lang/String", name := "coder", desc := "()B" } : Jvm.MethodName)) ∈ ALL := inT_3 138 rfl rfl
theorem w_1698 : (Jvm.Cond.fieldLink "java/lang/String" (9 : Nat) "java/lang/String" "value" "[B") ∈ ALL := inT_7 198 rfl rfl
theorem w_76 : (Jvm.Cond.initialized "jdk/internal/util/Preconditions") ∈ ALL := inT_1 16 rfl rfl
theorem w_701 : (Jvm.Cond.static ({ cls := "jdk/internal/util/Preconditions", name := "checkIndex", desc := "(IILjava/util/function/BiFunction;)I" } : Jvm.MethodName)) ∈ ALL := inT_3 161 rfl rfl
theorem w_700 : (Jvm.Cond.methodLink "java/lang/String" (1059 : Nat) ({ cls := "jdk/internal/util/Preconditions", name := "checkIndex", desc := "(IILjava/util/function/BiFunction;)I" } : Jvm.MethodName)) ∈ ALL := inT_3 160 rfl rfl
theorem w_698 : (Jvm.Cond.fieldLink "java/lang/String" (1053 : Nat) "jdk/internal/util/Preconditions" "SIOOBE_FORMATTER" "Ljava/util/function/BiFunction;") ∈ ALL := inT_3 158 rfl rfl
theorem w_696 : (Jvm.Cond.static ({ cls := "java/lang/String", name := "checkIndex", desc := "(II)V" } : Jvm.MethodName)) ∈ ALL := inT_3 156 rfl rfl
theorem w_695 : (Jvm.Cond.methodLink "java/lang/StringLatin1" (9 : Nat) ({ cls := "java/lang/String", name := "checkIndex", desc := "(II)V" } : Jvm.MethodName)) ∈ ALL := inT_3 155 rfl rfl
theorem w_690 : (Jvm.Cond.selects "java/lang/String" ({ cls := "java/lang/String", name := "isLatin1", desc := "()Z" } : Jvm.MethodName) ({ cls := "java/lang/String", name := "isLatin1", desc := "()Z" } : Jvm.MethodName)) ∈ ALL := inT_3 150 rfl rfl
theorem w_689 : (Jvm.Cond.instanceMethod ({ cls := "java/lang/String", name := "isLatin1", desc := "()Z" } : Jvm.MethodName)) ∈ ALL := inT_3 149 rfl rfl
theorem w_688 : (Jvm.Cond.methodLink "java/lang/String" (492 : Nat) ({ cls := "java/lang/String", name := "isLatin1", desc := "()Z" } : Jvm.MethodName)) ∈ ALL := inT_3 148 rfl rfl
theorem w_75 : (Jvm.Cond.initialized "java/lang/StringLatin1") ∈ ALL := inT_1 15 rfl rfl
theorem w_693 : (Jvm.Cond.static ({ cls := "java/lang/StringLatin1", name := "charAt", desc := "([BI)C" } : Jvm.MethodName)) ∈ ALL := inT_3 153 rfl rfl
theorem w_692 : (Jvm.Cond.methodLink "java/lang/String" (495 : Nat) ({ cls := "java/lang/StringLatin1", name := "charAt", desc := "([BI)C" } : Jvm.MethodName)) ∈ ALL := inT_3 152 rfl rfl
theorem w_61 : (Jvm.Cond.initialized "MoonOverTheHill") ∈ ALL := inT_1 1 rfl rfl
theorem w_281 : (Jvm.Cond.static ({ cls := "MoonOverTheHill", name := "isIn", desc := "(III)Z" } : Jvm.MethodName)) ∈ ALL := inT_1 221 rfl rfl
theorem w_280 : (Jvm.Cond.methodLink "MoonOverTheHill" (60 : Nat) ({ cls := "MoonOverTheHill", name := "isIn", desc := "(III)Z" } : Jvm.MethodName)) ∈ ALL := inT_1 220 rfl rfl
theorem w_372 : (Jvm.Cond.static ({ cls := "MoonOverTheHill", name := "isDay", desc := "(I)Z" } : Jvm.MethodName)) ∈ ALL := inT_2 72 rfl rfl
theorem w_371 : (Jvm.Cond.methodLink "MoonOverTheHill" (113 : Nat) ({ cls := "MoonOverTheHill", name := "isDay", desc := "(I)Z" } : Jvm.MethodName)) ∈ ALL := inT_2 71 rfl rfl
theorem w_109 : (Jvm.Cond.fieldLink "MoonOverTheHill$Few" (21 : Nat) "MoonOverTheHill$Few" "count" "I") ∈ ALL := inT_1 49 rfl rfl
theorem w_108 : (Jvm.Cond.fieldLink "MoonOverTheHill$Few" (15 : Nat) "MoonOverTheHill$Few" "items" "[I") ∈ ALL := inT_1 48 rfl rfl
theorem w_64 : (Jvm.Cond.initialized "MoonOverTheHill$Few") ∈ ALL := inT_1 4 rfl rfl
theorem w_516 : (Jvm.Cond.selects "MoonOverTheHill$Few" ({ cls := "MoonOverTheHill$Few", name := "at", desc := "(I)I" } : Jvm.MethodName) ({ cls := "MoonOverTheHill$Few", name := "at", desc := "(I)I" } : Jvm.MethodName)) ∈ ALL := inT_2 216 rfl rfl
theorem w_515 : (Jvm.Cond.instanceMethod ({ cls := "MoonOverTheHill$Few", name := "at", desc := "(I)I" } : Jvm.MethodName)) ∈ ALL := inT_2 215 rfl rfl
theorem w_527 : (Jvm.Cond.methodLink "MoonOverTheHill$Few" (25 : Nat) ({ cls := "MoonOverTheHill$Few", name := "at", desc := "(I)I" } : Jvm.MethodName)) ∈ ALL := inT_2 227 rfl rfl
theorem w_575 : (Jvm.Cond.selects "MoonOverTheHill$Few" ({ cls := "MoonOverTheHill$Few", name := "add", desc := "(I)V" } : Jvm.MethodName) ({ cls := "MoonOverTheHill$Few", name := "add", desc := "(I)V" } : Jvm.MethodName)) ∈ ALL := inT_3 35 rfl rfl
theorem w_574 : (Jvm.Cond.instanceMethod ({ cls := "MoonOverTheHill$Few", name := "add", desc := "(I)V" } : Jvm.MethodName)) ∈ ALL := inT_3 34 rfl rfl
theorem w_646 : (Jvm.Cond.methodLink "MoonOverTheHill$Few" (29 : Nat) ({ cls := "MoonOverTheHill$Few", name := "add", desc := "(I)V" } : Jvm.MethodName)) ∈ ALL := inT_3 106 rfl rfl
theorem w_116 : (Jvm.Cond.fieldLink "MoonOverTheHill$Hill" (16 : Nat) "MoonOverTheHill$Hill" "from" "LMoonOverTheHill$Few;") ∈ ALL := inT_1 56 rfl rfl
theorem w_512 : (Jvm.Cond.selects "MoonOverTheHill$Few" ({ cls := "MoonOverTheHill$Few", name := "count", desc := "()I" } : Jvm.MethodName) ({ cls := "MoonOverTheHill$Few", name := "count", desc := "()I" } : Jvm.MethodName)) ∈ ALL := inT_2 212 rfl rfl
theorem w_511 : (Jvm.Cond.instanceMethod ({ cls := "MoonOverTheHill$Few", name := "count", desc := "()I" } : Jvm.MethodName)) ∈ ALL := inT_2 211 rfl rfl
theorem w_510 : (Jvm.Cond.methodLink "MoonOverTheHill$Hill" (30 : Nat) ({ cls := "MoonOverTheHill$Few", name := "count", desc := "()I" } : Jvm.MethodName)) ∈ ALL := inT_2 210 rfl rfl
theorem w_567 : (Jvm.Cond.selects "MoonOverTheHill$Few" ({ cls := "MoonOverTheHill$Few", name := "isFull", desc := "()Z" } : Jvm.MethodName) ({ cls := "MoonOverTheHill$Few", name := "isFull", desc := "()Z" } : Jvm.MethodName)) ∈ ALL := inT_3 27 rfl rfl
theorem w_566 : (Jvm.Cond.instanceMethod ({ cls := "MoonOverTheHill$Few", name := "isFull", desc := "()Z" } : Jvm.MethodName)) ∈ ALL := inT_3 26 rfl rfl
theorem w_565 : (Jvm.Cond.methodLink "MoonOverTheHill$Hill" (34 : Nat) ({ cls := "MoonOverTheHill$Few", name := "isFull", desc := "()Z" } : Jvm.MethodName)) ∈ ALL := inT_3 25 rfl rfl
theorem w_573 : (Jvm.Cond.methodLink "MoonOverTheHill$Hill" (38 : Nat) ({ cls := "MoonOverTheHill$Few", name := "add", desc := "(I)V" } : Jvm.MethodName)) ∈ ALL := inT_3 33 rfl rfl
theorem w_117 : (Jvm.Cond.fieldLink "MoonOverTheHill$Hill" (20 : Nat) "MoonOverTheHill$Hill" "to" "LMoonOverTheHill$Few;") ∈ ALL := inT_1 57 rfl rfl
theorem w_118 : (Jvm.Cond.fieldLink "MoonOverTheHill$Hill" (23 : Nat) "MoonOverTheHill$Hill" "height" "LMoonOverTheHill$Few;") ∈ ALL := inT_1 58 rfl rfl
theorem w_65 : (Jvm.Cond.initialized "java/lang/Math") ∈ ALL := inT_1 5 rfl rfl
theorem w_106 : (Jvm.Cond.static ({ cls := "java/lang/Math", name := "max", desc := "(II)I" } : Jvm.MethodName)) ∈ ALL := inT_1 46 rfl rfl
theorem w_437 : (Jvm.Cond.methodLink "MoonOverTheHill$Hill" (41 : Nat) ({ cls := "java/lang/Math", name := "max", desc := "(II)I" } : Jvm.MethodName)) ∈ ALL := inT_2 137 rfl rfl
theorem w_119 : (Jvm.Cond.fieldLink "MoonOverTheHill$Hill" (26 : Nat) "MoonOverTheHill$Hill" "line" "[I") ∈ ALL := inT_1 59 rfl rfl
theorem w_514 : (Jvm.Cond.methodLink "MoonOverTheHill$Hill" (47 : Nat) ({ cls := "MoonOverTheHill$Few", name := "at", desc := "(I)I" } : Jvm.MethodName)) ∈ ALL := inT_2 214 rfl rfl
theorem w_63 : (Jvm.Cond.initialized "MoonOverTheHill$Hill") ∈ ALL := inT_1 3 rfl rfl
theorem w_435 : (Jvm.Cond.selects "MoonOverTheHill$Hill" ({ cls := "MoonOverTheHill$Hill", name := "lineAt", desc := "(I)I" } : Jvm.MethodName) ({ cls := "MoonOverTheHill$Hill", name := "lineAt", desc := "(I)I" } : Jvm.MethodName)) ∈ ALL := inT_2 135 rfl rfl
theorem w_434 : (Jvm.Cond.instanceMethod ({ cls := "MoonOverTheHill$Hill", name := "lineAt", desc := "(I)I" } : Jvm.MethodName)) ∈ ALL := inT_2 134 rfl rfl
theorem w_433 : (Jvm.Cond.methodLink "MoonOverTheHill$Hill" (51 : Nat) ({ cls := "MoonOverTheHill$Hill", name := "lineAt", desc := "(I)I" } : Jvm.MethodName)) ∈ ALL := inT_2 133 rfl rfl
theorem w_508 : (Jvm.Cond.selects "MoonOverTheHill$Hill" ({ cls := "MoonOverTheHill$Hill", name := "count", desc := "()I" } : Jvm.MethodName) ({ cls := "MoonOverTheHill$Hill", name := "count", desc := "()I" } : Jvm.MethodName)) ∈ ALL := inT_2 208 rfl rfl
theorem w_507 : (Jvm.Cond.instanceMethod ({ cls := "MoonOverTheHill$Hill", name := "count", desc := "()I" } : Jvm.MethodName)) ∈ ALL := inT_2 207 rfl rfl
theorem w_506 : (Jvm.Cond.methodLink "MoonOverTheHill$Hill" (54 : Nat) ({ cls := "MoonOverTheHill$Hill", name := "count", desc := "()I" } : Jvm.MethodName)) ∈ ALL := inT_2 206 rfl rfl
theorem w_600 : (Jvm.Cond.selects "MoonOverTheHill$Few" ({ cls := "MoonOverTheHill$Few", name := "empty", desc := "()V" } : Jvm.MethodName) ({ cls := "MoonOverTheHill$Few", name := "empty", desc := "()V" } : Jvm.MethodName)) ∈ ALL := inT_3 60 rfl rfl
theorem w_599 : (Jvm.Cond.instanceMethod ({ cls := "MoonOverTheHill$Few", name := "empty", desc := "()V" } : Jvm.MethodName)) ∈ ALL := inT_3 59 rfl rfl
theorem w_598 : (Jvm.Cond.methodLink "MoonOverTheHill$Hill" (59 : Nat) ({ cls := "MoonOverTheHill$Few", name := "empty", desc := "()V" } : Jvm.MethodName)) ∈ ALL := inT_3 58 rfl rfl
theorem w_71 : (Jvm.Cond.initialized "java/util/Arrays") ∈ ALL := inT_1 11 rfl rfl
theorem w_603 : (Jvm.Cond.static ({ cls := "java/util/Arrays", name := "fill", desc := "([II)V" } : Jvm.MethodName)) ∈ ALL := inT_3 63 rfl rfl
theorem w_602 : (Jvm.Cond.methodLink "MoonOverTheHill$Hill" (62 : Nat) ({ cls := "java/util/Arrays", name := "fill", desc := "([II)V" } : Jvm.MethodName)) ∈ ALL := inT_3 62 rfl rfl
theorem w_644 : (Jvm.Cond.selects "MoonOverTheHill$Few" ({ cls := "MoonOverTheHill$Few", name := "become", desc := "(LMoonOverTheHill$Few;)V" } : Jvm.MethodName) ({ cls := "MoonOverTheHill$Few", name := "become", desc := "(LMoonOverTheHill$Few;)V" } : Jvm.MethodName)) ∈ ALL := inT_3 104 rfl rfl
theorem w_643 : (Jvm.Cond.instanceMethod ({ cls := "MoonOverTheHill$Few", name := "become", desc := "(LMoonOverTheHill$Few;)V" } : Jvm.MethodName)) ∈ ALL := inT_3 103 rfl rfl
theorem w_642 : (Jvm.Cond.methodLink "MoonOverTheHill$Hill" (68 : Nat) ({ cls := "MoonOverTheHill$Few", name := "become", desc := "(LMoonOverTheHill$Few;)V" } : Jvm.MethodName)) ∈ ALL := inT_3 102 rfl rfl
theorem w_647 : (Jvm.Cond.methodLink "MoonOverTheHill$Hill" (72 : Nat) ({ cls := "java/lang/System", name := "arraycopy", desc := "(Ljava/lang/Object;ILjava/lang/Object;II)V" } : Jvm.MethodName)) ∈ ALL := inT_3 107 rfl rfl
theorem w_346 : (Jvm.Cond.native ({ cls := "java/lang/System", name := "arraycopy", desc := "(Ljava/lang/Object;ILjava/lang/Object;II)V" } : Jvm.MethodName)) ∈ ALL := inT_2 46 rfl rfl
theorem w_345 : (Jvm.Cond.static ({ cls := "java/lang/System", name := "arraycopy", desc := "(Ljava/lang/Object;ILjava/lang/Object;II)V" } : Jvm.MethodName)) ∈ ALL := inT_2 45 rfl rfl
theorem w_72 : (Jvm.Cond.initialized "java/lang/System") ∈ ALL := inT_1 12 rfl rfl
theorem w_459 : (Jvm.Cond.methodLink "MoonOverTheHill$Question" (3 : Nat) ({ cls := "java/lang/Object", name := "<init>", desc := "()V" } : Jvm.MethodName)) ∈ ALL := inT_2 159 rfl rfl
theorem w_85 : (Jvm.Cond.instanceMethod ({ cls := "java/lang/Object", name := "<init>", desc := "()V" } : Jvm.MethodName)) ∈ ALL := inT_1 25 rfl rfl
theorem w_86 : (Jvm.Cond.code ({ cls := "java/lang/Object", name := "<init>", desc := "()V" } : Jvm.MethodName) object_method_1_code (1 : Nat) (Option.none : Option Jvm.ClassFile.FieldType)) ∈ ALL := inT_1 26 rfl rfl
theorem w_460 : (Jvm.Cond.fieldLink "MoonOverTheHill$Question" (9 : Nat) "MoonOverTheHill$Question" "about" "I") ∈ ALL := inT_2 160 rfl rfl
theorem w_462 : (Jvm.Cond.fieldLink "MoonOverTheHill$Question" (15 : Nat) "MoonOverTheHill$Question" "a" "I") ∈ ALL := inT_2 162 rfl rfl
theorem w_464 : (Jvm.Cond.fieldLink "MoonOverTheHill$Question" (18 : Nat) "MoonOverTheHill$Question" "b" "I") ∈ ALL := inT_2 164 rfl rfl
theorem w_466 : (Jvm.Cond.fieldLink "MoonOverTheHill$Question" (21 : Nat) "MoonOverTheHill$Question" "c" "I") ∈ ALL := inT_2 166 rfl rfl
theorem w_468 : (Jvm.Cond.fieldLink "MoonOverTheHill$Question" (24 : Nat) "MoonOverTheHill$Question" "picture" "LMoonOverTheHill$Shelf;") ∈ ALL := inT_2 168 rfl rfl
theorem w_73 : (Jvm.Cond.initialized "MoonOverTheHill$Question") ∈ ALL := inT_1 13 rfl rfl
theorem w_457 : (Jvm.Cond.instanceMethod ({ cls := "MoonOverTheHill$Question", name := "<init>", desc := "(IIIILMoonOverTheHill$Shelf;)V" } : Jvm.MethodName)) ∈ ALL := inT_2 157 rfl rfl
theorem w_456 : (Jvm.Cond.methodLink "MoonOverTheHill$Question" (28 : Nat) ({ cls := "MoonOverTheHill$Question", name := "<init>", desc := "(IIIILMoonOverTheHill$Shelf;)V" } : Jvm.MethodName)) ∈ ALL := inT_2 156 rfl rfl
theorem w_231 : (Jvm.Cond.fieldLink "MoonOverTheHill$Shelf" (15 : Nat) "MoonOverTheHill$Shelf" "content" "I") ∈ ALL := inT_1 171 rfl rfl
theorem w_69 : (Jvm.Cond.initialized "MoonOverTheHill$Shelf") ∈ ALL := inT_1 9 rfl rfl
theorem w_336 : (Jvm.Cond.selects "MoonOverTheHill$Shelf" ({ cls := "MoonOverTheHill$Shelf", name := "isRow", desc := "()Z" } : Jvm.MethodName) ({ cls := "MoonOverTheHill$Shelf", name := "isRow", desc := "()Z" } : Jvm.MethodName)) ∈ ALL := inT_2 36 rfl rfl
theorem w_335 : (Jvm.Cond.instanceMethod ({ cls := "MoonOverTheHill$Shelf", name := "isRow", desc := "()Z" } : Jvm.MethodName)) ∈ ALL := inT_2 35 rfl rfl
theorem w_334 : (Jvm.Cond.methodLink "MoonOverTheHill$Shelf" (19 : Nat) ({ cls := "MoonOverTheHill$Shelf", name := "isRow", desc := "()Z" } : Jvm.MethodName)) ∈ ALL := inT_2 34 rfl rfl
theorem w_233 : (Jvm.Cond.fieldLink "MoonOverTheHill$Shelf" (23 : Nat) "MoonOverTheHill$Shelf" "day" "I") ∈ ALL := inT_1 173 rfl rfl
theorem w_307 : (Jvm.Cond.selects "MoonOverTheHill$Shelf" ({ cls := "MoonOverTheHill$Shelf", name := "isEvening", desc := "()Z" } : Jvm.MethodName) ({ cls := "MoonOverTheHill$Shelf", name := "isEvening", desc := "()Z" } : Jvm.MethodName)) ∈ ALL := inT_2 7 rfl rfl
theorem w_306 : (Jvm.Cond.instanceMethod ({ cls := "MoonOverTheHill$Shelf", name := "isEvening", desc := "()Z" } : Jvm.MethodName)) ∈ ALL := inT_2 6 rfl rfl
theorem w_305 : (Jvm.Cond.methodLink "MoonOverTheHill$Shelf" (26 : Nat) ({ cls := "MoonOverTheHill$Shelf", name := "isEvening", desc := "()Z" } : Jvm.MethodName)) ∈ ALL := inT_2 5 rfl rfl
theorem w_311 : (Jvm.Cond.selects "MoonOverTheHill$Shelf" ({ cls := "MoonOverTheHill$Shelf", name := "isBare", desc := "()Z" } : Jvm.MethodName) ({ cls := "MoonOverTheHill$Shelf", name := "isBare", desc := "()Z" } : Jvm.MethodName)) ∈ ALL := inT_2 11 rfl rfl
theorem w_310 : (Jvm.Cond.instanceMethod ({ cls := "MoonOverTheHill$Shelf", name := "isBare", desc := "()Z" } : Jvm.MethodName)) ∈ ALL := inT_2 10 rfl rfl
theorem w_309 : (Jvm.Cond.methodLink "MoonOverTheHill$Shelf" (29 : Nat) ({ cls := "MoonOverTheHill$Shelf", name := "isBare", desc := "()Z" } : Jvm.MethodName)) ∈ ALL := inT_2 9 rfl rfl
theorem w_232 : (Jvm.Cond.fieldLink "MoonOverTheHill$Shelf" (32 : Nat) "MoonOverTheHill$Shelf" "size" "I") ∈ ALL := inT_1 172 rfl rfl
theorem w_230 : (Jvm.Cond.fieldLink "MoonOverTheHill$Shelf" (11 : Nat) "MoonOverTheHill$Shelf" "elements" "[J") ∈ ALL := inT_1 170 rfl rfl
theorem w_292 : (Jvm.Cond.static ({ cls := "java/lang/Math", name := "min", desc := "(II)I" } : Jvm.MethodName)) ∈ ALL := inT_1 232 rfl rfl
theorem w_291 : (Jvm.Cond.methodLink "MoonOverTheHill$Shelf" (35 : Nat) ({ cls := "java/lang/Math", name := "min", desc := "(II)I" } : Jvm.MethodName)) ∈ ALL := inT_1 231 rfl rfl
theorem w_295 : (Jvm.Cond.static ({ cls := "java/util/Arrays", name := "fill", desc := "([JJ)V" } : Jvm.MethodName)) ∈ ALL := inT_1 235 rfl rfl
theorem w_294 : (Jvm.Cond.methodLink "MoonOverTheHill$Shelf" (41 : Nat) ({ cls := "java/util/Arrays", name := "fill", desc := "([JJ)V" } : Jvm.MethodName)) ∈ ALL := inT_1 234 rfl rfl
theorem w_2 : Cond.selects "MoonOverTheHill$Shelf" (⟨"MoonOverTheHill$Shelf", "cut", "(J)J"⟩ : MethodName) (⟨"MoonOverTheHill$Shelf", "cut", "(J)J"⟩ : MethodName) ∈ ALL := inP 2 rfl rfl
theorem w_323 : (Jvm.Cond.instanceMethod ({ cls := "MoonOverTheHill$Shelf", name := "cut", desc := "(J)J" } : Jvm.MethodName)) ∈ ALL := inT_2 23 rfl rfl
theorem w_321 : (Jvm.Cond.methodLink "MoonOverTheHill$Shelf" (47 : Nat) ({ cls := "MoonOverTheHill$Shelf", name := "cut", desc := "(J)J" } : Jvm.MethodName)) ∈ ALL := inT_2 21 rfl rfl
theorem w_315 : (Jvm.Cond.selects "MoonOverTheHill$Shelf" ({ cls := "MoonOverTheHill$Shelf", name := "hasPlaces", desc := "(II)Z" } : Jvm.MethodName) ({ cls := "MoonOverTheHill$Shelf", name := "hasPlaces", desc := "(II)Z" } : Jvm.MethodName)) ∈ ALL := inT_2 15 rfl rfl
theorem w_314 : (Jvm.Cond.instanceMethod ({ cls := "MoonOverTheHill$Shelf", name := "hasPlaces", desc := "(II)Z" } : Jvm.MethodName)) ∈ ALL := inT_2 14 rfl rfl
theorem w_343 : (Jvm.Cond.methodLink "MoonOverTheHill$Shelf" (51 : Nat) ({ cls := "MoonOverTheHill$Shelf", name := "hasPlaces", desc := "(II)Z" } : Jvm.MethodName)) ∈ ALL := inT_2 43 rfl rfl
theorem w_344 : (Jvm.Cond.methodLink "MoonOverTheHill$Shelf" (55 : Nat) ({ cls := "java/lang/System", name := "arraycopy", desc := "(Ljava/lang/Object;ILjava/lang/Object;II)V" } : Jvm.MethodName)) ∈ ALL := inT_2 44 rfl rfl
theorem w_354 : (Jvm.Cond.selects "MoonOverTheHill$Shelf" ({ cls := "MoonOverTheHill$Shelf", name := "at", desc := "(I)J" } : Jvm.MethodName) ({ cls := "MoonOverTheHill$Shelf", name := "at", desc := "(I)J" } : Jvm.MethodName)) ∈ ALL := inT_2 54 rfl rfl
theorem w_353 : (Jvm.Cond.instanceMethod ({ cls := "MoonOverTheHill$Shelf", name := "at", desc := "(I)J" } : Jvm.MethodName)) ∈ ALL := inT_2 53 rfl rfl
theorem w_544 : (Jvm.Cond.methodLink "MoonOverTheHill$Shelf" (61 : Nat) ({ cls := "MoonOverTheHill$Shelf", name := "at", desc := "(I)J" } : Jvm.MethodName)) ∈ ALL := inT_3 4 rfl rfl
theorem w_1009 : (Jvm.Cond.constantLong "MoonOverTheHill$Shelf" (65 : Nat) (29 : Int64)) ∈ ALL := inT_4 229 rfl rfl
theorem w_1010 : (Jvm.Cond.constantLong "MoonOverTheHill$Shelf" (67 : Nat) (30 : Int64)) ∈ ALL := inT_4 230 rfl rfl
theorem w_16 : Cond.selects "MoonOverTheHill$Shelf" (⟨"MoonOverTheHill$Shelf", "isMonthCount", "(I)Z"⟩ : MethodName) (⟨"MoonOverTheHill$Shelf", "isMonthCount", "(I)Z"⟩ : MethodName) ∈ ALL := inP 16 rfl rfl
theorem w_1007 : (Jvm.Cond.instanceMethod ({ cls := "MoonOverTheHill$Shelf", name := "isMonthCount", desc := "(I)Z" } : Jvm.MethodName)) ∈ ALL := inT_4 227 rfl rfl
theorem w_1005 : (Jvm.Cond.methodLink "MoonOverTheHill$Shelf" (69 : Nat) ({ cls := "MoonOverTheHill$Shelf", name := "isMonthCount", desc := "(I)Z" } : Jvm.MethodName)) ∈ ALL := inT_4 225 rfl rfl
theorem w_1015 : (Jvm.Cond.methodLink "MoonOverTheHill$Shelf" (73 : Nat) ({ cls := "java/lang/Math", name := "max", desc := "(II)I" } : Jvm.MethodName)) ∈ ALL := inT_4 235 rfl rfl
theorem w_1023 : (Jvm.Cond.constantLong "MoonOverTheHill$Shelf" (80 : Nat) (88 : Int64)) ∈ ALL := inT_5 3 rfl rfl
theorem w_1025 : (Jvm.Cond.constantLong "MoonOverTheHill$Shelf" (84 : Nat) (22 : Int64)) ∈ ALL := inT_5 5 rfl rfl
theorem w_1024 : (Jvm.Cond.constantLong "MoonOverTheHill$Shelf" (82 : Nat) (89 : Int64)) ∈ ALL := inT_5 4 rfl rfl
theorem w_1021 : (Jvm.Cond.static ({ cls := "MoonOverTheHill$Shelf", name := "isThreeMonths", desc := "(JJJ)Z" } : Jvm.MethodName)) ∈ ALL := inT_5 1 rfl rfl
theorem w_1020 : (Jvm.Cond.methodLink "MoonOverTheHill$Shelf" (76 : Nat) ({ cls := "MoonOverTheHill$Shelf", name := "isThreeMonths", desc := "(JJJ)Z" } : Jvm.MethodName)) ∈ ALL := inT_5 0 rfl rfl
theorem w_131 : (Jvm.Cond.fieldLink "MoonOverTheHill$State" (37 : Nat) "MoonOverTheHill$State" "off" "I") ∈ ALL := inT_1 71 rfl rfl
theorem w_134 : (Jvm.Cond.fieldLink "MoonOverTheHill$State" (40 : Nat) "MoonOverTheHill$State" "node" "I") ∈ ALL := inT_1 74 rfl rfl
theorem w_136 : (Jvm.Cond.fieldLink "MoonOverTheHill$State" (43 : Nat) "MoonOverTheHill$State" "swing" "I") ∈ ALL := inT_1 76 rfl rfl
theorem w_138 : (Jvm.Cond.fieldLink "MoonOverTheHill$State" (9 : Nat) "MoonOverTheHill$State" "cloud" "I") ∈ ALL := inT_1 78 rfl rfl
theorem w_155 : (Jvm.Cond.fieldLink "MoonOverTheHill$State" (34 : Nat) "MoonOverTheHill$State" "seed" "I") ∈ ALL := inT_1 95 rfl rfl
theorem w_1094 : (Jvm.Cond.constant "MoonOverTheHill$State" (46 : Nat) (1103515245 : Int32)) ∈ ALL := inT_5 74 rfl rfl
theorem w_140 : (Jvm.Cond.fieldLink "MoonOverTheHill$State" (18 : Nat) "MoonOverTheHill$State" "hill" "LMoonOverTheHill$Hill;") ∈ ALL := inT_1 80 rfl rfl
theorem w_640 : (Jvm.Cond.selects "MoonOverTheHill$Hill" ({ cls := "MoonOverTheHill$Hill", name := "become", desc := "(LMoonOverTheHill$Hill;)V" } : Jvm.MethodName) ({ cls := "MoonOverTheHill$Hill", name := "become", desc := "(LMoonOverTheHill$Hill;)V" } : Jvm.MethodName)) ∈ ALL := inT_3 100 rfl rfl
theorem w_639 : (Jvm.Cond.instanceMethod ({ cls := "MoonOverTheHill$Hill", name := "become", desc := "(LMoonOverTheHill$Hill;)V" } : Jvm.MethodName)) ∈ ALL := inT_3 99 rfl rfl
theorem w_638 : (Jvm.Cond.methodLink "MoonOverTheHill$State" (47 : Nat) ({ cls := "MoonOverTheHill$Hill", name := "become", desc := "(LMoonOverTheHill$Hill;)V" } : Jvm.MethodName)) ∈ ALL := inT_3 98 rfl rfl
theorem w_144 : (Jvm.Cond.fieldLink "MoonOverTheHill$State" (27 : Nat) "MoonOverTheHill$State" "stones" "LMoonOverTheHill$Few;") ∈ ALL := inT_1 84 rfl rfl
theorem w_648 : (Jvm.Cond.methodLink "MoonOverTheHill$State" (51 : Nat) ({ cls := "MoonOverTheHill$Few", name := "become", desc := "(LMoonOverTheHill$Few;)V" } : Jvm.MethodName)) ∈ ALL := inT_3 108 rfl rfl
theorem w_147 : (Jvm.Cond.fieldLink "MoonOverTheHill$State" (31 : Nat) "MoonOverTheHill$State" "clouds" "LMoonOverTheHill$Few;") ∈ ALL := inT_1 87 rfl rfl
theorem w_151 : (Jvm.Cond.fieldLink "MoonOverTheHill$State" (54 : Nat) "MoonOverTheHill$State" "today" "I") ∈ ALL := inT_1 91 rfl rfl
theorem w_153 : (Jvm.Cond.fieldLink "MoonOverTheHill$State" (57 : Nat) "MoonOverTheHill$State" "looks" "I") ∈ ALL := inT_1 93 rfl rfl
theorem w_1074 : (Jvm.Cond.constant "java/lang/Integer" (265 : Nat) (1431655765 : Int32)) ∈ ALL := inT_5 54 rfl rfl
theorem w_1075 : (Jvm.Cond.constant "java/lang/Integer" (266 : Nat) (858993459 : Int32)) ∈ ALL := inT_5 55 rfl rfl
theorem w_1076 : (Jvm.Cond.constant "java/lang/Integer" (267 : Nat) (252645135 : Int32)) ∈ ALL := inT_5 56 rfl rfl
theorem w_445 : (Jvm.Cond.methodLink "MoonOverTheHill$Moon" (15 : Nat) ({ cls := "java/lang/Math", name := "min", desc := "(II)I" } : Jvm.MethodName)) ∈ ALL := inT_2 145 rfl rfl
theorem w_184 : (Jvm.Cond.fieldLink "MoonOverTheHill$Moon" (9 : Nat) "MoonOverTheHill$Moon" "now" "LMoonOverTheHill$State;") ∈ ALL := inT_1 124 rfl rfl
theorem w_132 : (Jvm.Cond.fieldLink "MoonOverTheHill$Moon" (21 : Nat) "MoonOverTheHill$State" "off" "I") ∈ ALL := inT_1 72 rfl rfl
theorem w_66 : (Jvm.Cond.initialized "MoonOverTheHill$Moon") ∈ ALL := inT_1 6 rfl rfl
theorem w_399 : (Jvm.Cond.selects "MoonOverTheHill$Moon" ({ cls := "MoonOverTheHill$Moon", name := "ageOf", desc := "(I)I" } : Jvm.MethodName) ({ cls := "MoonOverTheHill$Moon", name := "ageOf", desc := "(I)I" } : Jvm.MethodName)) ∈ ALL := inT_2 99 rfl rfl
theorem w_398 : (Jvm.Cond.instanceMethod ({ cls := "MoonOverTheHill$Moon", name := "ageOf", desc := "(I)I" } : Jvm.MethodName)) ∈ ALL := inT_2 98 rfl rfl
theorem w_397 : (Jvm.Cond.methodLink "MoonOverTheHill$Moon" (27 : Nat) ({ cls := "MoonOverTheHill$Moon", name := "ageOf", desc := "(I)I" } : Jvm.MethodName)) ∈ ALL := inT_2 97 rfl rfl
theorem w_137 : (Jvm.Cond.fieldLink "MoonOverTheHill$Moon" (31 : Nat) "MoonOverTheHill$State" "swing" "I") ∈ ALL := inT_1 77 rfl rfl
theorem w_418 : (Jvm.Cond.selects "MoonOverTheHill$Moon" ({ cls := "MoonOverTheHill$Moon", name := "outOf", desc := "(I)I" } : Jvm.MethodName) ({ cls := "MoonOverTheHill$Moon", name := "outOf", desc := "(I)I" } : Jvm.MethodName)) ∈ ALL := inT_2 118 rfl rfl
theorem w_417 : (Jvm.Cond.instanceMethod ({ cls := "MoonOverTheHill$Moon", name := "outOf", desc := "(I)I" } : Jvm.MethodName)) ∈ ALL := inT_2 117 rfl rfl
theorem w_416 : (Jvm.Cond.methodLink "MoonOverTheHill$Moon" (34 : Nat) ({ cls := "MoonOverTheHill$Moon", name := "outOf", desc := "(I)I" } : Jvm.MethodName)) ∈ ALL := inT_2 116 rfl rfl
theorem w_135 : (Jvm.Cond.fieldLink "MoonOverTheHill$Moon" (37 : Nat) "MoonOverTheHill$State" "node" "I") ∈ ALL := inT_1 75 rfl rfl
theorem w_424 : (Jvm.Cond.static ({ cls := "java/lang/Math", name := "floorMod", desc := "(II)I" } : Jvm.MethodName)) ∈ ALL := inT_2 124 rfl rfl
theorem w_423 : (Jvm.Cond.methodLink "MoonOverTheHill$Moon" (40 : Nat) ({ cls := "java/lang/Math", name := "floorMod", desc := "(II)I" } : Jvm.MethodName)) ∈ ALL := inT_2 123 rfl rfl
theorem w_414 : (Jvm.Cond.selects "MoonOverTheHill$Moon" ({ cls := "MoonOverTheHill$Moon", name := "slantOf", desc := "(I)I" } : Jvm.MethodName) ({ cls := "MoonOverTheHill$Moon", name := "slantOf", desc := "(I)I" } : Jvm.MethodName)) ∈ ALL := inT_2 114 rfl rfl
theorem w_413 : (Jvm.Cond.instanceMethod ({ cls := "MoonOverTheHill$Moon", name := "slantOf", desc := "(I)I" } : Jvm.MethodName)) ∈ ALL := inT_2 113 rfl rfl
theorem w_412 : (Jvm.Cond.methodLink "MoonOverTheHill$Moon" (43 : Nat) ({ cls := "MoonOverTheHill$Moon", name := "slantOf", desc := "(I)I" } : Jvm.MethodName)) ∈ ALL := inT_2 112 rfl rfl
theorem w_421 : (Jvm.Cond.static ({ cls := "MoonOverTheHill$Moon", name := "riseBy", desc := "(II)I" } : Jvm.MethodName)) ∈ ALL := inT_2 121 rfl rfl
theorem w_420 : (Jvm.Cond.methodLink "MoonOverTheHill$Moon" (46 : Nat) ({ cls := "MoonOverTheHill$Moon", name := "riseBy", desc := "(II)I" } : Jvm.MethodName)) ∈ ALL := inT_2 120 rfl rfl
theorem w_427 : (Jvm.Cond.static ({ cls := "MoonOverTheHill$Moon", name := "wayBy", desc := "(I)I" } : Jvm.MethodName)) ∈ ALL := inT_2 127 rfl rfl
theorem w_426 : (Jvm.Cond.methodLink "MoonOverTheHill$Moon" (49 : Nat) ({ cls := "MoonOverTheHill$Moon", name := "wayBy", desc := "(I)I" } : Jvm.MethodName)) ∈ ALL := inT_2 126 rfl rfl
theorem w_141 : (Jvm.Cond.fieldLink "MoonOverTheHill$Moon" (52 : Nat) "MoonOverTheHill$State" "hill" "LMoonOverTheHill$Hill;") ∈ ALL := inT_1 81 rfl rfl
theorem w_496 : (Jvm.Cond.selects "MoonOverTheHill$Moon" ({ cls := "MoonOverTheHill$Moon", name := "wayOf", desc := "(I)I" } : Jvm.MethodName) ({ cls := "MoonOverTheHill$Moon", name := "wayOf", desc := "(I)I" } : Jvm.MethodName)) ∈ ALL := inT_2 196 rfl rfl
theorem w_495 : (Jvm.Cond.instanceMethod ({ cls := "MoonOverTheHill$Moon", name := "wayOf", desc := "(I)I" } : Jvm.MethodName)) ∈ ALL := inT_2 195 rfl rfl
theorem w_494 : (Jvm.Cond.methodLink "MoonOverTheHill$Moon" (56 : Nat) ({ cls := "MoonOverTheHill$Moon", name := "wayOf", desc := "(I)I" } : Jvm.MethodName)) ∈ ALL := inT_2 194 rfl rfl
theorem w_431 : (Jvm.Cond.selects "MoonOverTheHill$Hill" ({ cls := "MoonOverTheHill$Hill", name := "overFrom", desc := "(I)I" } : Jvm.MethodName) ({ cls := "MoonOverTheHill$Hill", name := "overFrom", desc := "(I)I" } : Jvm.MethodName)) ∈ ALL := inT_2 131 rfl rfl
theorem w_430 : (Jvm.Cond.instanceMethod ({ cls := "MoonOverTheHill$Hill", name := "overFrom", desc := "(I)I" } : Jvm.MethodName)) ∈ ALL := inT_2 130 rfl rfl
theorem w_429 : (Jvm.Cond.methodLink "MoonOverTheHill$Moon" (59 : Nat) ({ cls := "MoonOverTheHill$Hill", name := "overFrom", desc := "(I)I" } : Jvm.MethodName)) ∈ ALL := inT_2 129 rfl rfl
theorem w_410 : (Jvm.Cond.selects "MoonOverTheHill$Moon" ({ cls := "MoonOverTheHill$Moon", name := "upOf", desc := "(I)I" } : Jvm.MethodName) ({ cls := "MoonOverTheHill$Moon", name := "upOf", desc := "(I)I" } : Jvm.MethodName)) ∈ ALL := inT_2 110 rfl rfl
theorem w_409 : (Jvm.Cond.instanceMethod ({ cls := "MoonOverTheHill$Moon", name := "upOf", desc := "(I)I" } : Jvm.MethodName)) ∈ ALL := inT_2 109 rfl rfl
theorem w_408 : (Jvm.Cond.methodLink "MoonOverTheHill$Moon" (64 : Nat) ({ cls := "MoonOverTheHill$Moon", name := "upOf", desc := "(I)I" } : Jvm.MethodName)) ∈ ALL := inT_2 108 rfl rfl
theorem w_504 : (Jvm.Cond.selects "MoonOverTheHill$Hill" ({ cls := "MoonOverTheHill$Hill", name := "makerOf", desc := "(I)I" } : Jvm.MethodName) ({ cls := "MoonOverTheHill$Hill", name := "makerOf", desc := "(I)I" } : Jvm.MethodName)) ∈ ALL := inT_2 204 rfl rfl
theorem w_503 : (Jvm.Cond.instanceMethod ({ cls := "MoonOverTheHill$Hill", name := "makerOf", desc := "(I)I" } : Jvm.MethodName)) ∈ ALL := inT_2 203 rfl rfl
theorem w_502 : (Jvm.Cond.methodLink "MoonOverTheHill$Moon" (67 : Nat) ({ cls := "MoonOverTheHill$Hill", name := "makerOf", desc := "(I)I" } : Jvm.MethodName)) ∈ ALL := inT_2 202 rfl rfl
theorem w_446 : (Jvm.Cond.methodLink "MoonOverTheHill$Moon" (70 : Nat) ({ cls := "java/lang/Math", name := "max", desc := "(II)I" } : Jvm.MethodName)) ∈ ALL := inT_2 146 rfl rfl
theorem w_443 : (Jvm.Cond.static ({ cls := "MoonOverTheHill$Moon", name := "shinesFrom", desc := "(III)I" } : Jvm.MethodName)) ∈ ALL := inT_2 143 rfl rfl
theorem w_442 : (Jvm.Cond.methodLink "MoonOverTheHill$Moon" (73 : Nat) ({ cls := "MoonOverTheHill$Moon", name := "shinesFrom", desc := "(III)I" } : Jvm.MethodName)) ∈ ALL := inT_2 142 rfl rfl
theorem w_538 : (Jvm.Cond.selects "MoonOverTheHill$Moon" ({ cls := "MoonOverTheHill$Moon", name := "litOf", desc := "(I)I" } : Jvm.MethodName) ({ cls := "MoonOverTheHill$Moon", name := "litOf", desc := "(I)I" } : Jvm.MethodName)) ∈ ALL := inT_2 238 rfl rfl
theorem w_537 : (Jvm.Cond.instanceMethod ({ cls := "MoonOverTheHill$Moon", name := "litOf", desc := "(I)I" } : Jvm.MethodName)) ∈ ALL := inT_2 237 rfl rfl
theorem w_536 : (Jvm.Cond.methodLink "MoonOverTheHill$Moon" (77 : Nat) ({ cls := "MoonOverTheHill$Moon", name := "litOf", desc := "(I)I" } : Jvm.MethodName)) ∈ ALL := inT_2 236 rfl rfl
theorem w_402 : (Jvm.Cond.static ({ cls := "java/lang/Math", name := "abs", desc := "(I)I" } : Jvm.MethodName)) ∈ ALL := inT_2 102 rfl rfl
theorem w_401 : (Jvm.Cond.methodLink "MoonOverTheHill$Moon" (84 : Nat) ({ cls := "java/lang/Math", name := "abs", desc := "(I)I" } : Jvm.MethodName)) ∈ ALL := inT_2 101 rfl rfl
theorem w_406 : (Jvm.Cond.selects "MoonOverTheHill$Moon" ({ cls := "MoonOverTheHill$Moon", name := "laterOf", desc := "(I)I" } : Jvm.MethodName) ({ cls := "MoonOverTheHill$Moon", name := "laterOf", desc := "(I)I" } : Jvm.MethodName)) ∈ ALL := inT_2 106 rfl rfl
theorem w_405 : (Jvm.Cond.instanceMethod ({ cls := "MoonOverTheHill$Moon", name := "laterOf", desc := "(I)I" } : Jvm.MethodName)) ∈ ALL := inT_2 105 rfl rfl
theorem w_404 : (Jvm.Cond.methodLink "MoonOverTheHill$Moon" (87 : Nat) ({ cls := "MoonOverTheHill$Moon", name := "laterOf", desc := "(I)I" } : Jvm.MethodName)) ∈ ALL := inT_2 104 rfl rfl
theorem w_440 : (Jvm.Cond.selects "MoonOverTheHill$Moon" ({ cls := "MoonOverTheHill$Moon", name := "shinesOf", desc := "(III)I" } : Jvm.MethodName) ({ cls := "MoonOverTheHill$Moon", name := "shinesOf", desc := "(III)I" } : Jvm.MethodName)) ∈ ALL := inT_2 140 rfl rfl
theorem w_439 : (Jvm.Cond.instanceMethod ({ cls := "MoonOverTheHill$Moon", name := "shinesOf", desc := "(III)I" } : Jvm.MethodName)) ∈ ALL := inT_2 139 rfl rfl
theorem w_438 : (Jvm.Cond.methodLink "MoonOverTheHill$Moon" (90 : Nat) ({ cls := "MoonOverTheHill$Moon", name := "shinesOf", desc := "(III)I" } : Jvm.MethodName)) ∈ ALL := inT_2 138 rfl rfl
theorem w_532 : (Jvm.Cond.methodLink "MoonOverTheHill$Moon" (162 : Nat) ({ cls := "MoonOverTheHill$Shelf", name := "at", desc := "(I)J" } : Jvm.MethodName)) ∈ ALL := inT_2 232 rfl rfl
theorem w_534 : (Jvm.Cond.static ({ cls := "MoonOverTheHill$Moon", name := "minutesUp", desc := "(II)I" } : Jvm.MethodName)) ∈ ALL := inT_2 234 rfl rfl
theorem w_533 : (Jvm.Cond.methodLink "MoonOverTheHill$Moon" (159 : Nat) ({ cls := "MoonOverTheHill$Moon", name := "minutesUp", desc := "(II)I" } : Jvm.MethodName)) ∈ ALL := inT_2 233 rfl rfl
theorem w_542 : (Jvm.Cond.selects "MoonOverTheHill$Shelf" ({ cls := "MoonOverTheHill$Shelf", name := "isSpan", desc := "(II)Z" } : Jvm.MethodName) ({ cls := "MoonOverTheHill$Shelf", name := "isSpan", desc := "(II)Z" } : Jvm.MethodName)) ∈ ALL := inT_3 2 rfl rfl
theorem w_541 : (Jvm.Cond.instanceMethod ({ cls := "MoonOverTheHill$Shelf", name := "isSpan", desc := "(II)Z" } : Jvm.MethodName)) ∈ ALL := inT_3 1 rfl rfl
theorem w_540 : (Jvm.Cond.methodLink "MoonOverTheHill$Moon" (168 : Nat) ({ cls := "MoonOverTheHill$Shelf", name := "isSpan", desc := "(II)Z" } : Jvm.MethodName)) ∈ ALL := inT_3 0 rfl rfl
theorem w_461 : (Jvm.Cond.fieldLink "MoonOverTheHill$Moon" (93 : Nat) "MoonOverTheHill$Question" "about" "I") ∈ ALL := inT_2 161 rfl rfl
theorem w_487 : (Jvm.Cond.selects "MoonOverTheHill$Moon" ({ cls := "MoonOverTheHill$Moon", name := "isFull", desc := "(I)Z" } : Jvm.MethodName) ({ cls := "MoonOverTheHill$Moon", name := "isFull", desc := "(I)Z" } : Jvm.MethodName)) ∈ ALL := inT_2 187 rfl rfl
theorem w_486 : (Jvm.Cond.instanceMethod ({ cls := "MoonOverTheHill$Moon", name := "isFull", desc := "(I)Z" } : Jvm.MethodName)) ∈ ALL := inT_2 186 rfl rfl
theorem w_485 : (Jvm.Cond.methodLink "MoonOverTheHill$Moon" (98 : Nat) ({ cls := "MoonOverTheHill$Moon", name := "isFull", desc := "(I)Z" } : Jvm.MethodName)) ∈ ALL := inT_2 185 rfl rfl
theorem w_492 : (Jvm.Cond.selects "MoonOverTheHill$Moon" ({ cls := "MoonOverTheHill$Moon", name := "degreeOf", desc := "(I)I" } : Jvm.MethodName) ({ cls := "MoonOverTheHill$Moon", name := "degreeOf", desc := "(I)I" } : Jvm.MethodName)) ∈ ALL := inT_2 192 rfl rfl
theorem w_491 : (Jvm.Cond.instanceMethod ({ cls := "MoonOverTheHill$Moon", name := "degreeOf", desc := "(I)I" } : Jvm.MethodName)) ∈ ALL := inT_2 191 rfl rfl
theorem w_490 : (Jvm.Cond.methodLink "MoonOverTheHill$Moon" (102 : Nat) ({ cls := "MoonOverTheHill$Moon", name := "degreeOf", desc := "(I)I" } : Jvm.MethodName)) ∈ ALL := inT_2 190 rfl rfl
theorem w_463 : (Jvm.Cond.fieldLink "MoonOverTheHill$Moon" (105 : Nat) "MoonOverTheHill$Question" "a" "I") ∈ ALL := inT_2 163 rfl rfl
theorem w_465 : (Jvm.Cond.fieldLink "MoonOverTheHill$Moon" (108 : Nat) "MoonOverTheHill$Question" "b" "I") ∈ ALL := inT_2 165 rfl rfl
theorem w_467 : (Jvm.Cond.fieldLink "MoonOverTheHill$Moon" (111 : Nat) "MoonOverTheHill$Question" "c" "I") ∈ ALL := inT_2 167 rfl rfl
theorem w_500 : (Jvm.Cond.selects "MoonOverTheHill$Moon" ({ cls := "MoonOverTheHill$Moon", name := "behindOf", desc := "(I)I" } : Jvm.MethodName) ({ cls := "MoonOverTheHill$Moon", name := "behindOf", desc := "(I)I" } : Jvm.MethodName)) ∈ ALL := inT_2 200 rfl rfl
theorem w_499 : (Jvm.Cond.instanceMethod ({ cls := "MoonOverTheHill$Moon", name := "behindOf", desc := "(I)I" } : Jvm.MethodName)) ∈ ALL := inT_2 199 rfl rfl
theorem w_498 : (Jvm.Cond.methodLink "MoonOverTheHill$Moon" (114 : Nat) ({ cls := "MoonOverTheHill$Moon", name := "behindOf", desc := "(I)I" } : Jvm.MethodName)) ∈ ALL := inT_2 198 rfl rfl
theorem w_521 : (Jvm.Cond.selects "MoonOverTheHill$Moon" ({ cls := "MoonOverTheHill$Moon", name := "isAtNode", desc := "(I)Z" } : Jvm.MethodName) ({ cls := "MoonOverTheHill$Moon", name := "isAtNode", desc := "(I)Z" } : Jvm.MethodName)) ∈ ALL := inT_2 221 rfl rfl
theorem w_520 : (Jvm.Cond.instanceMethod ({ cls := "MoonOverTheHill$Moon", name := "isAtNode", desc := "(I)Z" } : Jvm.MethodName)) ∈ ALL := inT_2 220 rfl rfl
theorem w_519 : (Jvm.Cond.methodLink "MoonOverTheHill$Moon" (117 : Nat) ({ cls := "MoonOverTheHill$Moon", name := "isAtNode", desc := "(I)Z" } : Jvm.MethodName)) ∈ ALL := inT_2 219 rfl rfl
theorem w_150 : (Jvm.Cond.fieldLink "MoonOverTheHill$Moon" (120 : Nat) "MoonOverTheHill$State" "clouds" "LMoonOverTheHill$Few;") ∈ ALL := inT_1 90 rfl rfl
theorem w_525 : (Jvm.Cond.selects "MoonOverTheHill$Few" ({ cls := "MoonOverTheHill$Few", name := "contains", desc := "(I)Z" } : Jvm.MethodName) ({ cls := "MoonOverTheHill$Few", name := "contains", desc := "(I)Z" } : Jvm.MethodName)) ∈ ALL := inT_2 225 rfl rfl
theorem w_524 : (Jvm.Cond.instanceMethod ({ cls := "MoonOverTheHill$Few", name := "contains", desc := "(I)Z" } : Jvm.MethodName)) ∈ ALL := inT_2 224 rfl rfl
theorem w_523 : (Jvm.Cond.methodLink "MoonOverTheHill$Moon" (124 : Nat) ({ cls := "MoonOverTheHill$Few", name := "contains", desc := "(I)Z" } : Jvm.MethodName)) ∈ ALL := inT_2 223 rfl rfl
theorem w_469 : (Jvm.Cond.fieldLink "MoonOverTheHill$Moon" (129 : Nat) "MoonOverTheHill$Question" "picture" "LMoonOverTheHill$Shelf;") ∈ ALL := inT_2 169 rfl rfl
theorem w_530 : (Jvm.Cond.selects "MoonOverTheHill$Moon" ({ cls := "MoonOverTheHill$Moon", name := "isAsPictured", desc := "(LMoonOverTheHill$Shelf;I)Z" } : Jvm.MethodName) ({ cls := "MoonOverTheHill$Moon", name := "isAsPictured", desc := "(LMoonOverTheHill$Shelf;I)Z" } : Jvm.MethodName)) ∈ ALL := inT_2 230 rfl rfl
theorem w_529 : (Jvm.Cond.instanceMethod ({ cls := "MoonOverTheHill$Moon", name := "isAsPictured", desc := "(LMoonOverTheHill$Shelf;I)Z" } : Jvm.MethodName)) ∈ ALL := inT_2 229 rfl rfl
theorem w_528 : (Jvm.Cond.methodLink "MoonOverTheHill$Moon" (133 : Nat) ({ cls := "MoonOverTheHill$Moon", name := "isAsPictured", desc := "(LMoonOverTheHill$Shelf;I)Z" } : Jvm.MethodName)) ∈ ALL := inT_2 228 rfl rfl
theorem w_844 : (Jvm.Cond.static ({ cls := "MoonOverTheHill$Moon", name := "lastOf", desc := "(II)I" } : Jvm.MethodName)) ∈ ALL := inT_4 64 rfl rfl
theorem w_843 : (Jvm.Cond.methodLink "MoonOverTheHill$Moon" (137 : Nat) ({ cls := "MoonOverTheHill$Moon", name := "lastOf", desc := "(II)I" } : Jvm.MethodName)) ∈ ALL := inT_4 63 rfl rfl
theorem w_483 : (Jvm.Cond.selects "MoonOverTheHill$Moon" ({ cls := "MoonOverTheHill$Moon", name := "fits", desc := "(LMoonOverTheHill$Question;I)Z" } : Jvm.MethodName) ({ cls := "MoonOverTheHill$Moon", name := "fits", desc := "(LMoonOverTheHill$Question;I)Z" } : Jvm.MethodName)) ∈ ALL := inT_2 183 rfl rfl
theorem w_482 : (Jvm.Cond.instanceMethod ({ cls := "MoonOverTheHill$Moon", name := "fits", desc := "(LMoonOverTheHill$Question;I)Z" } : Jvm.MethodName)) ∈ ALL := inT_2 182 rfl rfl
theorem w_846 : (Jvm.Cond.methodLink "MoonOverTheHill$Moon" (140 : Nat) ({ cls := "MoonOverTheHill$Moon", name := "fits", desc := "(LMoonOverTheHill$Question;I)Z" } : Jvm.MethodName)) ∈ ALL := inT_4 66 rfl rfl
theorem w_795 : (Jvm.Cond.selects "MoonOverTheHill$Moon" ({ cls := "MoonOverTheHill$Moon", name := "overOf", desc := "(I)I" } : Jvm.MethodName) ({ cls := "MoonOverTheHill$Moon", name := "overOf", desc := "(I)I" } : Jvm.MethodName)) ∈ ALL := inT_4 15 rfl rfl
theorem w_794 : (Jvm.Cond.instanceMethod ({ cls := "MoonOverTheHill$Moon", name := "overOf", desc := "(I)I" } : Jvm.MethodName)) ∈ ALL := inT_4 14 rfl rfl
theorem w_877 : (Jvm.Cond.methodLink "MoonOverTheHill$Moon" (147 : Nat) ({ cls := "MoonOverTheHill$Moon", name := "overOf", desc := "(I)I" } : Jvm.MethodName)) ∈ ALL := inT_4 97 rfl rfl
theorem w_833 : (Jvm.Cond.selects "MoonOverTheHill$Moon" ({ cls := "MoonOverTheHill$Moon", name := "lightOf", desc := "(III)I" } : Jvm.MethodName) ({ cls := "MoonOverTheHill$Moon", name := "lightOf", desc := "(III)I" } : Jvm.MethodName)) ∈ ALL := inT_4 53 rfl rfl
theorem w_832 : (Jvm.Cond.instanceMethod ({ cls := "MoonOverTheHill$Moon", name := "lightOf", desc := "(III)I" } : Jvm.MethodName)) ∈ ALL := inT_4 52 rfl rfl
theorem w_878 : (Jvm.Cond.methodLink "MoonOverTheHill$Moon" (150 : Nat) ({ cls := "MoonOverTheHill$Moon", name := "lightOf", desc := "(III)I" } : Jvm.MethodName)) ∈ ALL := inT_4 98 rfl rfl
theorem w_875 : (Jvm.Cond.selects "MoonOverTheHill$Moon" ({ cls := "MoonOverTheHill$Moon", name := "meritOf", desc := "(II)I" } : Jvm.MethodName) ({ cls := "MoonOverTheHill$Moon", name := "meritOf", desc := "(II)I" } : Jvm.MethodName)) ∈ ALL := inT_4 95 rfl rfl
theorem w_874 : (Jvm.Cond.instanceMethod ({ cls := "MoonOverTheHill$Moon", name := "meritOf", desc := "(II)I" } : Jvm.MethodName)) ∈ ALL := inT_4 94 rfl rfl
theorem w_873 : (Jvm.Cond.methodLink "MoonOverTheHill$Moon" (144 : Nat) ({ cls := "MoonOverTheHill$Moon", name := "meritOf", desc := "(II)I" } : Jvm.MethodName)) ∈ ALL := inT_4 93 rfl rfl
theorem w_927 : (Jvm.Cond.static ({ cls := "java/lang/Math", name := "floorDiv", desc := "(II)I" } : Jvm.MethodName)) ∈ ALL := inT_4 147 rfl rfl
theorem w_926 : (Jvm.Cond.methodLink "MoonOverTheHill$Moon" (153 : Nat) ({ cls := "java/lang/Math", name := "floorDiv", desc := "(II)I" } : Jvm.MethodName)) ∈ ALL := inT_4 146 rfl rfl
theorem w_790 : (Jvm.Cond.selects "MoonOverTheHill$Moon" ({ cls := "MoonOverTheHill$Moon", name := "riseOf", desc := "(I)I" } : Jvm.MethodName) ({ cls := "MoonOverTheHill$Moon", name := "riseOf", desc := "(I)I" } : Jvm.MethodName)) ∈ ALL := inT_4 10 rfl rfl
theorem w_789 : (Jvm.Cond.instanceMethod ({ cls := "MoonOverTheHill$Moon", name := "riseOf", desc := "(I)I" } : Jvm.MethodName)) ∈ ALL := inT_4 9 rfl rfl
theorem w_941 : (Jvm.Cond.methodLink "MoonOverTheHill$Moon" (156 : Nat) ({ cls := "MoonOverTheHill$Moon", name := "riseOf", desc := "(I)I" } : Jvm.MethodName)) ∈ ALL := inT_4 161 rfl rfl
theorem w_971 : (Jvm.Cond.constantLong "MoonOverTheHill$Moon" (172 : Nat) (9999 : Int64)) ∈ ALL := inT_4 191 rfl rfl
theorem w_990 : (Jvm.Cond.selects "MoonOverTheHill$Moon" ({ cls := "MoonOverTheHill$Moon", name := "highWaterOf", desc := "(I)I" } : Jvm.MethodName) ({ cls := "MoonOverTheHill$Moon", name := "highWaterOf", desc := "(I)I" } : Jvm.MethodName)) ∈ ALL := inT_4 210 rfl rfl
theorem w_989 : (Jvm.Cond.instanceMethod ({ cls := "MoonOverTheHill$Moon", name := "highWaterOf", desc := "(I)I" } : Jvm.MethodName)) ∈ ALL := inT_4 209 rfl rfl
theorem w_988 : (Jvm.Cond.methodLink "MoonOverTheHill$Moon" (174 : Nat) ({ cls := "MoonOverTheHill$Moon", name := "highWaterOf", desc := "(I)I" } : Jvm.MethodName)) ∈ ALL := inT_4 208 rfl rfl
theorem w_219 : (Jvm.Cond.fieldLink "MoonOverTheHill$Places" (9 : Nat) "MoonOverTheHill$Places" "often" "[I") ∈ ALL := inT_1 159 rfl rfl
theorem w_1034 : (Jvm.Cond.methodLink "MoonOverTheHill$Places" (15 : Nat) ({ cls := "java/util/Arrays", name := "fill", desc := "([II)V" } : Jvm.MethodName)) ∈ ALL := inT_5 14 rfl rfl
theorem w_1035 : (Jvm.Cond.methodLink "MoonOverTheHill$Places" (21 : Nat) ({ cls := "MoonOverTheHill$Moon", name := "lastOf", desc := "(II)I" } : Jvm.MethodName)) ∈ ALL := inT_5 15 rfl rfl
theorem w_1036 : (Jvm.Cond.methodLink "MoonOverTheHill$Places" (27 : Nat) ({ cls := "MoonOverTheHill$Moon", name := "degreeOf", desc := "(I)I" } : Jvm.MethodName)) ∈ ALL := inT_5 16 rfl rfl
theorem w_1045 : (Jvm.Cond.methodLink "MoonOverTheHill$Places" (31 : Nat) ({ cls := "java/lang/Math", name := "max", desc := "(II)I" } : Jvm.MethodName)) ∈ ALL := inT_5 25 rfl rfl
theorem w_68 : (Jvm.Cond.initialized "MoonOverTheHill$Places") ∈ ALL := inT_1 8 rfl rfl
theorem w_1043 : (Jvm.Cond.selects "MoonOverTheHill$Places" ({ cls := "MoonOverTheHill$Places", name := "near", desc := "(II)I" } : Jvm.MethodName) ({ cls := "MoonOverTheHill$Places", name := "near", desc := "(II)I" } : Jvm.MethodName)) ∈ ALL := inT_5 23 rfl rfl
theorem w_1042 : (Jvm.Cond.instanceMethod ({ cls := "MoonOverTheHill$Places", name := "near", desc := "(II)I" } : Jvm.MethodName)) ∈ ALL := inT_5 22 rfl rfl
theorem w_1054 : (Jvm.Cond.methodLink "MoonOverTheHill$Places" (36 : Nat) ({ cls := "MoonOverTheHill$Places", name := "near", desc := "(II)I" } : Jvm.MethodName)) ∈ ALL := inT_5 34 rfl rfl
theorem w_1142 : (Jvm.Cond.fieldLink "MoonOverTheHillModel" (37 : Nat) "MoonOverTheHillModel" "refused" "[I") ∈ ALL := inT_5 122 rfl rfl
theorem w_1266 : (Jvm.Cond.constantLong "MoonOverTheHillModel" (61 : Nat) (9999 : Int64)) ∈ ALL := inT_6 6 rfl rfl
theorem w_70 : (Jvm.Cond.initialized "MoonOverTheHillModel") ∈ ALL := inT_1 10 rfl rfl
theorem w_1227 : (Jvm.Cond.static ({ cls := "MoonOverTheHillModel", name := "in", desc := "(JJJ)Z" } : Jvm.MethodName)) ∈ ALL := inT_5 207 rfl rfl
theorem w_1226 : (Jvm.Cond.methodLink "MoonOverTheHillModel" (63 : Nat) ({ cls := "MoonOverTheHillModel", name := "in", desc := "(JJJ)Z" } : Jvm.MethodName)) ∈ ALL := inT_5 206 rfl rfl
theorem w_1264 : (Jvm.Cond.static ({ cls := "MoonOverTheHillModel", name := "isDay", desc := "(J)Z" } : Jvm.MethodName)) ∈ ALL := inT_6 4 rfl rfl
theorem w_1263 : (Jvm.Cond.methodLink "MoonOverTheHillModel" (67 : Nat) ({ cls := "MoonOverTheHillModel", name := "isDay", desc := "(J)Z" } : Jvm.MethodName)) ∈ ALL := inT_6 3 rfl rfl
theorem w_1509 : (Jvm.Cond.constantLong "MoonOverTheHillModel" (71 : Nat) (1000 : Int64)) ∈ ALL := inT_7 9 rfl rfl
theorem w_1225 : (Jvm.Cond.constantLong "MoonOverTheHillModel" (73 : Nat) (7 : Int64)) ∈ ALL := inT_5 205 rfl rfl
theorem w_21 : Cond.selects "MoonOverTheHillModel" (⟨"MoonOverTheHillModel", "refuse", "(I)I"⟩ : MethodName) (⟨"MoonOverTheHillModel", "refuse", "(I)I"⟩ : MethodName) ∈ ALL := inP 21 rfl rfl
theorem w_1233 : (Jvm.Cond.instanceMethod ({ cls := "MoonOverTheHillModel", name := "refuse", desc := "(I)I" } : Jvm.MethodName)) ∈ ALL := inT_5 213 rfl rfl
theorem w_1231 : (Jvm.Cond.methodLink "MoonOverTheHillModel" (79 : Nat) ({ cls := "MoonOverTheHillModel", name := "refuse", desc := "(I)I" } : Jvm.MethodName)) ∈ ALL := inT_5 211 rfl rfl
theorem w_1229 : (Jvm.Cond.constantLong "MoonOverTheHillModel" (75 : Nat) (4 : Int64)) ∈ ALL := inT_5 209 rfl rfl
theorem w_1230 : (Jvm.Cond.constantLong "MoonOverTheHillModel" (77 : Nat) (40 : Int64)) ∈ ALL := inT_5 210 rfl rfl
theorem w_1133 : (Jvm.Cond.fieldLink "MoonOverTheHillModel" (7 : Nat) "MoonOverTheHillModel" "shelf" "[I") ∈ ALL := inT_5 113 rfl rfl
theorem w_1134 : (Jvm.Cond.fieldLink "MoonOverTheHillModel" (13 : Nat) "MoonOverTheHillModel" "rowSort" "[I") ∈ ALL := inT_5 114 rfl rfl
theorem w_1135 : (Jvm.Cond.fieldLink "MoonOverTheHillModel" (16 : Nat) "MoonOverTheHillModel" "rowSize" "[I") ∈ ALL := inT_5 115 rfl rfl
theorem w_1136 : (Jvm.Cond.fieldLink "MoonOverTheHillModel" (21 : Nat) "MoonOverTheHillModel" "rows" "[[J") ∈ ALL := inT_5 116 rfl rfl
theorem w_22 : Cond.selects "MoonOverTheHillModel" (⟨"MoonOverTheHillModel", "noRow", "(I)I"⟩ : MethodName) (⟨"MoonOverTheHillModel", "noRow", "(I)I"⟩ : MethodName) ∈ ALL := inP 22 rfl rfl
theorem w_1241 : (Jvm.Cond.instanceMethod ({ cls := "MoonOverTheHillModel", name := "noRow", desc := "(I)I" } : Jvm.MethodName)) ∈ ALL := inT_5 221 rfl rfl
theorem w_1239 : (Jvm.Cond.methodLink "MoonOverTheHillModel" (83 : Nat) ({ cls := "MoonOverTheHillModel", name := "noRow", desc := "(I)I" } : Jvm.MethodName)) ∈ ALL := inT_5 219 rfl rfl
theorem w_1244 : (Jvm.Cond.static ({ cls := "MoonOverTheHillModel", name := "fit", desc := "(IJ)J" } : Jvm.MethodName)) ∈ ALL := inT_5 224 rfl rfl
theorem w_1243 : (Jvm.Cond.methodLink "MoonOverTheHillModel" (86 : Nat) ({ cls := "MoonOverTheHillModel", name := "fit", desc := "(IJ)J" } : Jvm.MethodName)) ∈ ALL := inT_5 223 rfl rfl
theorem w_1137 : (Jvm.Cond.fieldLink "MoonOverTheHillModel" (24 : Nat) "MoonOverTheHillModel" "moved" "[J") ∈ ALL := inT_5 117 rfl rfl
theorem w_1138 : (Jvm.Cond.fieldLink "MoonOverTheHillModel" (28 : Nat) "MoonOverTheHillModel" "eveKind" "[I") ∈ ALL := inT_5 118 rfl rfl
theorem w_1262 : (Jvm.Cond.constantLong "MoonOverTheHillModel" (90 : Nat) (5 : Int64)) ∈ ALL := inT_6 2 rfl rfl
theorem w_1139 : (Jvm.Cond.fieldLink "MoonOverTheHillModel" (31 : Nat) "MoonOverTheHillModel" "eveDay" "[I") ∈ ALL := inT_5 119 rfl rfl
theorem w_1143 : (Jvm.Cond.fieldLink "MoonOverTheHillModel" (40 : Nat) "MoonOverTheHillModel" "asked" "[I") ∈ ALL := inT_5 123 rfl rfl
theorem w_28 : Cond.selects "MoonOverTheHillModel" (⟨"MoonOverTheHillModel", "out", "(I)I"⟩ : MethodName) (⟨"MoonOverTheHillModel", "out", "(I)I"⟩ : MethodName) ∈ ALL := inP 28 rfl rfl
theorem w_1296 : (Jvm.Cond.instanceMethod ({ cls := "MoonOverTheHillModel", name := "out", desc := "(I)I" } : Jvm.MethodName)) ∈ ALL := inT_6 36 rfl rfl
theorem w_1294 : (Jvm.Cond.methodLink "MoonOverTheHillModel" (102 : Nat) ({ cls := "MoonOverTheHillModel", name := "out", desc := "(I)I" } : Jvm.MethodName)) ∈ ALL := inT_6 34 rfl rfl
theorem w_23 : Cond.selects "MoonOverTheHillModel" (⟨"MoonOverTheHillModel", "age", "(I)I"⟩ : MethodName) (⟨"MoonOverTheHillModel", "age", "(I)I"⟩ : MethodName) ∈ ALL := inP 23 rfl rfl
theorem w_1276 : (Jvm.Cond.instanceMethod ({ cls := "MoonOverTheHillModel", name := "age", desc := "(I)I" } : Jvm.MethodName)) ∈ ALL := inT_6 16 rfl rfl
theorem w_1274 : (Jvm.Cond.methodLink "MoonOverTheHillModel" (96 : Nat) ({ cls := "MoonOverTheHillModel", name := "age", desc := "(I)I" } : Jvm.MethodName)) ∈ ALL := inT_6 14 rfl rfl
theorem w_27 : Cond.selects "MoonOverTheHillModel" (⟨"MoonOverTheHillModel", "slantOf", "(I)I"⟩ : MethodName) (⟨"MoonOverTheHillModel", "slantOf", "(I)I"⟩ : MethodName) ∈ ALL := inP 27 rfl rfl
theorem w_1292 : (Jvm.Cond.instanceMethod ({ cls := "MoonOverTheHillModel", name := "slantOf", desc := "(I)I" } : Jvm.MethodName)) ∈ ALL := inT_6 32 rfl rfl
theorem w_1290 : (Jvm.Cond.methodLink "MoonOverTheHillModel" (227 : Nat) ({ cls := "MoonOverTheHillModel", name := "slantOf", desc := "(I)I" } : Jvm.MethodName)) ∈ ALL := inT_6 30 rfl rfl
theorem w_1299 : (Jvm.Cond.static ({ cls := "MoonOverTheHillModel", name := "mod", desc := "(II)I" } : Jvm.MethodName)) ∈ ALL := inT_6 39 rfl rfl
theorem w_1298 : (Jvm.Cond.methodLink "MoonOverTheHillModel" (230 : Nat) ({ cls := "MoonOverTheHillModel", name := "mod", desc := "(II)I" } : Jvm.MethodName)) ∈ ALL := inT_6 38 rfl rfl
theorem w_1144 : (Jvm.Cond.fieldLink "MoonOverTheHillModel" (116 : Nat) "MoonOverTheHillModel" "notches" "I") ∈ ALL := inT_5 124 rfl rfl
theorem w_1145 : (Jvm.Cond.fieldLink "MoonOverTheHillModel" (45 : Nat) "MoonOverTheHillModel" "notch" "[[I") ∈ ALL := inT_5 125 rfl rfl
theorem w_30 : Cond.selects "MoonOverTheHillModel" (⟨"MoonOverTheHillModel", "way", "(I)I"⟩ : MethodName) (⟨"MoonOverTheHillModel", "way", "(I)I"⟩ : MethodName) ∈ ALL := inP 30 rfl rfl
theorem w_1307 : (Jvm.Cond.instanceMethod ({ cls := "MoonOverTheHillModel", name := "way", desc := "(I)I" } : Jvm.MethodName)) ∈ ALL := inT_6 47 rfl rfl
theorem w_1305 : (Jvm.Cond.methodLink "MoonOverTheHillModel" (239 : Nat) ({ cls := "MoonOverTheHillModel", name := "way", desc := "(I)I" } : Jvm.MethodName)) ∈ ALL := inT_6 45 rfl rfl
theorem w_31 : Cond.selects "MoonOverTheHillModel" (⟨"MoonOverTheHillModel", "lineAt", "(I)I"⟩ : MethodName) (⟨"MoonOverTheHillModel", "lineAt", "(I)I"⟩ : MethodName) ∈ ALL := inP 31 rfl rfl
theorem w_1311 : (Jvm.Cond.instanceMethod ({ cls := "MoonOverTheHillModel", name := "lineAt", desc := "(I)I" } : Jvm.MethodName)) ∈ ALL := inT_6 51 rfl rfl
theorem w_1309 : (Jvm.Cond.methodLink "MoonOverTheHillModel" (236 : Nat) ({ cls := "MoonOverTheHillModel", name := "lineAt", desc := "(I)I" } : Jvm.MethodName)) ∈ ALL := inT_6 49 rfl rfl
theorem w_26 : Cond.selects "MoonOverTheHillModel" (⟨"MoonOverTheHillModel", "rise", "(I)I"⟩ : MethodName) (⟨"MoonOverTheHillModel", "rise", "(I)I"⟩ : MethodName) ∈ ALL := inP 26 rfl rfl
theorem w_1288 : (Jvm.Cond.instanceMethod ({ cls := "MoonOverTheHillModel", name := "rise", desc := "(I)I" } : Jvm.MethodName)) ∈ ALL := inT_6 28 rfl rfl
theorem w_1286 : (Jvm.Cond.methodLink "MoonOverTheHillModel" (242 : Nat) ({ cls := "MoonOverTheHillModel", name := "rise", desc := "(I)I" } : Jvm.MethodName)) ∈ ALL := inT_6 26 rfl rfl
theorem w_29 : Cond.selects "MoonOverTheHillModel" (⟨"MoonOverTheHillModel", "over", "(I)I"⟩ : MethodName) (⟨"MoonOverTheHillModel", "over", "(I)I"⟩ : MethodName) ∈ ALL := inP 29 rfl rfl
theorem w_1303 : (Jvm.Cond.instanceMethod ({ cls := "MoonOverTheHillModel", name := "over", desc := "(I)I" } : Jvm.MethodName)) ∈ ALL := inT_6 43 rfl rfl
theorem w_1301 : (Jvm.Cond.methodLink "MoonOverTheHillModel" (245 : Nat) ({ cls := "MoonOverTheHillModel", name := "over", desc := "(I)I" } : Jvm.MethodName)) ∈ ALL := inT_6 41 rfl rfl
theorem w_25 : Cond.selects "MoonOverTheHillModel" (⟨"MoonOverTheHillModel", "up", "(I)I"⟩ : MethodName) (⟨"MoonOverTheHillModel", "up", "(I)I"⟩ : MethodName) ∈ ALL := inP 25 rfl rfl
theorem w_1284 : (Jvm.Cond.instanceMethod ({ cls := "MoonOverTheHillModel", name := "up", desc := "(I)I" } : Jvm.MethodName)) ∈ ALL := inT_6 24 rfl rfl
theorem w_1282 : (Jvm.Cond.methodLink "MoonOverTheHillModel" (248 : Nat) ({ cls := "MoonOverTheHillModel", name := "up", desc := "(I)I" } : Jvm.MethodName)) ∈ ALL := inT_6 22 rfl rfl
theorem w_24 : Cond.selects "MoonOverTheHillModel" (⟨"MoonOverTheHillModel", "later", "(I)I"⟩ : MethodName) (⟨"MoonOverTheHillModel", "later", "(I)I"⟩ : MethodName) ∈ ALL := inP 24 rfl rfl
theorem w_1280 : (Jvm.Cond.instanceMethod ({ cls := "MoonOverTheHillModel", name := "later", desc := "(I)I" } : Jvm.MethodName)) ∈ ALL := inT_6 20 rfl rfl
theorem w_1278 : (Jvm.Cond.methodLink "MoonOverTheHillModel" (99 : Nat) ({ cls := "MoonOverTheHillModel", name := "later", desc := "(I)I" } : Jvm.MethodName)) ∈ ALL := inT_6 18 rfl rfl
theorem w_32 : Cond.selects "MoonOverTheHillModel" (⟨"MoonOverTheHillModel", "shinesIn", "(III)I"⟩ : MethodName) (⟨"MoonOverTheHillModel", "shinesIn", "(III)I"⟩ : MethodName) ∈ ALL := inP 32 rfl rfl
theorem w_1315 : (Jvm.Cond.instanceMethod ({ cls := "MoonOverTheHillModel", name := "shinesIn", desc := "(III)I" } : Jvm.MethodName)) ∈ ALL := inT_6 55 rfl rfl
theorem w_1313 : (Jvm.Cond.methodLink "MoonOverTheHillModel" (105 : Nat) ({ cls := "MoonOverTheHillModel", name := "shinesIn", desc := "(III)I" } : Jvm.MethodName)) ∈ ALL := inT_6 53 rfl rfl
theorem w_1272 : (Jvm.Cond.static ({ cls := "MoonOverTheHillModel", name := "isUnder", desc := "(II)Z" } : Jvm.MethodName)) ∈ ALL := inT_6 12 rfl rfl
theorem w_1271 : (Jvm.Cond.methodLink "MoonOverTheHillModel" (92 : Nat) ({ cls := "MoonOverTheHillModel", name := "isUnder", desc := "(II)Z" } : Jvm.MethodName)) ∈ ALL := inT_6 11 rfl rfl
theorem w_1325 : (Jvm.Cond.constantLong "MoonOverTheHillModel" (263 : Nat) (1427 : Int64)) ∈ ALL := inT_6 65 rfl rfl
theorem w_1326 : (Jvm.Cond.constantLong "MoonOverTheHillModel" (265 : Nat) (1526 : Int64)) ∈ ALL := inT_6 66 rfl rfl
theorem w_33 : Cond.selects "MoonOverTheHillModel" (⟨"MoonOverTheHillModel", "isOf", "(II)Z"⟩ : MethodName) (⟨"MoonOverTheHillModel", "isOf", "(II)Z"⟩ : MethodName) ∈ ALL := inP 33 rfl rfl
theorem w_1323 : (Jvm.Cond.instanceMethod ({ cls := "MoonOverTheHillModel", name := "isOf", desc := "(II)Z" } : Jvm.MethodName)) ∈ ALL := inT_6 63 rfl rfl
theorem w_1321 : (Jvm.Cond.methodLink "MoonOverTheHillModel" (109 : Nat) ({ cls := "MoonOverTheHillModel", name := "isOf", desc := "(II)Z" } : Jvm.MethodName)) ∈ ALL := inT_6 61 rfl rfl
theorem w_1331 : (Jvm.Cond.constantLong "MoonOverTheHillModel" (112 : Nat) (3 : Int64)) ∈ ALL := inT_6 71 rfl rfl
theorem w_1332 : (Jvm.Cond.constantLong "MoonOverTheHillModel" (114 : Nat) (9 : Int64)) ∈ ALL := inT_6 72 rfl rfl
theorem w_1337 : (Jvm.Cond.constantLong "MoonOverTheHillModel" (119 : Nat) (179 : Int64)) ∈ ALL := inT_6 77 rfl rfl
theorem w_1338 : (Jvm.Cond.constantLong "MoonOverTheHillModel" (121 : Nat) (30 : Int64)) ∈ ALL := inT_6 78 rfl rfl
theorem w_34 : Cond.selects "MoonOverTheHillModel" (⟨"MoonOverTheHillModel", "addNotch", "(III)V"⟩ : MethodName) (⟨"MoonOverTheHillModel", "addNotch", "(III)V"⟩ : MethodName) ∈ ALL := inP 34 rfl rfl
theorem w_1341 : (Jvm.Cond.instanceMethod ({ cls := "MoonOverTheHillModel", name := "addNotch", desc := "(III)V" } : Jvm.MethodName)) ∈ ALL := inT_6 81 rfl rfl
theorem w_1339 : (Jvm.Cond.methodLink "MoonOverTheHillModel" (123 : Nat) ({ cls := "MoonOverTheHillModel", name := "addNotch", desc := "(III)V" } : Jvm.MethodName)) ∈ ALL := inT_6 79 rfl rfl
theorem w_1146 : (Jvm.Cond.fieldLink "MoonOverTheHillModel" (127 : Nat) "MoonOverTheHillModel" "stones" "I") ∈ ALL := inT_5 126 rfl rfl
theorem w_1147 : (Jvm.Cond.fieldLink "MoonOverTheHillModel" (48 : Nat) "MoonOverTheHillModel" "stone" "[I") ∈ ALL := inT_5 127 rfl rfl
theorem w_1148 : (Jvm.Cond.fieldLink "MoonOverTheHillModel" (130 : Nat) "MoonOverTheHillModel" "clouds" "I") ∈ ALL := inT_5 128 rfl rfl
theorem w_1149 : (Jvm.Cond.fieldLink "MoonOverTheHillModel" (51 : Nat) "MoonOverTheHillModel" "cloud" "[I") ∈ ALL := inT_5 129 rfl rfl
theorem w_35 : Cond.selects "MoonOverTheHillModel" (⟨"MoonOverTheHillModel", "isCloud", "(I)Z"⟩ : MethodName) (⟨"MoonOverTheHillModel", "isCloud", "(I)Z"⟩ : MethodName) ∈ ALL := inP 35 rfl rfl
theorem w_1353 : (Jvm.Cond.instanceMethod ({ cls := "MoonOverTheHillModel", name := "isCloud", desc := "(I)Z" } : Jvm.MethodName)) ∈ ALL := inT_6 93 rfl rfl
theorem w_1351 : (Jvm.Cond.methodLink "MoonOverTheHillModel" (133 : Nat) ({ cls := "MoonOverTheHillModel", name := "isCloud", desc := "(I)Z" } : Jvm.MethodName)) ∈ ALL := inT_6 91 rfl rfl
theorem w_1359 : (Jvm.Cond.constantLong "MoonOverTheHillModel" (137 : Nat) (2 : Int64)) ∈ ALL := inT_6 99 rfl rfl
theorem w_1364 : (Jvm.Cond.constantLong "MoonOverTheHillModel" (139 : Nat) (255 : Int64)) ∈ ALL := inT_6 104 rfl rfl
theorem w_1141 : (Jvm.Cond.fieldLink "MoonOverTheHillModel" (141 : Nat) "MoonOverTheHillModel" "tapeSize" "I") ∈ ALL := inT_5 121 rfl rfl
theorem w_1140 : (Jvm.Cond.fieldLink "MoonOverTheHillModel" (34 : Nat) "MoonOverTheHillModel" "tape" "[I") ∈ ALL := inT_5 120 rfl rfl
theorem w_1155 : (Jvm.Cond.fieldLink "MoonOverTheHillModel" (144 : Nat) "MoonOverTheHillModel" "at" "I") ∈ ALL := inT_5 135 rfl rfl
theorem w_1157 : (Jvm.Cond.fieldLink "MoonOverTheHillModel" (147 : Nat) "MoonOverTheHillModel" "from" "I") ∈ ALL := inT_5 137 rfl rfl
theorem w_1158 : (Jvm.Cond.fieldLink "MoonOverTheHillModel" (150 : Nat) "MoonOverTheHillModel" "figures" "I") ∈ ALL := inT_5 138 rfl rfl
theorem w_1391 : (Jvm.Cond.static ({ cls := "MoonOverTheHillModel", name := "isLetter", desc := "(I)Z" } : Jvm.MethodName)) ∈ ALL := inT_6 131 rfl rfl
theorem w_1390 : (Jvm.Cond.methodLink "MoonOverTheHillModel" (156 : Nat) ({ cls := "MoonOverTheHillModel", name := "isLetter", desc := "(I)Z" } : Jvm.MethodName)) ∈ ALL := inT_6 130 rfl rfl
theorem w_1394 : (Jvm.Cond.static ({ cls := "MoonOverTheHillModel", name := "isDigit", desc := "(I)Z" } : Jvm.MethodName)) ∈ ALL := inT_6 134 rfl rfl
theorem w_1393 : (Jvm.Cond.methodLink "MoonOverTheHillModel" (159 : Nat) ({ cls := "MoonOverTheHillModel", name := "isDigit", desc := "(I)Z" } : Jvm.MethodName)) ∈ ALL := inT_6 133 rfl rfl
theorem w_1156 : (Jvm.Cond.fieldLink "MoonOverTheHillModel" (153 : Nat) "MoonOverTheHillModel" "token" "I") ∈ ALL := inT_5 136 rfl rfl
theorem w_1396 : (Jvm.Cond.constant "MoonOverTheHillModel" (162 : Nat) (100000 : Int32)) ∈ ALL := inT_6 136 rfl rfl
theorem w_1159 : (Jvm.Cond.fieldLink "MoonOverTheHillModel" (163 : Nat) "MoonOverTheHillModel" "fault" "I") ∈ ALL := inT_5 139 rfl rfl
theorem w_676 : (Jvm.Cond.selects "java/lang/String" ({ cls := "java/lang/String", name := "length", desc := "()I" } : Jvm.MethodName) ({ cls := "java/lang/String", name := "length", desc := "()I" } : Jvm.MethodName)) ∈ ALL := inT_3 136 rfl rfl
theorem w_675 : (Jvm.Cond.instanceMethod ({ cls := "java/lang/String", name := "length", desc := "()I" } : Jvm.MethodName)) ∈ ALL := inT_3 135 rfl rfl
theorem w_1406 : (Jvm.Cond.methodLink "MoonOverTheHillModel" (166 : Nat) ({ cls := "java/lang/String", name := "length", desc := "()I" } : Jvm.MethodName)) ∈ ALL := inT_6 146 rfl rfl
theorem w_686 : (Jvm.Cond.selects "java/lang/String" ({ cls := "java/lang/String", name := "charAt", desc := "(I)C" } : Jvm.MethodName) ({ cls := "java/lang/String", name := "charAt", desc := "(I)C" } : Jvm.MethodName)) ∈ ALL := inT_3 146 rfl rfl
theorem w_685 : (Jvm.Cond.instanceMethod ({ cls := "java/lang/String", name := "charAt", desc := "(I)C" } : Jvm.MethodName)) ∈ ALL := inT_3 145 rfl rfl
theorem w_1407 : (Jvm.Cond.methodLink "MoonOverTheHillModel" (172 : Nat) ({ cls := "java/lang/String", name := "charAt", desc := "(I)C" } : Jvm.MethodName)) ∈ ALL := inT_6 147 rfl rfl
theorem w_44 : Cond.selects "MoonOverTheHillModel" (⟨"MoonOverTheHillModel", "wrong", "()Z"⟩ : MethodName) (⟨"MoonOverTheHillModel", "wrong", "()Z"⟩ : MethodName) ∈ ALL := inP 44 rfl rfl
theorem w_1422 : (Jvm.Cond.instanceMethod ({ cls := "MoonOverTheHillModel", name := "wrong", desc := "()Z" } : Jvm.MethodName)) ∈ ALL := inT_6 162 rfl rfl
theorem w_1420 : (Jvm.Cond.methodLink "MoonOverTheHillModel" (176 : Nat) ({ cls := "MoonOverTheHillModel", name := "wrong", desc := "()Z" } : Jvm.MethodName)) ∈ ALL := inT_6 160 rfl rfl
theorem w_1160 : (Jvm.Cond.fieldLink "MoonOverTheHillModel" (58 : Nat) "MoonOverTheHillModel" "told" "[I") ∈ ALL := inT_5 140 rfl rfl
theorem w_38 : Cond.selects "MoonOverTheHillModel" (⟨"MoonOverTheHillModel", "look", "()V"⟩ : MethodName) (⟨"MoonOverTheHillModel", "look", "()V"⟩ : MethodName) ∈ ALL := inP 38 rfl rfl
theorem w_1388 : (Jvm.Cond.instanceMethod ({ cls := "MoonOverTheHillModel", name := "look", desc := "()V" } : Jvm.MethodName)) ∈ ALL := inT_6 128 rfl rfl
theorem w_1386 : (Jvm.Cond.methodLink "MoonOverTheHillModel" (180 : Nat) ({ cls := "MoonOverTheHillModel", name := "look", desc := "()V" } : Jvm.MethodName)) ∈ ALL := inT_6 126 rfl rfl
theorem w_43 : Cond.selects "MoonOverTheHillModel" (⟨"MoonOverTheHillModel", "number", "(III)Z"⟩ : MethodName) (⟨"MoonOverTheHillModel", "number", "(III)Z"⟩ : MethodName) ∈ ALL := inP 43 rfl rfl
theorem w_1418 : (Jvm.Cond.instanceMethod ({ cls := "MoonOverTheHillModel", name := "number", desc := "(III)Z" } : Jvm.MethodName)) ∈ ALL := inT_6 158 rfl rfl
theorem w_1416 : (Jvm.Cond.methodLink "MoonOverTheHillModel" (183 : Nat) ({ cls := "MoonOverTheHillModel", name := "number", desc := "(III)Z" } : Jvm.MethodName)) ∈ ALL := inT_6 156 rfl rfl
theorem w_42 : Cond.selects "MoonOverTheHillModel" (⟨"MoonOverTheHillModel", "tells", "(I)Z"⟩ : MethodName) (⟨"MoonOverTheHillModel", "tells", "(I)Z"⟩ : MethodName) ∈ ALL := inP 42 rfl rfl
theorem w_1414 : (Jvm.Cond.instanceMethod ({ cls := "MoonOverTheHillModel", name := "tells", desc := "(I)Z" } : Jvm.MethodName)) ∈ ALL := inT_6 154 rfl rfl
theorem w_1412 : (Jvm.Cond.methodLink "MoonOverTheHillModel" (187 : Nat) ({ cls := "MoonOverTheHillModel", name := "tells", desc := "(I)Z" } : Jvm.MethodName)) ∈ ALL := inT_6 152 rfl rfl
theorem w_40 : Cond.selects "MoonOverTheHillModel" (⟨"MoonOverTheHillModel", "isWord", "(Ljava/lang/String;)Z"⟩ : MethodName) (⟨"MoonOverTheHillModel", "isWord", "(Ljava/lang/String;)Z"⟩ : MethodName) ∈ ALL := inP 40 rfl rfl
theorem w_1404 : (Jvm.Cond.instanceMethod ({ cls := "MoonOverTheHillModel", name := "isWord", desc := "(Ljava/lang/String;)Z" } : Jvm.MethodName)) ∈ ALL := inT_6 144 rfl rfl
theorem w_1402 : (Jvm.Cond.methodLink "MoonOverTheHillModel" (192 : Nat) ({ cls := "MoonOverTheHillModel", name := "isWord", desc := "(Ljava/lang/String;)Z" } : Jvm.MethodName)) ∈ ALL := inT_6 142 rfl rfl
theorem w_45 : Cond.selects "MoonOverTheHillModel" (⟨"MoonOverTheHillModel", "cloudTold", "()Z"⟩ : MethodName) (⟨"MoonOverTheHillModel", "cloudTold", "()Z"⟩ : MethodName) ∈ ALL := inP 45 rfl rfl
theorem w_1431 : (Jvm.Cond.instanceMethod ({ cls := "MoonOverTheHillModel", name := "cloudTold", desc := "()Z" } : Jvm.MethodName)) ∈ ALL := inT_6 171 rfl rfl
theorem w_1429 : (Jvm.Cond.methodLink "MoonOverTheHillModel" (206 : Nat) ({ cls := "MoonOverTheHillModel", name := "cloudTold", desc := "()Z" } : Jvm.MethodName)) ∈ ALL := inT_6 169 rfl rfl
theorem w_41 : Cond.selects "MoonOverTheHillModel" (⟨"MoonOverTheHillModel", "askedTold", "(I)Z"⟩ : MethodName) (⟨"MoonOverTheHillModel", "askedTold", "(I)Z"⟩ : MethodName) ∈ ALL := inP 41 rfl rfl
theorem w_1410 : (Jvm.Cond.instanceMethod ({ cls := "MoonOverTheHillModel", name := "askedTold", desc := "(I)Z" } : Jvm.MethodName)) ∈ ALL := inT_6 150 rfl rfl
theorem w_1408 : (Jvm.Cond.methodLink "MoonOverTheHillModel" (196 : Nat) ({ cls := "MoonOverTheHillModel", name := "askedTold", desc := "(I)Z" } : Jvm.MethodName)) ∈ ALL := inT_6 148 rfl rfl
theorem w_1161 : (Jvm.Cond.fieldLink "MoonOverTheHillModel" (209 : Nat) "MoonOverTheHillModel" "statements" "I") ∈ ALL := inT_5 141 rfl rfl
theorem w_39 : Cond.selects "MoonOverTheHillModel" (⟨"MoonOverTheHillModel", "statement", "()Z"⟩ : MethodName) (⟨"MoonOverTheHillModel", "statement", "()Z"⟩ : MethodName) ∈ ALL := inP 39 rfl rfl
theorem w_1399 : (Jvm.Cond.instanceMethod ({ cls := "MoonOverTheHillModel", name := "statement", desc := "()Z" } : Jvm.MethodName)) ∈ ALL := inT_6 139 rfl rfl
theorem w_1397 : (Jvm.Cond.methodLink "MoonOverTheHillModel" (212 : Nat) ({ cls := "MoonOverTheHillModel", name := "statement", desc := "()Z" } : Jvm.MethodName)) ∈ ALL := inT_6 137 rfl rfl
theorem w_1380 : (Jvm.Cond.static ({ cls := "MoonOverTheHillModel", name := "copyAll", desc := "([I[I)V" } : Jvm.MethodName)) ∈ ALL := inT_6 120 rfl rfl
theorem w_1379 : (Jvm.Cond.methodLink "MoonOverTheHillModel" (345 : Nat) ({ cls := "MoonOverTheHillModel", name := "copyAll", desc := "([I[I)V" } : Jvm.MethodName)) ∈ ALL := inT_6 119 rfl rfl
theorem w_1150 : (Jvm.Cond.fieldLink "MoonOverTheHillModel" (339 : Nat) "MoonOverTheHillModel" "today" "I") ∈ ALL := inT_5 130 rfl rfl
theorem w_1151 : (Jvm.Cond.fieldLink "MoonOverTheHillModel" (336 : Nat) "MoonOverTheHillModel" "looks" "I") ∈ ALL := inT_5 131 rfl rfl
theorem w_1152 : (Jvm.Cond.fieldLink "MoonOverTheHillModel" (54 : Nat) "MoonOverTheHillModel" "seed" "I") ∈ ALL := inT_5 132 rfl rfl
theorem w_1154 : (Jvm.Cond.fieldLink "MoonOverTheHillModel" (215 : Nat) "MoonOverTheHillModel" "tried" "LMoonOverTheHillModel;") ∈ ALL := inT_5 134 rfl rfl
theorem w_1445 : (Jvm.Cond.constantLong "MoonOverTheHillModel" (234 : Nat) (999 : Int64)) ∈ ALL := inT_6 185 rfl rfl
theorem w_1450 : (Jvm.Cond.constantLong "MoonOverTheHillModel" (251 : Nat) (8 : Int64)) ∈ ALL := inT_6 190 rfl rfl
theorem w_46 : Cond.selects "MoonOverTheHillModel" (⟨"MoonOverTheHillModel", "lit", "(I)I"⟩ : MethodName) (⟨"MoonOverTheHillModel", "lit", "(I)I"⟩ : MethodName) ∈ ALL := inP 46 rfl rfl
theorem w_1453 : (Jvm.Cond.instanceMethod ({ cls := "MoonOverTheHillModel", name := "lit", desc := "(I)I" } : Jvm.MethodName)) ∈ ALL := inT_6 193 rfl rfl
theorem w_1451 : (Jvm.Cond.methodLink "MoonOverTheHillModel" (253 : Nat) ({ cls := "MoonOverTheHillModel", name := "lit", desc := "(I)I" } : Jvm.MethodName)) ∈ ALL := inT_6 191 rfl rfl
theorem w_47 : Cond.selects "MoonOverTheHillModel" (⟨"MoonOverTheHillModel", "degreeUp", "(I)I"⟩ : MethodName) (⟨"MoonOverTheHillModel", "degreeUp", "(I)I"⟩ : MethodName) ∈ ALL := inP 47 rfl rfl
theorem w_1457 : (Jvm.Cond.instanceMethod ({ cls := "MoonOverTheHillModel", name := "degreeUp", desc := "(I)I" } : Jvm.MethodName)) ∈ ALL := inT_6 197 rfl rfl
theorem w_1455 : (Jvm.Cond.methodLink "MoonOverTheHillModel" (256 : Nat) ({ cls := "MoonOverTheHillModel", name := "degreeUp", desc := "(I)I" } : Jvm.MethodName)) ∈ ALL := inT_6 195 rfl rfl
theorem w_1463 : (Jvm.Cond.constant "MoonOverTheHillModel" (259 : Nat) (-1000000 : Int32)) ∈ ALL := inT_6 203 rfl rfl
theorem w_48 : Cond.selects "MoonOverTheHillModel" (⟨"MoonOverTheHillModel", "behindOf", "(I)I"⟩ : MethodName) (⟨"MoonOverTheHillModel", "behindOf", "(I)I"⟩ : MethodName) ∈ ALL := inP 48 rfl rfl
theorem w_1470 : (Jvm.Cond.instanceMethod ({ cls := "MoonOverTheHillModel", name := "behindOf", desc := "(I)I" } : Jvm.MethodName)) ∈ ALL := inT_6 210 rfl rfl
theorem w_1468 : (Jvm.Cond.methodLink "MoonOverTheHillModel" (260 : Nat) ({ cls := "MoonOverTheHillModel", name := "behindOf", desc := "(I)I" } : Jvm.MethodName)) ∈ ALL := inT_6 208 rfl rfl
theorem w_1481 : (Jvm.Cond.static ({ cls := "MoonOverTheHillModel", name := "areMinutes", desc := "(II)Z" } : Jvm.MethodName)) ∈ ALL := inT_6 221 rfl rfl
theorem w_1480 : (Jvm.Cond.methodLink "MoonOverTheHillModel" (267 : Nat) ({ cls := "MoonOverTheHillModel", name := "areMinutes", desc := "(II)Z" } : Jvm.MethodName)) ∈ ALL := inT_6 220 rfl rfl
theorem w_49 : Cond.selects "MoonOverTheHillModel" (⟨"MoonOverTheHillModel", "lightIn", "(III)I"⟩ : MethodName) (⟨"MoonOverTheHillModel", "lightIn", "(III)I"⟩ : MethodName) ∈ ALL := inP 49 rfl rfl
theorem w_1489 : (Jvm.Cond.instanceMethod ({ cls := "MoonOverTheHillModel", name := "lightIn", desc := "(III)I" } : Jvm.MethodName)) ∈ ALL := inT_6 229 rfl rfl
theorem w_1487 : (Jvm.Cond.methodLink "MoonOverTheHillModel" (270 : Nat) ({ cls := "MoonOverTheHillModel", name := "lightIn", desc := "(III)I" } : Jvm.MethodName)) ∈ ALL := inT_6 227 rfl rfl
theorem w_1500 : (Jvm.Cond.static ({ cls := "MoonOverTheHillModel", name := "lastOf", desc := "(II)I" } : Jvm.MethodName)) ∈ ALL := inT_7 0 rfl rfl
theorem w_1499 : (Jvm.Cond.methodLink "MoonOverTheHillModel" (273 : Nat) ({ cls := "MoonOverTheHillModel", name := "lastOf", desc := "(II)I" } : Jvm.MethodName)) ∈ ALL := inT_6 239 rfl rfl
theorem w_1507 : (Jvm.Cond.static ({ cls := "MoonOverTheHillModel", name := "areDays", desc := "(II)Z" } : Jvm.MethodName)) ∈ ALL := inT_7 7 rfl rfl
theorem w_1506 : (Jvm.Cond.methodLink "MoonOverTheHillModel" (276 : Nat) ({ cls := "MoonOverTheHillModel", name := "areDays", desc := "(II)Z" } : Jvm.MethodName)) ∈ ALL := inT_7 6 rfl rfl
theorem w_50 : Cond.selects "MoonOverTheHillModel" (⟨"MoonOverTheHillModel", "tellsOf", "(III)I"⟩ : MethodName) (⟨"MoonOverTheHillModel", "tellsOf", "(III)I"⟩ : MethodName) ∈ ALL := inP 50 rfl rfl
theorem w_1524 : (Jvm.Cond.instanceMethod ({ cls := "MoonOverTheHillModel", name := "tellsOf", desc := "(III)I" } : Jvm.MethodName)) ∈ ALL := inT_7 24 rfl rfl
theorem w_1522 : (Jvm.Cond.methodLink "MoonOverTheHillModel" (279 : Nat) ({ cls := "MoonOverTheHillModel", name := "tellsOf", desc := "(III)I" } : Jvm.MethodName)) ∈ ALL := inT_7 22 rfl rfl
theorem w_1530 : (Jvm.Cond.constantLong "MoonOverTheHillModel" (282 : Nat) (1440 : Int64)) ∈ ALL := inT_7 30 rfl rfl
theorem w_1539 : (Jvm.Cond.constantLong "MoonOverTheHillModel" (284 : Nat) (9991 : Int64)) ∈ ALL := inT_7 39 rfl rfl
theorem w_51 : Cond.selects "MoonOverTheHillModel" (⟨"MoonOverTheHillModel", "sizeOf", "(I)I"⟩ : MethodName) (⟨"MoonOverTheHillModel", "sizeOf", "(I)I"⟩ : MethodName) ∈ ALL := inP 51 rfl rfl
theorem w_1550 : (Jvm.Cond.instanceMethod ({ cls := "MoonOverTheHillModel", name := "sizeOf", desc := "(I)I" } : Jvm.MethodName)) ∈ ALL := inT_7 50 rfl rfl
theorem w_1548 : (Jvm.Cond.methodLink "MoonOverTheHillModel" (286 : Nat) ({ cls := "MoonOverTheHillModel", name := "sizeOf", desc := "(I)I" } : Jvm.MethodName)) ∈ ALL := inT_7 48 rfl rfl
theorem w_1560 : (Jvm.Cond.constantLong "MoonOverTheHillModel" (289 : Nat) (1439 : Int64)) ∈ ALL := inT_7 60 rfl rfl
theorem w_52 : Cond.selects "MoonOverTheHillModel" (⟨"MoonOverTheHillModel", "isPicture", "([JI)Z"⟩ : MethodName) (⟨"MoonOverTheHillModel", "isPicture", "([JI)Z"⟩ : MethodName) ∈ ALL := inP 52 rfl rfl
theorem w_1567 : (Jvm.Cond.instanceMethod ({ cls := "MoonOverTheHillModel", name := "isPicture", desc := "([JI)Z" } : Jvm.MethodName)) ∈ ALL := inT_7 67 rfl rfl
theorem w_1565 : (Jvm.Cond.methodLink "MoonOverTheHillModel" (291 : Nat) ({ cls := "MoonOverTheHillModel", name := "isPicture", desc := "([JI)Z" } : Jvm.MethodName)) ∈ ALL := inT_7 65 rfl rfl
theorem w_1573 : (Jvm.Cond.constantLong "MoonOverTheHillModel" (295 : Nat) (50 : Int64)) ∈ ALL := inT_7 73 rfl rfl
theorem w_1574 : (Jvm.Cond.constantLong "MoonOverTheHillModel" (297 : Nat) (1476 : Int64)) ∈ ALL := inT_7 74 rfl rfl
theorem w_1587 : (Jvm.Cond.constantLong "MoonOverTheHillModel" (299 : Nat) (100 : Int64)) ∈ ALL := inT_7 87 rfl rfl
theorem w_1588 : (Jvm.Cond.constantLong "MoonOverTheHillModel" (301 : Nat) (400 : Int64)) ∈ ALL := inT_7 88 rfl rfl
theorem w_53 : Cond.selects "MoonOverTheHillModel" (⟨"MoonOverTheHillModel", "noWitnesses", "(II)I"⟩ : MethodName) (⟨"MoonOverTheHillModel", "noWitnesses", "(II)I"⟩ : MethodName) ∈ ALL := inP 53 rfl rfl
theorem w_1581 : (Jvm.Cond.instanceMethod ({ cls := "MoonOverTheHillModel", name := "noWitnesses", desc := "(II)I" } : Jvm.MethodName)) ∈ ALL := inT_7 81 rfl rfl
theorem w_1579 : (Jvm.Cond.methodLink "MoonOverTheHillModel" (303 : Nat) ({ cls := "MoonOverTheHillModel", name := "noWitnesses", desc := "(II)I" } : Jvm.MethodName)) ∈ ALL := inT_7 79 rfl rfl
theorem w_54 : Cond.selects "MoonOverTheHillModel" (⟨"MoonOverTheHillModel", "canBe", "(J)Z"⟩ : MethodName) (⟨"MoonOverTheHillModel", "canBe", "(J)Z"⟩ : MethodName) ∈ ALL := inP 54 rfl rfl
theorem w_1585 : (Jvm.Cond.instanceMethod ({ cls := "MoonOverTheHillModel", name := "canBe", desc := "(J)Z" } : Jvm.MethodName)) ∈ ALL := inT_7 85 rfl rfl
theorem w_1583 : (Jvm.Cond.methodLink "MoonOverTheHillModel" (306 : Nat) ({ cls := "MoonOverTheHillModel", name := "canBe", desc := "(J)Z" } : Jvm.MethodName)) ∈ ALL := inT_7 83 rfl rfl
theorem w_55 : Cond.selects "MoonOverTheHillModel" (⟨"MoonOverTheHillModel", "highOf", "(I)I"⟩ : MethodName) (⟨"MoonOverTheHillModel", "highOf", "(I)I"⟩ : MethodName) ∈ ALL := inP 55 rfl rfl
theorem w_1611 : (Jvm.Cond.instanceMethod ({ cls := "MoonOverTheHillModel", name := "highOf", desc := "(I)I" } : Jvm.MethodName)) ∈ ALL := inT_7 111 rfl rfl
theorem w_1609 : (Jvm.Cond.methodLink "MoonOverTheHillModel" (309 : Nat) ({ cls := "MoonOverTheHillModel", name := "highOf", desc := "(I)I" } : Jvm.MethodName)) ∈ ALL := inT_7 109 rfl rfl
theorem w_1621 : (Jvm.Cond.constantLong "MoonOverTheHillModel" (312 : Nat) (29 : Int64)) ∈ ALL := inT_7 121 rfl rfl
theorem w_1622 : (Jvm.Cond.constantLong "MoonOverTheHillModel" (314 : Nat) (88 : Int64)) ∈ ALL := inT_7 122 rfl rfl
theorem w_1623 : (Jvm.Cond.constantLong "MoonOverTheHillModel" (316 : Nat) (89 : Int64)) ∈ ALL := inT_7 123 rfl rfl
theorem w_1631 : (Jvm.Cond.constantLong "MoonOverTheHillModel" (318 : Nat) (20 : Int64)) ∈ ALL := inT_7 131 rfl rfl
theorem w_1629 : (Jvm.Cond.static ({ cls := "MoonOverTheHillModel", name := "isNear", desc := "(I)Z" } : Jvm.MethodName)) ∈ ALL := inT_7 129 rfl rfl
theorem w_1628 : (Jvm.Cond.methodLink "MoonOverTheHillModel" (320 : Nat) ({ cls := "MoonOverTheHillModel", name := "isNear", desc := "(I)Z" } : Jvm.MethodName)) ∈ ALL := inT_7 128 rfl rfl
theorem w_56 : Cond.selects "MoonOverTheHillModel" (⟨"MoonOverTheHillModel", "isHit", "(IIII)Z"⟩ : MethodName) (⟨"MoonOverTheHillModel", "isHit", "(IIII)Z"⟩ : MethodName) ∈ ALL := inP 56 rfl rfl
theorem w_1634 : (Jvm.Cond.instanceMethod ({ cls := "MoonOverTheHillModel", name := "isHit", desc := "(IIII)Z" } : Jvm.MethodName)) ∈ ALL := inT_7 134 rfl rfl
theorem w_1632 : (Jvm.Cond.methodLink "MoonOverTheHillModel" (323 : Nat) ({ cls := "MoonOverTheHillModel", name := "isHit", desc := "(IIII)Z" } : Jvm.MethodName)) ∈ ALL := inT_7 132 rfl rfl
theorem w_1644 : (Jvm.Cond.arrayClass Jvm.ClassFile.FieldType.boolean) ∈ ALL := inT_7 144 rfl rfl
theorem w_57 : Cond.selects "MoonOverTheHillModel" (⟨"MoonOverTheHillModel", "chanceOf", "(III)I"⟩ : MethodName) (⟨"MoonOverTheHillModel", "chanceOf", "(III)I"⟩ : MethodName) ∈ ALL := inP 57 rfl rfl
theorem w_1642 : (Jvm.Cond.instanceMethod ({ cls := "MoonOverTheHillModel", name := "chanceOf", desc := "(III)I" } : Jvm.MethodName)) ∈ ALL := inT_7 142 rfl rfl
theorem w_1640 : (Jvm.Cond.methodLink "MoonOverTheHillModel" (327 : Nat) ({ cls := "MoonOverTheHillModel", name := "chanceOf", desc := "(III)I" } : Jvm.MethodName)) ∈ ALL := inT_7 140 rfl rfl
theorem w_115 : (Jvm.Cond.arrayClass Jvm.ClassFile.FieldType.int) ∈ ALL := inT_1 55 rfl rfl
theorem w_1661 : (Jvm.Cond.constantLong "MoonOverTheHillModel" (330 : Nat) (2952 : Int64)) ∈ ALL := inT_7 161 rfl rfl
theorem w_1674 : (Jvm.Cond.constant "MoonOverTheHillModel" (332 : Nat) (1103515245 : Int32)) ∈ ALL := inT_7 174 rfl rfl
theorem w_59 : Cond.selects "MoonOverTheHillModel" (⟨"MoonOverTheHillModel", "below", "(I)I"⟩ : MethodName) (⟨"MoonOverTheHillModel", "below", "(I)I"⟩ : MethodName) ∈ ALL := inP 59 rfl rfl
theorem w_1672 : (Jvm.Cond.instanceMethod ({ cls := "MoonOverTheHillModel", name := "below", desc := "(I)I" } : Jvm.MethodName)) ∈ ALL := inT_7 172 rfl rfl
theorem w_1670 : (Jvm.Cond.methodLink "MoonOverTheHillModel" (333 : Nat) ({ cls := "MoonOverTheHillModel", name := "below", desc := "(I)I" } : Jvm.MethodName)) ∈ ALL := inT_7 170 rfl rfl
theorem w_58 : Cond.selects "MoonOverTheHillModel" (⟨"MoonOverTheHillModel", "goesBy", "()I"⟩ : MethodName) (⟨"MoonOverTheHillModel", "goesBy", "()I"⟩ : MethodName) ∈ ALL := inP 58 rfl rfl
theorem w_1668 : (Jvm.Cond.instanceMethod ({ cls := "MoonOverTheHillModel", name := "goesBy", desc := "()I" } : Jvm.MethodName)) ∈ ALL := inT_7 168 rfl rfl
theorem w_1666 : (Jvm.Cond.methodLink "MoonOverTheHillModel" (342 : Nat) ({ cls := "MoonOverTheHillModel", name := "goesBy", desc := "()I" } : Jvm.MethodName)) ∈ ALL := inT_7 166 rfl rfl
theorem w_1153 : (Jvm.Cond.fieldLink "MoonOverTheHillModel" (349 : Nat) "MoonOverTheHillModel" "kept" "LMoonOverTheHillModel;") ∈ ALL := inT_5 133 rfl rfl
theorem w_1695 : (Jvm.Cond.constantLong "MoonOverTheHillModel" (352 : Nat) (12 : Int64)) ∈ ALL := inT_7 195 rfl rfl
theorem w_1696 : (Jvm.Cond.constantLong "MoonOverTheHillModel" (354 : Nat) (16 : Int64)) ∈ ALL := inT_7 196 rfl rfl
theorem w_195 : (Jvm.Cond.fieldLink "MoonOverTheHill$Tape" (15 : Nat) "MoonOverTheHill$Tape" "size" "I") ∈ ALL := inT_1 135 rfl rfl
theorem w_194 : (Jvm.Cond.fieldLink "MoonOverTheHill$Tape" (11 : Nat) "MoonOverTheHill$Tape" "bytes" "[I") ∈ ALL := inT_1 134 rfl rfl
theorem w_197 : (Jvm.Cond.fieldLink "MoonOverTheHill$Tape" (19 : Nat) "MoonOverTheHill$Tape" "start" "I") ∈ ALL := inT_1 137 rfl rfl
theorem w_198 : (Jvm.Cond.fieldLink "MoonOverTheHill$Tape" (22 : Nat) "MoonOverTheHill$Tape" "end" "I") ∈ ALL := inT_1 138 rfl rfl
theorem w_67 : (Jvm.Cond.initialized "MoonOverTheHill$Tape") ∈ ALL := inT_1 7 rfl rfl
theorem w_4 : Cond.selects "MoonOverTheHill$Tape" (⟨"MoonOverTheHill$Tape", "byteAt", "(I)I"⟩ : MethodName) (⟨"MoonOverTheHill$Tape", "byteAt", "(I)I"⟩ : MethodName) ∈ ALL := inP 4 rfl rfl
theorem w_659 : (Jvm.Cond.instanceMethod ({ cls := "MoonOverTheHill$Tape", name := "byteAt", desc := "(I)I" } : Jvm.MethodName)) ∈ ALL := inT_3 119 rfl rfl
theorem w_657 : (Jvm.Cond.methodLink "MoonOverTheHill$Tape" (35 : Nat) ({ cls := "MoonOverTheHill$Tape", name := "byteAt", desc := "(I)I" } : Jvm.MethodName)) ∈ ALL := inT_3 117 rfl rfl
theorem w_662 : (Jvm.Cond.static ({ cls := "MoonOverTheHill$Tape", name := "tokenOf", desc := "(I)I" } : Jvm.MethodName)) ∈ ALL := inT_3 122 rfl rfl
theorem w_661 : (Jvm.Cond.methodLink "MoonOverTheHill$Tape" (39 : Nat) ({ cls := "MoonOverTheHill$Tape", name := "tokenOf", desc := "(I)I" } : Jvm.MethodName)) ∈ ALL := inT_3 121 rfl rfl
theorem w_196 : (Jvm.Cond.fieldLink "MoonOverTheHill$Tape" (32 : Nat) "MoonOverTheHill$Tape" "token" "I") ∈ ALL := inT_1 136 rfl rfl
theorem w_664 : (Jvm.Cond.methodLink "MoonOverTheHill$Tape" (42 : Nat) ({ cls := "java/lang/Math", name := "min", desc := "(II)I" } : Jvm.MethodName)) ∈ ALL := inT_3 124 rfl rfl
theorem w_674 : (Jvm.Cond.methodLink "MoonOverTheHill$Tape" (48 : Nat) ({ cls := "java/lang/String", name := "length", desc := "()I" } : Jvm.MethodName)) ∈ ALL := inT_3 134 rfl rfl
theorem w_684 : (Jvm.Cond.methodLink "MoonOverTheHill$Tape" (54 : Nat) ({ cls := "java/lang/String", name := "charAt", desc := "(I)C" } : Jvm.MethodName)) ∈ ALL := inT_3 144 rfl rfl
theorem w_3 : Cond.selects "MoonOverTheHill$Tape" (⟨"MoonOverTheHill$Tape", "step", "()V"⟩ : MethodName) (⟨"MoonOverTheHill$Tape", "step", "()V"⟩ : MethodName) ∈ ALL := inP 3 rfl rfl
theorem w_655 : (Jvm.Cond.instanceMethod ({ cls := "MoonOverTheHill$Tape", name := "step", desc := "()V" } : Jvm.MethodName)) ∈ ALL := inT_3 115 rfl rfl
theorem w_653 : (Jvm.Cond.methodLink "MoonOverTheHill$Tape" (25 : Nat) ({ cls := "MoonOverTheHill$Tape", name := "step", desc := "()V" } : Jvm.MethodName)) ∈ ALL := inT_3 113 rfl rfl
theorem w_199 : (Jvm.Cond.fieldLink "MoonOverTheHill$Tape" (102 : Nat) "MoonOverTheHill$Tape" "value" "I") ∈ ALL := inT_1 139 rfl rfl
theorem w_8 : Cond.selects "MoonOverTheHill$Tape" (⟨"MoonOverTheHill$Tape", "takeNumber", "(II)Z"⟩ : MethodName) (⟨"MoonOverTheHill$Tape", "takeNumber", "(II)Z"⟩ : MethodName) ∈ ALL := inP 8 rfl rfl
theorem w_728 : (Jvm.Cond.instanceMethod ({ cls := "MoonOverTheHill$Tape", name := "takeNumber", desc := "(II)Z" } : Jvm.MethodName)) ∈ ALL := inT_3 188 rfl rfl
theorem w_726 : (Jvm.Cond.methodLink "MoonOverTheHill$Tape" (109 : Nat) ({ cls := "MoonOverTheHill$Tape", name := "takeNumber", desc := "(II)Z" } : Jvm.MethodName)) ∈ ALL := inT_3 186 rfl rfl
theorem w_62 : (Jvm.Cond.initialized "MoonOverTheHill$State") ∈ ALL := inT_1 2 rfl rfl
theorem w_555 : (Jvm.Cond.selects "MoonOverTheHill$State" ({ cls := "MoonOverTheHill$State", name := "setAsked", desc := "(II)V" } : Jvm.MethodName) ({ cls := "MoonOverTheHill$State", name := "setAsked", desc := "(II)V" } : Jvm.MethodName)) ∈ ALL := inT_3 15 rfl rfl
theorem w_554 : (Jvm.Cond.instanceMethod ({ cls := "MoonOverTheHill$State", name := "setAsked", desc := "(II)V" } : Jvm.MethodName)) ∈ ALL := inT_3 14 rfl rfl
theorem w_731 : (Jvm.Cond.methodLink "MoonOverTheHill$Tape" (113 : Nat) ({ cls := "MoonOverTheHill$State", name := "setAsked", desc := "(II)V" } : Jvm.MethodName)) ∈ ALL := inT_3 191 rfl rfl
theorem w_563 : (Jvm.Cond.selects "MoonOverTheHill$Hill" ({ cls := "MoonOverTheHill$Hill", name := "isFull", desc := "()Z" } : Jvm.MethodName) ({ cls := "MoonOverTheHill$Hill", name := "isFull", desc := "()Z" } : Jvm.MethodName)) ∈ ALL := inT_3 23 rfl rfl
theorem w_562 : (Jvm.Cond.instanceMethod ({ cls := "MoonOverTheHill$Hill", name := "isFull", desc := "()Z" } : Jvm.MethodName)) ∈ ALL := inT_3 22 rfl rfl
theorem w_739 : (Jvm.Cond.methodLink "MoonOverTheHill$Tape" (117 : Nat) ({ cls := "MoonOverTheHill$Hill", name := "isFull", desc := "()Z" } : Jvm.MethodName)) ∈ ALL := inT_3 199 rfl rfl
theorem w_571 : (Jvm.Cond.selects "MoonOverTheHill$Hill" ({ cls := "MoonOverTheHill$Hill", name := "add", desc := "(III)V" } : Jvm.MethodName) ({ cls := "MoonOverTheHill$Hill", name := "add", desc := "(III)V" } : Jvm.MethodName)) ∈ ALL := inT_3 31 rfl rfl
theorem w_570 : (Jvm.Cond.instanceMethod ({ cls := "MoonOverTheHill$Hill", name := "add", desc := "(III)V" } : Jvm.MethodName)) ∈ ALL := inT_3 30 rfl rfl
theorem w_740 : (Jvm.Cond.methodLink "MoonOverTheHill$Tape" (123 : Nat) ({ cls := "MoonOverTheHill$Hill", name := "add", desc := "(III)V" } : Jvm.MethodName)) ∈ ALL := inT_3 200 rfl rfl
theorem w_746 : (Jvm.Cond.methodLink "MoonOverTheHill$Tape" (127 : Nat) ({ cls := "MoonOverTheHill$Few", name := "isFull", desc := "()Z" } : Jvm.MethodName)) ∈ ALL := inT_3 206 rfl rfl
theorem w_747 : (Jvm.Cond.methodLink "MoonOverTheHill$Tape" (130 : Nat) ({ cls := "MoonOverTheHill$Few", name := "add", desc := "(I)V" } : Jvm.MethodName)) ∈ ALL := inT_3 207 rfl rfl
theorem w_753 : (Jvm.Cond.methodLink "MoonOverTheHill$Tape" (133 : Nat) ({ cls := "MoonOverTheHill$Few", name := "contains", desc := "(I)Z" } : Jvm.MethodName)) ∈ ALL := inT_3 213 rfl rfl
theorem w_6 : Cond.selects "MoonOverTheHill$Tape" (⟨"MoonOverTheHill$Tape", "isWord", "(Ljava/lang/String;)Z"⟩ : MethodName) (⟨"MoonOverTheHill$Tape", "isWord", "(Ljava/lang/String;)Z"⟩ : MethodName) ∈ ALL := inP 6 rfl rfl
theorem w_672 : (Jvm.Cond.instanceMethod ({ cls := "MoonOverTheHill$Tape", name := "isWord", desc := "(Ljava/lang/String;)Z" } : Jvm.MethodName)) ∈ ALL := inT_3 132 rfl rfl
theorem w_670 : (Jvm.Cond.methodLink "MoonOverTheHill$Tape" (60 : Nat) ({ cls := "MoonOverTheHill$Tape", name := "isWord", desc := "(Ljava/lang/String;)Z" } : Jvm.MethodName)) ∈ ALL := inT_3 130 rfl rfl
theorem w_148 : (Jvm.Cond.fieldLink "MoonOverTheHill$Tape" (96 : Nat) "MoonOverTheHill$State" "clouds" "LMoonOverTheHill$Few;") ∈ ALL := inT_1 88 rfl rfl
theorem w_11 : Cond.selects "MoonOverTheHill$Tape" (⟨"MoonOverTheHill$Tape", "takeCloud", "(LMoonOverTheHill$Few;)Z"⟩ : MethodName) (⟨"MoonOverTheHill$Tape", "takeCloud", "(LMoonOverTheHill$Few;)Z"⟩ : MethodName) ∈ ALL := inP 11 rfl rfl
theorem w_751 : (Jvm.Cond.instanceMethod ({ cls := "MoonOverTheHill$Tape", name := "takeCloud", desc := "(LMoonOverTheHill$Few;)Z" } : Jvm.MethodName)) ∈ ALL := inT_3 211 rfl rfl
theorem w_749 : (Jvm.Cond.methodLink "MoonOverTheHill$Tape" (99 : Nat) ({ cls := "MoonOverTheHill$Tape", name := "takeCloud", desc := "(LMoonOverTheHill$Few;)Z" } : Jvm.MethodName)) ∈ ALL := inT_3 209 rfl rfl
theorem w_146 : (Jvm.Cond.fieldLink "MoonOverTheHill$Tape" (86 : Nat) "MoonOverTheHill$State" "stones" "LMoonOverTheHill$Few;") ∈ ALL := inT_1 86 rfl rfl
theorem w_10 : Cond.selects "MoonOverTheHill$Tape" (⟨"MoonOverTheHill$Tape", "takeStone", "(LMoonOverTheHill$Few;)Z"⟩ : MethodName) (⟨"MoonOverTheHill$Tape", "takeStone", "(LMoonOverTheHill$Few;)Z"⟩ : MethodName) ∈ ALL := inP 10 rfl rfl
theorem w_744 : (Jvm.Cond.instanceMethod ({ cls := "MoonOverTheHill$Tape", name := "takeStone", desc := "(LMoonOverTheHill$Few;)Z" } : Jvm.MethodName)) ∈ ALL := inT_3 204 rfl rfl
theorem w_742 : (Jvm.Cond.methodLink "MoonOverTheHill$Tape" (90 : Nat) ({ cls := "MoonOverTheHill$Tape", name := "takeStone", desc := "(LMoonOverTheHill$Few;)Z" } : Jvm.MethodName)) ∈ ALL := inT_3 202 rfl rfl
theorem w_143 : (Jvm.Cond.fieldLink "MoonOverTheHill$Tape" (74 : Nat) "MoonOverTheHill$State" "hill" "LMoonOverTheHill$Hill;") ∈ ALL := inT_1 83 rfl rfl
theorem w_9 : Cond.selects "MoonOverTheHill$Tape" (⟨"MoonOverTheHill$Tape", "takeNotch", "(LMoonOverTheHill$Hill;)Z"⟩ : MethodName) (⟨"MoonOverTheHill$Tape", "takeNotch", "(LMoonOverTheHill$Hill;)Z"⟩ : MethodName) ∈ ALL := inP 9 rfl rfl
theorem w_737 : (Jvm.Cond.instanceMethod ({ cls := "MoonOverTheHill$Tape", name := "takeNotch", desc := "(LMoonOverTheHill$Hill;)Z" } : Jvm.MethodName)) ∈ ALL := inT_3 197 rfl rfl
theorem w_735 : (Jvm.Cond.methodLink "MoonOverTheHill$Tape" (80 : Nat) ({ cls := "MoonOverTheHill$Tape", name := "takeNotch", desc := "(LMoonOverTheHill$Hill;)Z" } : Jvm.MethodName)) ∈ ALL := inT_3 195 rfl rfl
theorem w_7 : Cond.selects "MoonOverTheHill$Tape" (⟨"MoonOverTheHill$Tape", "takeAsked", "(LMoonOverTheHill$State;I)Z"⟩ : MethodName) (⟨"MoonOverTheHill$Tape", "takeAsked", "(LMoonOverTheHill$State;I)Z"⟩ : MethodName) ∈ ALL := inP 7 rfl rfl
theorem w_724 : (Jvm.Cond.instanceMethod ({ cls := "MoonOverTheHill$Tape", name := "takeAsked", desc := "(LMoonOverTheHill$State;I)Z" } : Jvm.MethodName)) ∈ ALL := inT_3 184 rfl rfl
theorem w_722 : (Jvm.Cond.methodLink "MoonOverTheHill$Tape" (64 : Nat) ({ cls := "MoonOverTheHill$Tape", name := "takeAsked", desc := "(LMoonOverTheHill$State;I)Z" } : Jvm.MethodName)) ∈ ALL := inT_3 182 rfl rfl
theorem w_5 : Cond.selects "MoonOverTheHill$Tape" (⟨"MoonOverTheHill$Tape", "takeStatement", "(LMoonOverTheHill$State;)Z"⟩ : MethodName) (⟨"MoonOverTheHill$Tape", "takeStatement", "(LMoonOverTheHill$State;)Z"⟩ : MethodName) ∈ ALL := inP 5 rfl rfl
theorem w_667 : (Jvm.Cond.instanceMethod ({ cls := "MoonOverTheHill$Tape", name := "takeStatement", desc := "(LMoonOverTheHill$State;)Z" } : Jvm.MethodName)) ∈ ALL := inT_3 127 rfl rfl
theorem w_665 : (Jvm.Cond.methodLink "MoonOverTheHill$Tape" (28 : Nat) ({ cls := "MoonOverTheHill$Tape", name := "takeStatement", desc := "(LMoonOverTheHill$State;)Z" } : Jvm.MethodName)) ∈ ALL := inT_3 125 rfl rfl
theorem w_250 : (Jvm.Cond.fieldLink "MoonOverTheHill" (47 : Nat) "MoonOverTheHill" "shelves" "[LMoonOverTheHill$Shelf;") ∈ ALL := inT_1 190 rfl rfl
theorem w_251 : (Jvm.Cond.fieldLink "MoonOverTheHill" (51 : Nat) "MoonOverTheHill" "refusals" "[I") ∈ ALL := inT_1 191 rfl rfl
theorem w_0 : Cond.selects "MoonOverTheHill" (⟨"MoonOverTheHill", "shelfAt", "(I)LMoonOverTheHill$Shelf;"⟩ : MethodName) (⟨"MoonOverTheHill", "shelfAt", "(I)LMoonOverTheHill$Shelf;"⟩ : MethodName) ∈ ALL := inP 0 rfl rfl
theorem w_278 : (Jvm.Cond.instanceMethod ({ cls := "MoonOverTheHill", name := "shelfAt", desc := "(I)LMoonOverTheHill$Shelf;" } : Jvm.MethodName)) ∈ ALL := inT_1 218 rfl rfl
theorem w_276 : (Jvm.Cond.methodLink "MoonOverTheHill" (56 : Nat) ({ cls := "MoonOverTheHill", name := "shelfAt", desc := "(I)LMoonOverTheHill$Shelf;" } : Jvm.MethodName)) ∈ ALL := inT_1 216 rfl rfl
theorem w_1 : Cond.selects "MoonOverTheHill" (⟨"MoonOverTheHill", "refuse", "(I)I"⟩ : MethodName) (⟨"MoonOverTheHill", "refuse", "(I)I"⟩ : MethodName) ∈ ALL := inP 1 rfl rfl
theorem w_285 : (Jvm.Cond.instanceMethod ({ cls := "MoonOverTheHill", name := "refuse", desc := "(I)I" } : Jvm.MethodName)) ∈ ALL := inT_1 225 rfl rfl
theorem w_283 : (Jvm.Cond.methodLink "MoonOverTheHill" (64 : Nat) ({ cls := "MoonOverTheHill", name := "refuse", desc := "(I)I" } : Jvm.MethodName)) ∈ ALL := inT_1 223 rfl rfl
theorem w_289 : (Jvm.Cond.selects "MoonOverTheHill$Shelf" ({ cls := "MoonOverTheHill$Shelf", name := "putRow", desc := "(II)V" } : Jvm.MethodName) ({ cls := "MoonOverTheHill$Shelf", name := "putRow", desc := "(II)V" } : Jvm.MethodName)) ∈ ALL := inT_1 229 rfl rfl
theorem w_288 : (Jvm.Cond.instanceMethod ({ cls := "MoonOverTheHill$Shelf", name := "putRow", desc := "(II)V" } : Jvm.MethodName)) ∈ ALL := inT_1 228 rfl rfl
theorem w_287 : (Jvm.Cond.methodLink "MoonOverTheHill" (68 : Nat) ({ cls := "MoonOverTheHill$Shelf", name := "putRow", desc := "(II)V" } : Jvm.MethodName)) ∈ ALL := inT_1 227 rfl rfl
theorem w_303 : (Jvm.Cond.selects "MoonOverTheHill$Shelf" ({ cls := "MoonOverTheHill$Shelf", name := "refusalAsRow", desc := "(I)I" } : Jvm.MethodName) ({ cls := "MoonOverTheHill$Shelf", name := "refusalAsRow", desc := "(I)I" } : Jvm.MethodName)) ∈ ALL := inT_2 3 rfl rfl
theorem w_302 : (Jvm.Cond.instanceMethod ({ cls := "MoonOverTheHill$Shelf", name := "refusalAsRow", desc := "(I)I" } : Jvm.MethodName)) ∈ ALL := inT_2 2 rfl rfl
theorem w_301 : (Jvm.Cond.methodLink "MoonOverTheHill" (72 : Nat) ({ cls := "MoonOverTheHill$Shelf", name := "refusalAsRow", desc := "(I)I" } : Jvm.MethodName)) ∈ ALL := inT_2 1 rfl rfl
theorem w_313 : (Jvm.Cond.methodLink "MoonOverTheHill" (75 : Nat) ({ cls := "MoonOverTheHill$Shelf", name := "hasPlaces", desc := "(II)Z" } : Jvm.MethodName)) ∈ ALL := inT_2 13 rfl rfl
theorem w_319 : (Jvm.Cond.selects "MoonOverTheHill$Shelf" ({ cls := "MoonOverTheHill$Shelf", name := "put", desc := "(IJ)V" } : Jvm.MethodName) ({ cls := "MoonOverTheHill$Shelf", name := "put", desc := "(IJ)V" } : Jvm.MethodName)) ∈ ALL := inT_2 19 rfl rfl
theorem w_318 : (Jvm.Cond.instanceMethod ({ cls := "MoonOverTheHill$Shelf", name := "put", desc := "(IJ)V" } : Jvm.MethodName)) ∈ ALL := inT_2 18 rfl rfl
theorem w_317 : (Jvm.Cond.methodLink "MoonOverTheHill" (79 : Nat) ({ cls := "MoonOverTheHill$Shelf", name := "put", desc := "(IJ)V" } : Jvm.MethodName)) ∈ ALL := inT_2 17 rfl rfl
theorem w_329 : (Jvm.Cond.methodLink "MoonOverTheHill" (83 : Nat) ({ cls := "MoonOverTheHill$Shelf", name := "isEvening", desc := "()Z" } : Jvm.MethodName)) ∈ ALL := inT_2 29 rfl rfl
theorem w_332 : (Jvm.Cond.selects "MoonOverTheHill$Shelf" ({ cls := "MoonOverTheHill$Shelf", name := "isRowOfOtherSort", desc := "(LMoonOverTheHill$Shelf;)Z" } : Jvm.MethodName) ({ cls := "MoonOverTheHill$Shelf", name := "isRowOfOtherSort", desc := "(LMoonOverTheHill$Shelf;)Z" } : Jvm.MethodName)) ∈ ALL := inT_2 32 rfl rfl
theorem w_331 : (Jvm.Cond.instanceMethod ({ cls := "MoonOverTheHill$Shelf", name := "isRowOfOtherSort", desc := "(LMoonOverTheHill$Shelf;)Z" } : Jvm.MethodName)) ∈ ALL := inT_2 31 rfl rfl
theorem w_330 : (Jvm.Cond.methodLink "MoonOverTheHill" (87 : Nat) ({ cls := "MoonOverTheHill$Shelf", name := "isRowOfOtherSort", desc := "(LMoonOverTheHill$Shelf;)Z" } : Jvm.MethodName)) ∈ ALL := inT_2 30 rfl rfl
theorem w_338 : (Jvm.Cond.methodLink "MoonOverTheHill" (91 : Nat) ({ cls := "MoonOverTheHill$Shelf", name := "isBare", desc := "()Z" } : Jvm.MethodName)) ∈ ALL := inT_2 38 rfl rfl
theorem w_341 : (Jvm.Cond.selects "MoonOverTheHill$Shelf" ({ cls := "MoonOverTheHill$Shelf", name := "take", desc := "(LMoonOverTheHill$Shelf;III)V" } : Jvm.MethodName) ({ cls := "MoonOverTheHill$Shelf", name := "take", desc := "(LMoonOverTheHill$Shelf;III)V" } : Jvm.MethodName)) ∈ ALL := inT_2 41 rfl rfl
theorem w_340 : (Jvm.Cond.instanceMethod ({ cls := "MoonOverTheHill$Shelf", name := "take", desc := "(LMoonOverTheHill$Shelf;III)V" } : Jvm.MethodName)) ∈ ALL := inT_2 40 rfl rfl
theorem w_339 : (Jvm.Cond.methodLink "MoonOverTheHill" (94 : Nat) ({ cls := "MoonOverTheHill$Shelf", name := "take", desc := "(LMoonOverTheHill$Shelf;III)V" } : Jvm.MethodName)) ∈ ALL := inT_2 39 rfl rfl
theorem w_351 : (Jvm.Cond.methodLink "MoonOverTheHill" (98 : Nat) ({ cls := "MoonOverTheHill$Shelf", name := "isRow", desc := "()Z" } : Jvm.MethodName)) ∈ ALL := inT_2 51 rfl rfl
theorem w_352 : (Jvm.Cond.methodLink "MoonOverTheHill" (101 : Nat) ({ cls := "MoonOverTheHill$Shelf", name := "at", desc := "(I)J" } : Jvm.MethodName)) ∈ ALL := inT_2 52 rfl rfl
theorem w_362 : (Jvm.Cond.selects "MoonOverTheHill$Shelf" ({ cls := "MoonOverTheHill$Shelf", name := "content", desc := "()I" } : Jvm.MethodName) ({ cls := "MoonOverTheHill$Shelf", name := "content", desc := "()I" } : Jvm.MethodName)) ∈ ALL := inT_2 62 rfl rfl
theorem w_361 : (Jvm.Cond.instanceMethod ({ cls := "MoonOverTheHill$Shelf", name := "content", desc := "()I" } : Jvm.MethodName)) ∈ ALL := inT_2 61 rfl rfl
theorem w_360 : (Jvm.Cond.methodLink "MoonOverTheHill" (105 : Nat) ({ cls := "MoonOverTheHill$Shelf", name := "content", desc := "()I" } : Jvm.MethodName)) ∈ ALL := inT_2 60 rfl rfl
theorem w_369 : (Jvm.Cond.static ({ cls := "MoonOverTheHill", name := "isKind", desc := "(I)Z" } : Jvm.MethodName)) ∈ ALL := inT_2 69 rfl rfl
theorem w_368 : (Jvm.Cond.methodLink "MoonOverTheHill" (109 : Nat) ({ cls := "MoonOverTheHill", name := "isKind", desc := "(I)Z" } : Jvm.MethodName)) ∈ ALL := inT_2 68 rfl rfl
theorem w_376 : (Jvm.Cond.selects "MoonOverTheHill$Shelf" ({ cls := "MoonOverTheHill$Shelf", name := "putEvening", desc := "(II)V" } : Jvm.MethodName) ({ cls := "MoonOverTheHill$Shelf", name := "putEvening", desc := "(II)V" } : Jvm.MethodName)) ∈ ALL := inT_2 76 rfl rfl
theorem w_375 : (Jvm.Cond.instanceMethod ({ cls := "MoonOverTheHill$Shelf", name := "putEvening", desc := "(II)V" } : Jvm.MethodName)) ∈ ALL := inT_2 75 rfl rfl
theorem w_374 : (Jvm.Cond.methodLink "MoonOverTheHill" (116 : Nat) ({ cls := "MoonOverTheHill$Shelf", name := "putEvening", desc := "(II)V" } : Jvm.MethodName)) ∈ ALL := inT_2 74 rfl rfl
theorem w_384 : (Jvm.Cond.selects "MoonOverTheHill$Shelf" ({ cls := "MoonOverTheHill$Shelf", name := "kind", desc := "()I" } : Jvm.MethodName) ({ cls := "MoonOverTheHill$Shelf", name := "kind", desc := "()I" } : Jvm.MethodName)) ∈ ALL := inT_2 84 rfl rfl
theorem w_383 : (Jvm.Cond.instanceMethod ({ cls := "MoonOverTheHill$Shelf", name := "kind", desc := "()I" } : Jvm.MethodName)) ∈ ALL := inT_2 83 rfl rfl
theorem w_382 : (Jvm.Cond.methodLink "MoonOverTheHill" (119 : Nat) ({ cls := "MoonOverTheHill$Shelf", name := "kind", desc := "()I" } : Jvm.MethodName)) ∈ ALL := inT_2 82 rfl rfl
theorem w_387 : (Jvm.Cond.static ({ cls := "MoonOverTheHill", name := "isUnder", desc := "(II)Z" } : Jvm.MethodName)) ∈ ALL := inT_2 87 rfl rfl
theorem w_386 : (Jvm.Cond.methodLink "MoonOverTheHill" (122 : Nat) ({ cls := "MoonOverTheHill", name := "isUnder", desc := "(II)Z" } : Jvm.MethodName)) ∈ ALL := inT_2 86 rfl rfl
theorem w_247 : (Jvm.Cond.fieldLink "MoonOverTheHill" (27 : Nat) "MoonOverTheHill" "moon" "LMoonOverTheHill$Moon;") ∈ ALL := inT_1 187 rfl rfl
theorem w_391 : (Jvm.Cond.selects "MoonOverTheHill$Shelf" ({ cls := "MoonOverTheHill$Shelf", name := "day", desc := "()I" } : Jvm.MethodName) ({ cls := "MoonOverTheHill$Shelf", name := "day", desc := "()I" } : Jvm.MethodName)) ∈ ALL := inT_2 91 rfl rfl
theorem w_390 : (Jvm.Cond.instanceMethod ({ cls := "MoonOverTheHill$Shelf", name := "day", desc := "()I" } : Jvm.MethodName)) ∈ ALL := inT_2 90 rfl rfl
theorem w_389 : (Jvm.Cond.methodLink "MoonOverTheHill" (125 : Nat) ({ cls := "MoonOverTheHill$Shelf", name := "day", desc := "()I" } : Jvm.MethodName)) ∈ ALL := inT_2 89 rfl rfl
theorem w_395 : (Jvm.Cond.selects "MoonOverTheHill$Moon" ({ cls := "MoonOverTheHill$Moon", name := "saysOf", desc := "(II)I" } : Jvm.MethodName) ({ cls := "MoonOverTheHill$Moon", name := "saysOf", desc := "(II)I" } : Jvm.MethodName)) ∈ ALL := inT_2 95 rfl rfl
theorem w_394 : (Jvm.Cond.instanceMethod ({ cls := "MoonOverTheHill$Moon", name := "saysOf", desc := "(II)I" } : Jvm.MethodName)) ∈ ALL := inT_2 94 rfl rfl
theorem w_393 : (Jvm.Cond.methodLink "MoonOverTheHill" (128 : Nat) ({ cls := "MoonOverTheHill$Moon", name := "saysOf", desc := "(II)I" } : Jvm.MethodName)) ∈ ALL := inT_2 93 rfl rfl
theorem w_451 : (Jvm.Cond.classLink "MoonOverTheHill" (132 : Nat) "MoonOverTheHill$Question") ∈ ALL := inT_2 151 rfl rfl
theorem w_452 : (Jvm.Cond.instantiable "MoonOverTheHill$Question" (5 : Nat)) ∈ ALL := inT_2 152 rfl rfl
theorem w_454 : (Jvm.Cond.instanceMethod ({ cls := "MoonOverTheHill$Question", name := "<init>", desc := "(I)V" } : Jvm.MethodName)) ∈ ALL := inT_2 154 rfl rfl
theorem w_453 : (Jvm.Cond.methodLink "MoonOverTheHill" (134 : Nat) ({ cls := "MoonOverTheHill$Question", name := "<init>", desc := "(I)V" } : Jvm.MethodName)) ∈ ALL := inT_2 153 rfl rfl
theorem w_481 : (Jvm.Cond.methodLink "MoonOverTheHill" (137 : Nat) ({ cls := "MoonOverTheHill$Moon", name := "fits", desc := "(LMoonOverTheHill$Question;I)Z" } : Jvm.MethodName)) ∈ ALL := inT_2 181 rfl rfl
theorem w_244 : (Jvm.Cond.fieldLink "MoonOverTheHill" (10 : Nat) "MoonOverTheHill" "now" "LMoonOverTheHill$State;") ∈ ALL := inT_1 184 rfl rfl
theorem w_551 : (Jvm.Cond.selects "MoonOverTheHill$State" ({ cls := "MoonOverTheHill$State", name := "askedOf", desc := "(I)I" } : Jvm.MethodName) ({ cls := "MoonOverTheHill$State", name := "askedOf", desc := "(I)I" } : Jvm.MethodName)) ∈ ALL := inT_3 11 rfl rfl
theorem w_550 : (Jvm.Cond.instanceMethod ({ cls := "MoonOverTheHill$State", name := "askedOf", desc := "(I)I" } : Jvm.MethodName)) ∈ ALL := inT_3 10 rfl rfl
theorem w_549 : (Jvm.Cond.methodLink "MoonOverTheHill" (141 : Nat) ({ cls := "MoonOverTheHill$State", name := "askedOf", desc := "(I)I" } : Jvm.MethodName)) ∈ ALL := inT_3 9 rfl rfl
theorem w_553 : (Jvm.Cond.methodLink "MoonOverTheHill" (144 : Nat) ({ cls := "MoonOverTheHill$State", name := "setAsked", desc := "(II)V" } : Jvm.MethodName)) ∈ ALL := inT_3 13 rfl rfl
theorem w_142 : (Jvm.Cond.fieldLink "MoonOverTheHill" (147 : Nat) "MoonOverTheHill$State" "hill" "LMoonOverTheHill$Hill;") ∈ ALL := inT_1 82 rfl rfl
theorem w_561 : (Jvm.Cond.methodLink "MoonOverTheHill" (151 : Nat) ({ cls := "MoonOverTheHill$Hill", name := "isFull", desc := "()Z" } : Jvm.MethodName)) ∈ ALL := inT_3 21 rfl rfl
theorem w_569 : (Jvm.Cond.methodLink "MoonOverTheHill" (156 : Nat) ({ cls := "MoonOverTheHill$Hill", name := "add", desc := "(III)V" } : Jvm.MethodName)) ∈ ALL := inT_3 29 rfl rfl
theorem w_577 : (Jvm.Cond.methodLink "MoonOverTheHill" (160 : Nat) ({ cls := "MoonOverTheHill$Hill", name := "count", desc := "()I" } : Jvm.MethodName)) ∈ ALL := inT_3 37 rfl rfl
theorem w_145 : (Jvm.Cond.fieldLink "MoonOverTheHill" (163 : Nat) "MoonOverTheHill$State" "stones" "LMoonOverTheHill$Few;") ∈ ALL := inT_1 85 rfl rfl
theorem w_582 : (Jvm.Cond.methodLink "MoonOverTheHill" (167 : Nat) ({ cls := "MoonOverTheHill$Few", name := "isFull", desc := "()Z" } : Jvm.MethodName)) ∈ ALL := inT_3 42 rfl rfl
theorem w_583 : (Jvm.Cond.methodLink "MoonOverTheHill" (170 : Nat) ({ cls := "MoonOverTheHill$Few", name := "add", desc := "(I)V" } : Jvm.MethodName)) ∈ ALL := inT_3 43 rfl rfl
theorem w_584 : (Jvm.Cond.methodLink "MoonOverTheHill" (172 : Nat) ({ cls := "MoonOverTheHill$Few", name := "count", desc := "()I" } : Jvm.MethodName)) ∈ ALL := inT_3 44 rfl rfl
theorem w_149 : (Jvm.Cond.fieldLink "MoonOverTheHill" (173 : Nat) "MoonOverTheHill$State" "clouds" "LMoonOverTheHill$Few;") ∈ ALL := inT_1 89 rfl rfl
theorem w_589 : (Jvm.Cond.methodLink "MoonOverTheHill" (176 : Nat) ({ cls := "MoonOverTheHill$Few", name := "contains", desc := "(I)Z" } : Jvm.MethodName)) ∈ ALL := inT_3 49 rfl rfl
theorem w_596 : (Jvm.Cond.selects "MoonOverTheHill$Hill" ({ cls := "MoonOverTheHill$Hill", name := "empty", desc := "()V" } : Jvm.MethodName) ({ cls := "MoonOverTheHill$Hill", name := "empty", desc := "()V" } : Jvm.MethodName)) ∈ ALL := inT_3 56 rfl rfl
theorem w_595 : (Jvm.Cond.instanceMethod ({ cls := "MoonOverTheHill$Hill", name := "empty", desc := "()V" } : Jvm.MethodName)) ∈ ALL := inT_3 55 rfl rfl
theorem w_594 : (Jvm.Cond.methodLink "MoonOverTheHill" (179 : Nat) ({ cls := "MoonOverTheHill$Hill", name := "empty", desc := "()V" } : Jvm.MethodName)) ∈ ALL := inT_3 54 rfl rfl
theorem w_605 : (Jvm.Cond.methodLink "MoonOverTheHill" (182 : Nat) ({ cls := "MoonOverTheHill$Few", name := "empty", desc := "()V" } : Jvm.MethodName)) ∈ ALL := inT_3 65 rfl rfl
theorem w_248 : (Jvm.Cond.fieldLink "MoonOverTheHill" (34 : Nat) "MoonOverTheHill" "tape" "LMoonOverTheHill$Tape;") ∈ ALL := inT_1 188 rfl rfl
theorem w_612 : (Jvm.Cond.selects "MoonOverTheHill$Tape" ({ cls := "MoonOverTheHill$Tape", name := "isFull", desc := "()Z" } : Jvm.MethodName) ({ cls := "MoonOverTheHill$Tape", name := "isFull", desc := "()Z" } : Jvm.MethodName)) ∈ ALL := inT_3 72 rfl rfl
theorem w_611 : (Jvm.Cond.instanceMethod ({ cls := "MoonOverTheHill$Tape", name := "isFull", desc := "()Z" } : Jvm.MethodName)) ∈ ALL := inT_3 71 rfl rfl
theorem w_610 : (Jvm.Cond.methodLink "MoonOverTheHill" (183 : Nat) ({ cls := "MoonOverTheHill$Tape", name := "isFull", desc := "()Z" } : Jvm.MethodName)) ∈ ALL := inT_3 70 rfl rfl
theorem w_616 : (Jvm.Cond.selects "MoonOverTheHill$Tape" ({ cls := "MoonOverTheHill$Tape", name := "add", desc := "(I)V" } : Jvm.MethodName) ({ cls := "MoonOverTheHill$Tape", name := "add", desc := "(I)V" } : Jvm.MethodName)) ∈ ALL := inT_3 76 rfl rfl
theorem w_615 : (Jvm.Cond.instanceMethod ({ cls := "MoonOverTheHill$Tape", name := "add", desc := "(I)V" } : Jvm.MethodName)) ∈ ALL := inT_3 75 rfl rfl
theorem w_614 : (Jvm.Cond.methodLink "MoonOverTheHill" (184 : Nat) ({ cls := "MoonOverTheHill$Tape", name := "add", desc := "(I)V" } : Jvm.MethodName)) ∈ ALL := inT_3 74 rfl rfl
theorem w_620 : (Jvm.Cond.selects "MoonOverTheHill$Tape" ({ cls := "MoonOverTheHill$Tape", name := "size", desc := "()I" } : Jvm.MethodName) ({ cls := "MoonOverTheHill$Tape", name := "size", desc := "()I" } : Jvm.MethodName)) ∈ ALL := inT_3 80 rfl rfl
theorem w_619 : (Jvm.Cond.instanceMethod ({ cls := "MoonOverTheHill$Tape", name := "size", desc := "()I" } : Jvm.MethodName)) ∈ ALL := inT_3 79 rfl rfl
theorem w_618 : (Jvm.Cond.methodLink "MoonOverTheHill" (185 : Nat) ({ cls := "MoonOverTheHill$Tape", name := "size", desc := "()I" } : Jvm.MethodName)) ∈ ALL := inT_3 78 rfl rfl
theorem w_628 : (Jvm.Cond.selects "MoonOverTheHill$Tape" ({ cls := "MoonOverTheHill$Tape", name := "empty", desc := "()V" } : Jvm.MethodName) ({ cls := "MoonOverTheHill$Tape", name := "empty", desc := "()V" } : Jvm.MethodName)) ∈ ALL := inT_3 88 rfl rfl
theorem w_627 : (Jvm.Cond.instanceMethod ({ cls := "MoonOverTheHill$Tape", name := "empty", desc := "()V" } : Jvm.MethodName)) ∈ ALL := inT_3 87 rfl rfl
theorem w_626 : (Jvm.Cond.methodLink "MoonOverTheHill" (188 : Nat) ({ cls := "MoonOverTheHill$Tape", name := "empty", desc := "()V" } : Jvm.MethodName)) ∈ ALL := inT_3 86 rfl rfl
theorem w_245 : (Jvm.Cond.fieldLink "MoonOverTheHill" (16 : Nat) "MoonOverTheHill" "draft" "LMoonOverTheHill$State;") ∈ ALL := inT_1 185 rfl rfl
theorem w_636 : (Jvm.Cond.selects "MoonOverTheHill$State" ({ cls := "MoonOverTheHill$State", name := "become", desc := "(LMoonOverTheHill$State;)V" } : Jvm.MethodName) ({ cls := "MoonOverTheHill$State", name := "become", desc := "(LMoonOverTheHill$State;)V" } : Jvm.MethodName)) ∈ ALL := inT_3 96 rfl rfl
theorem w_635 : (Jvm.Cond.instanceMethod ({ cls := "MoonOverTheHill$State", name := "become", desc := "(LMoonOverTheHill$State;)V" } : Jvm.MethodName)) ∈ ALL := inT_3 95 rfl rfl
theorem w_634 : (Jvm.Cond.methodLink "MoonOverTheHill" (189 : Nat) ({ cls := "MoonOverTheHill$State", name := "become", desc := "(LMoonOverTheHill$State;)V" } : Jvm.MethodName)) ∈ ALL := inT_3 94 rfl rfl
theorem w_651 : (Jvm.Cond.selects "MoonOverTheHill$Tape" ({ cls := "MoonOverTheHill$Tape", name := "read", desc := "(LMoonOverTheHill$State;)I" } : Jvm.MethodName) ({ cls := "MoonOverTheHill$Tape", name := "read", desc := "(LMoonOverTheHill$State;)I" } : Jvm.MethodName)) ∈ ALL := inT_3 111 rfl rfl
theorem w_650 : (Jvm.Cond.instanceMethod ({ cls := "MoonOverTheHill$Tape", name := "read", desc := "(LMoonOverTheHill$State;)I" } : Jvm.MethodName)) ∈ ALL := inT_3 110 rfl rfl
theorem w_649 : (Jvm.Cond.methodLink "MoonOverTheHill" (192 : Nat) ({ cls := "MoonOverTheHill$Tape", name := "read", desc := "(LMoonOverTheHill$State;)I" } : Jvm.MethodName)) ∈ ALL := inT_3 109 rfl rfl
theorem w_756 : (Jvm.Cond.selects "MoonOverTheHill$Tape" ({ cls := "MoonOverTheHill$Tape", name := "fault", desc := "()I" } : Jvm.MethodName) ({ cls := "MoonOverTheHill$Tape", name := "fault", desc := "()I" } : Jvm.MethodName)) ∈ ALL := inT_3 216 rfl rfl
theorem w_755 : (Jvm.Cond.instanceMethod ({ cls := "MoonOverTheHill$Tape", name := "fault", desc := "()I" } : Jvm.MethodName)) ∈ ALL := inT_3 215 rfl rfl
theorem w_754 : (Jvm.Cond.methodLink "MoonOverTheHill" (196 : Nat) ({ cls := "MoonOverTheHill$Tape", name := "fault", desc := "()I" } : Jvm.MethodName)) ∈ ALL := inT_3 214 rfl rfl
theorem w_765 : (Jvm.Cond.selects "MoonOverTheHill$Hill" ({ cls := "MoonOverTheHill$Hill", name := "partOf", desc := "(II)I" } : Jvm.MethodName) ({ cls := "MoonOverTheHill$Hill", name := "partOf", desc := "(II)I" } : Jvm.MethodName)) ∈ ALL := inT_3 225 rfl rfl
theorem w_764 : (Jvm.Cond.instanceMethod ({ cls := "MoonOverTheHill$Hill", name := "partOf", desc := "(II)I" } : Jvm.MethodName)) ∈ ALL := inT_3 224 rfl rfl
theorem w_763 : (Jvm.Cond.methodLink "MoonOverTheHill" (199 : Nat) ({ cls := "MoonOverTheHill$Hill", name := "partOf", desc := "(II)I" } : Jvm.MethodName)) ∈ ALL := inT_3 223 rfl rfl
theorem w_12 : Cond.selects "MoonOverTheHill" (⟨"MoonOverTheHill", "isStone", "(I)Z"⟩ : MethodName) (⟨"MoonOverTheHill", "isStone", "(I)Z"⟩ : MethodName) ∈ ALL := inP 12 rfl rfl
theorem w_773 : (Jvm.Cond.instanceMethod ({ cls := "MoonOverTheHill", name := "isStone", desc := "(I)Z" } : Jvm.MethodName)) ∈ ALL := inT_3 233 rfl rfl
theorem w_771 : (Jvm.Cond.methodLink "MoonOverTheHill" (202 : Nat) ({ cls := "MoonOverTheHill", name := "isStone", desc := "(I)Z" } : Jvm.MethodName)) ∈ ALL := inT_3 231 rfl rfl
theorem w_775 : (Jvm.Cond.methodLink "MoonOverTheHill" (205 : Nat) ({ cls := "MoonOverTheHill$Few", name := "at", desc := "(I)I" } : Jvm.MethodName)) ∈ ALL := inT_3 235 rfl rfl
theorem w_780 : (Jvm.Cond.methodLink "MoonOverTheHill" (207 : Nat) ({ cls := "MoonOverTheHill$Hill", name := "lineAt", desc := "(I)I" } : Jvm.MethodName)) ∈ ALL := inT_4 0 rfl rfl
theorem w_785 : (Jvm.Cond.methodLink "MoonOverTheHill" (210 : Nat) ({ cls := "MoonOverTheHill$Moon", name := "ageOf", desc := "(I)I" } : Jvm.MethodName)) ∈ ALL := inT_4 5 rfl rfl
theorem w_786 : (Jvm.Cond.methodLink "MoonOverTheHill" (213 : Nat) ({ cls := "MoonOverTheHill$Moon", name := "litOf", desc := "(I)I" } : Jvm.MethodName)) ∈ ALL := inT_4 6 rfl rfl
theorem w_787 : (Jvm.Cond.methodLink "MoonOverTheHill" (216 : Nat) ({ cls := "MoonOverTheHill$Moon", name := "outOf", desc := "(I)I" } : Jvm.MethodName)) ∈ ALL := inT_4 7 rfl rfl
theorem w_788 : (Jvm.Cond.methodLink "MoonOverTheHill" (219 : Nat) ({ cls := "MoonOverTheHill$Moon", name := "riseOf", desc := "(I)I" } : Jvm.MethodName)) ∈ ALL := inT_4 8 rfl rfl
theorem w_792 : (Jvm.Cond.methodLink "MoonOverTheHill" (222 : Nat) ({ cls := "MoonOverTheHill$Moon", name := "wayOf", desc := "(I)I" } : Jvm.MethodName)) ∈ ALL := inT_4 12 rfl rfl
theorem w_793 : (Jvm.Cond.methodLink "MoonOverTheHill" (225 : Nat) ({ cls := "MoonOverTheHill$Moon", name := "overOf", desc := "(I)I" } : Jvm.MethodName)) ∈ ALL := inT_4 13 rfl rfl
theorem w_797 : (Jvm.Cond.methodLink "MoonOverTheHill" (228 : Nat) ({ cls := "MoonOverTheHill$Moon", name := "upOf", desc := "(I)I" } : Jvm.MethodName)) ∈ ALL := inT_4 17 rfl rfl
theorem w_798 : (Jvm.Cond.methodLink "MoonOverTheHill" (231 : Nat) ({ cls := "MoonOverTheHill$Moon", name := "laterOf", desc := "(I)I" } : Jvm.MethodName)) ∈ ALL := inT_4 18 rfl rfl
theorem w_799 : (Jvm.Cond.methodLink "MoonOverTheHill" (234 : Nat) ({ cls := "MoonOverTheHill$Moon", name := "degreeOf", desc := "(I)I" } : Jvm.MethodName)) ∈ ALL := inT_4 19 rfl rfl
theorem w_809 : (Jvm.Cond.constant "MoonOverTheHill" (369 : Nat) (-1000000 : Int32)) ∈ ALL := inT_4 29 rfl rfl
theorem w_13 : Cond.selects "MoonOverTheHill" (⟨"MoonOverTheHill", "refuseFarBelow", "(I)I"⟩ : MethodName) (⟨"MoonOverTheHill", "refuseFarBelow", "(I)I"⟩ : MethodName) ∈ ALL := inP 13 rfl rfl
theorem w_807 : (Jvm.Cond.instanceMethod ({ cls := "MoonOverTheHill", name := "refuseFarBelow", desc := "(I)I" } : Jvm.MethodName)) ∈ ALL := inT_4 27 rfl rfl
theorem w_805 : (Jvm.Cond.methodLink "MoonOverTheHill" (240 : Nat) ({ cls := "MoonOverTheHill", name := "refuseFarBelow", desc := "(I)I" } : Jvm.MethodName)) ∈ ALL := inT_4 25 rfl rfl
theorem w_804 : (Jvm.Cond.methodLink "MoonOverTheHill" (237 : Nat) ({ cls := "MoonOverTheHill$Moon", name := "slantOf", desc := "(I)I" } : Jvm.MethodName)) ∈ ALL := inT_4 24 rfl rfl
theorem w_814 : (Jvm.Cond.methodLink "MoonOverTheHill" (243 : Nat) ({ cls := "MoonOverTheHill$Moon", name := "behindOf", desc := "(I)I" } : Jvm.MethodName)) ∈ ALL := inT_4 34 rfl rfl
theorem w_824 : (Jvm.Cond.static ({ cls := "MoonOverTheHill", name := "areMinutes", desc := "(II)Z" } : Jvm.MethodName)) ∈ ALL := inT_4 44 rfl rfl
theorem w_823 : (Jvm.Cond.methodLink "MoonOverTheHill" (246 : Nat) ({ cls := "MoonOverTheHill", name := "areMinutes", desc := "(II)Z" } : Jvm.MethodName)) ∈ ALL := inT_4 43 rfl rfl
theorem w_826 : (Jvm.Cond.methodLink "MoonOverTheHill" (249 : Nat) ({ cls := "MoonOverTheHill$Moon", name := "shinesOf", desc := "(III)I" } : Jvm.MethodName)) ∈ ALL := inT_4 46 rfl rfl
theorem w_831 : (Jvm.Cond.methodLink "MoonOverTheHill" (253 : Nat) ({ cls := "MoonOverTheHill$Moon", name := "lightOf", desc := "(III)I" } : Jvm.MethodName)) ∈ ALL := inT_4 51 rfl rfl
theorem w_841 : (Jvm.Cond.selects "MoonOverTheHill$Moon" ({ cls := "MoonOverTheHill$Moon", name := "pick", desc := "(IIILMoonOverTheHill$Question;)I" } : Jvm.MethodName) ({ cls := "MoonOverTheHill$Moon", name := "pick", desc := "(IIILMoonOverTheHill$Question;)I" } : Jvm.MethodName)) ∈ ALL := inT_4 61 rfl rfl
theorem w_840 : (Jvm.Cond.instanceMethod ({ cls := "MoonOverTheHill$Moon", name := "pick", desc := "(IIILMoonOverTheHill$Question;)I" } : Jvm.MethodName)) ∈ ALL := inT_4 60 rfl rfl
theorem w_839 : (Jvm.Cond.methodLink "MoonOverTheHill" (256 : Nat) ({ cls := "MoonOverTheHill$Moon", name := "pick", desc := "(IIILMoonOverTheHill$Question;)I" } : Jvm.MethodName)) ∈ ALL := inT_4 59 rfl rfl
theorem w_852 : (Jvm.Cond.static ({ cls := "MoonOverTheHill", name := "areDays", desc := "(II)Z" } : Jvm.MethodName)) ∈ ALL := inT_4 72 rfl rfl
theorem w_851 : (Jvm.Cond.methodLink "MoonOverTheHill" (260 : Nat) ({ cls := "MoonOverTheHill", name := "areDays", desc := "(II)Z" } : Jvm.MethodName)) ∈ ALL := inT_4 71 rfl rfl
theorem w_859 : (Jvm.Cond.instanceMethod ({ cls := "MoonOverTheHill$Question", name := "<init>", desc := "(IIII)V" } : Jvm.MethodName)) ∈ ALL := inT_4 79 rfl rfl
theorem w_858 : (Jvm.Cond.methodLink "MoonOverTheHill" (263 : Nat) ({ cls := "MoonOverTheHill$Question", name := "<init>", desc := "(IIII)V" } : Jvm.MethodName)) ∈ ALL := inT_4 78 rfl rfl
theorem w_14 : Cond.selects "MoonOverTheHill" (⟨"MoonOverTheHill", "orStuck", "(I)I"⟩ : MethodName) (⟨"MoonOverTheHill", "orStuck", "(I)I"⟩ : MethodName) ∈ ALL := inP 14 rfl rfl
theorem w_863 : (Jvm.Cond.instanceMethod ({ cls := "MoonOverTheHill", name := "orStuck", desc := "(I)I" } : Jvm.MethodName)) ∈ ALL := inT_4 83 rfl rfl
theorem w_861 : (Jvm.Cond.methodLink "MoonOverTheHill" (266 : Nat) ({ cls := "MoonOverTheHill", name := "orStuck", desc := "(I)I" } : Jvm.MethodName)) ∈ ALL := inT_4 81 rfl rfl
theorem w_871 : (Jvm.Cond.selects "MoonOverTheHill$Moon" ({ cls := "MoonOverTheHill$Moon", name := "bestOf", desc := "(III)I" } : Jvm.MethodName) ({ cls := "MoonOverTheHill$Moon", name := "bestOf", desc := "(III)I" } : Jvm.MethodName)) ∈ ALL := inT_4 91 rfl rfl
theorem w_870 : (Jvm.Cond.instanceMethod ({ cls := "MoonOverTheHill$Moon", name := "bestOf", desc := "(III)I" } : Jvm.MethodName)) ∈ ALL := inT_4 90 rfl rfl
theorem w_869 : (Jvm.Cond.methodLink "MoonOverTheHill" (269 : Nat) ({ cls := "MoonOverTheHill$Moon", name := "bestOf", desc := "(III)I" } : Jvm.MethodName)) ∈ ALL := inT_4 89 rfl rfl
theorem w_891 : (Jvm.Cond.methodLink "MoonOverTheHill" (272 : Nat) ({ cls := "MoonOverTheHill$Moon", name := "lastOf", desc := "(II)I" } : Jvm.MethodName)) ∈ ALL := inT_4 111 rfl rfl
theorem w_912 : (Jvm.Cond.methodLink "MoonOverTheHill" (275 : Nat) ({ cls := "java/lang/Math", name := "min", desc := "(II)I" } : Jvm.MethodName)) ∈ ALL := inT_4 132 rfl rfl
theorem w_913 : (Jvm.Cond.methodLink "MoonOverTheHill" (280 : Nat) ({ cls := "java/lang/Math", name := "max", desc := "(II)I" } : Jvm.MethodName)) ∈ ALL := inT_4 133 rfl rfl
theorem w_924 : (Jvm.Cond.selects "MoonOverTheHill$Moon" ({ cls := "MoonOverTheHill$Moon", name := "newDaysTill", desc := "(I)I" } : Jvm.MethodName) ({ cls := "MoonOverTheHill$Moon", name := "newDaysTill", desc := "(I)I" } : Jvm.MethodName)) ∈ ALL := inT_4 144 rfl rfl
theorem w_923 : (Jvm.Cond.instanceMethod ({ cls := "MoonOverTheHill$Moon", name := "newDaysTill", desc := "(I)I" } : Jvm.MethodName)) ∈ ALL := inT_4 143 rfl rfl
theorem w_922 : (Jvm.Cond.methodLink "MoonOverTheHill" (283 : Nat) ({ cls := "MoonOverTheHill$Moon", name := "newDaysTill", desc := "(I)I" } : Jvm.MethodName)) ∈ ALL := inT_4 142 rfl rfl
theorem w_944 : (Jvm.Cond.selects "MoonOverTheHill$Moon" ({ cls := "MoonOverTheHill$Moon", name := "degreeAt", desc := "(II)I" } : Jvm.MethodName) ({ cls := "MoonOverTheHill$Moon", name := "degreeAt", desc := "(II)I" } : Jvm.MethodName)) ∈ ALL := inT_4 164 rfl rfl
theorem w_943 : (Jvm.Cond.instanceMethod ({ cls := "MoonOverTheHill$Moon", name := "degreeAt", desc := "(II)I" } : Jvm.MethodName)) ∈ ALL := inT_4 163 rfl rfl
theorem w_942 : (Jvm.Cond.methodLink "MoonOverTheHill" (289 : Nat) ({ cls := "MoonOverTheHill$Moon", name := "degreeAt", desc := "(II)I" } : Jvm.MethodName)) ∈ ALL := inT_4 162 rfl rfl
theorem w_939 : (Jvm.Cond.selects "MoonOverTheHill$Moon" ({ cls := "MoonOverTheHill$Moon", name := "heightAt", desc := "(II)I" } : Jvm.MethodName) ({ cls := "MoonOverTheHill$Moon", name := "heightAt", desc := "(II)I" } : Jvm.MethodName)) ∈ ALL := inT_4 159 rfl rfl
theorem w_938 : (Jvm.Cond.instanceMethod ({ cls := "MoonOverTheHill$Moon", name := "heightAt", desc := "(II)I" } : Jvm.MethodName)) ∈ ALL := inT_4 158 rfl rfl
theorem w_937 : (Jvm.Cond.methodLink "MoonOverTheHill" (286 : Nat) ({ cls := "MoonOverTheHill$Moon", name := "heightAt", desc := "(II)I" } : Jvm.MethodName)) ∈ ALL := inT_4 157 rfl rfl
theorem w_950 : (Jvm.Cond.constantLong "MoonOverTheHill" (292 : Nat) (1000 : Int64)) ∈ ALL := inT_4 170 rfl rfl
theorem w_951 : (Jvm.Cond.constantLong "MoonOverTheHill" (294 : Nat) (1439 : Int64)) ∈ ALL := inT_4 171 rfl rfl
theorem w_953 : (Jvm.Cond.instanceMethod ({ cls := "MoonOverTheHill$Question", name := "<init>", desc := "(LMoonOverTheHill$Shelf;)V" } : Jvm.MethodName)) ∈ ALL := inT_4 173 rfl rfl
theorem w_952 : (Jvm.Cond.methodLink "MoonOverTheHill" (296 : Nat) ({ cls := "MoonOverTheHill$Question", name := "<init>", desc := "(LMoonOverTheHill$Shelf;)V" } : Jvm.MethodName)) ∈ ALL := inT_4 172 rfl rfl
theorem w_969 : (Jvm.Cond.selects "MoonOverTheHill$Moon" ({ cls := "MoonOverTheHill$Moon", name := "couldBegin", desc := "(J)Z" } : Jvm.MethodName) ({ cls := "MoonOverTheHill$Moon", name := "couldBegin", desc := "(J)Z" } : Jvm.MethodName)) ∈ ALL := inT_4 189 rfl rfl
theorem w_968 : (Jvm.Cond.instanceMethod ({ cls := "MoonOverTheHill$Moon", name := "couldBegin", desc := "(J)Z" } : Jvm.MethodName)) ∈ ALL := inT_4 188 rfl rfl
theorem w_967 : (Jvm.Cond.methodLink "MoonOverTheHill" (303 : Nat) ({ cls := "MoonOverTheHill$Moon", name := "couldBegin", desc := "(J)Z" } : Jvm.MethodName)) ∈ ALL := inT_4 187 rfl rfl
theorem w_974 : (Jvm.Cond.selects "MoonOverTheHill$Shelf" ({ cls := "MoonOverTheHill$Shelf", name := "timesOf", desc := "(JI)I" } : Jvm.MethodName) ({ cls := "MoonOverTheHill$Shelf", name := "timesOf", desc := "(JI)I" } : Jvm.MethodName)) ∈ ALL := inT_4 194 rfl rfl
theorem w_973 : (Jvm.Cond.instanceMethod ({ cls := "MoonOverTheHill$Shelf", name := "timesOf", desc := "(JI)I" } : Jvm.MethodName)) ∈ ALL := inT_4 193 rfl rfl
theorem w_972 : (Jvm.Cond.methodLink "MoonOverTheHill" (370 : Nat) ({ cls := "MoonOverTheHill$Shelf", name := "timesOf", desc := "(JI)I" } : Jvm.MethodName)) ∈ ALL := inT_4 192 rfl rfl
theorem w_15 : Cond.selects "MoonOverTheHill" (⟨"MoonOverTheHill", "toldByMost", "(LMoonOverTheHill$Shelf;I)I"⟩ : MethodName) (⟨"MoonOverTheHill", "toldByMost", "(LMoonOverTheHill$Shelf;I)I"⟩ : MethodName) ∈ ALL := inP 15 rfl rfl
theorem w_965 : (Jvm.Cond.instanceMethod ({ cls := "MoonOverTheHill", name := "toldByMost", desc := "(LMoonOverTheHill$Shelf;I)I" } : Jvm.MethodName)) ∈ ALL := inT_4 185 rfl rfl
theorem w_963 : (Jvm.Cond.methodLink "MoonOverTheHill" (299 : Nat) ({ cls := "MoonOverTheHill", name := "toldByMost", desc := "(LMoonOverTheHill$Shelf;I)I" } : Jvm.MethodName)) ∈ ALL := inT_4 183 rfl rfl
theorem w_986 : (Jvm.Cond.selects "MoonOverTheHill$Moon" ({ cls := "MoonOverTheHill$Moon", name := "tideAt", desc := "(II)I" } : Jvm.MethodName) ({ cls := "MoonOverTheHill$Moon", name := "tideAt", desc := "(II)I" } : Jvm.MethodName)) ∈ ALL := inT_4 206 rfl rfl
theorem w_985 : (Jvm.Cond.instanceMethod ({ cls := "MoonOverTheHill$Moon", name := "tideAt", desc := "(II)I" } : Jvm.MethodName)) ∈ ALL := inT_4 205 rfl rfl
theorem w_984 : (Jvm.Cond.methodLink "MoonOverTheHill" (307 : Nat) ({ cls := "MoonOverTheHill$Moon", name := "tideAt", desc := "(II)I" } : Jvm.MethodName)) ∈ ALL := inT_4 204 rfl rfl
theorem w_996 : (Jvm.Cond.methodLink "MoonOverTheHill" (310 : Nat) ({ cls := "MoonOverTheHill$Moon", name := "highWaterOf", desc := "(I)I" } : Jvm.MethodName)) ∈ ALL := inT_4 216 rfl rfl
theorem w_1018 : (Jvm.Cond.selects "MoonOverTheHill$Shelf" ({ cls := "MoonOverTheHill$Shelf", name := "threesOfMonths", desc := "(I)I" } : Jvm.MethodName) ({ cls := "MoonOverTheHill$Shelf", name := "threesOfMonths", desc := "(I)I" } : Jvm.MethodName)) ∈ ALL := inT_4 238 rfl rfl
theorem w_1017 : (Jvm.Cond.instanceMethod ({ cls := "MoonOverTheHill$Shelf", name := "threesOfMonths", desc := "(I)I" } : Jvm.MethodName)) ∈ ALL := inT_4 237 rfl rfl
theorem w_1016 : (Jvm.Cond.methodLink "MoonOverTheHill" (319 : Nat) ({ cls := "MoonOverTheHill$Shelf", name := "threesOfMonths", desc := "(I)I" } : Jvm.MethodName)) ∈ ALL := inT_4 236 rfl rfl
theorem w_1013 : (Jvm.Cond.selects "MoonOverTheHill$Shelf" ({ cls := "MoonOverTheHill$Shelf", name := "longestRun", desc := "(I)I" } : Jvm.MethodName) ({ cls := "MoonOverTheHill$Shelf", name := "longestRun", desc := "(I)I" } : Jvm.MethodName)) ∈ ALL := inT_4 233 rfl rfl
theorem w_1012 : (Jvm.Cond.instanceMethod ({ cls := "MoonOverTheHill$Shelf", name := "longestRun", desc := "(I)I" } : Jvm.MethodName)) ∈ ALL := inT_4 232 rfl rfl
theorem w_1011 : (Jvm.Cond.methodLink "MoonOverTheHill" (316 : Nat) ({ cls := "MoonOverTheHill$Shelf", name := "longestRun", desc := "(I)I" } : Jvm.MethodName)) ∈ ALL := inT_4 231 rfl rfl
theorem w_1003 : (Jvm.Cond.selects "MoonOverTheHill$Shelf" ({ cls := "MoonOverTheHill$Shelf", name := "monthCounts", desc := "(I)I" } : Jvm.MethodName) ({ cls := "MoonOverTheHill$Shelf", name := "monthCounts", desc := "(I)I" } : Jvm.MethodName)) ∈ ALL := inT_4 223 rfl rfl
theorem w_1002 : (Jvm.Cond.instanceMethod ({ cls := "MoonOverTheHill$Shelf", name := "monthCounts", desc := "(I)I" } : Jvm.MethodName)) ∈ ALL := inT_4 222 rfl rfl
theorem w_1001 : (Jvm.Cond.methodLink "MoonOverTheHill" (313 : Nat) ({ cls := "MoonOverTheHill$Shelf", name := "monthCounts", desc := "(I)I" } : Jvm.MethodName)) ∈ ALL := inT_4 221 rfl rfl
theorem w_249 : (Jvm.Cond.fieldLink "MoonOverTheHill" (41 : Nat) "MoonOverTheHill" "places" "LMoonOverTheHill$Places;") ∈ ALL := inT_1 189 rfl rfl
theorem w_1041 : (Jvm.Cond.methodLink "MoonOverTheHill" (374 : Nat) ({ cls := "MoonOverTheHill$Places", name := "near", desc := "(II)I" } : Jvm.MethodName)) ∈ ALL := inT_5 21 rfl rfl
theorem w_1032 : (Jvm.Cond.selects "MoonOverTheHill$Places" ({ cls := "MoonOverTheHill$Places", name := "gather", desc := "(LMoonOverTheHill$Moon;II)V" } : Jvm.MethodName) ({ cls := "MoonOverTheHill$Places", name := "gather", desc := "(LMoonOverTheHill$Moon;II)V" } : Jvm.MethodName)) ∈ ALL := inT_5 12 rfl rfl
theorem w_1031 : (Jvm.Cond.instanceMethod ({ cls := "MoonOverTheHill$Places", name := "gather", desc := "(LMoonOverTheHill$Moon;II)V" } : Jvm.MethodName)) ∈ ALL := inT_5 11 rfl rfl
theorem w_1030 : (Jvm.Cond.methodLink "MoonOverTheHill" (322 : Nat) ({ cls := "MoonOverTheHill$Places", name := "gather", desc := "(LMoonOverTheHill$Moon;II)V" } : Jvm.MethodName)) ∈ ALL := inT_5 10 rfl rfl
theorem w_17 : Cond.selects "MoonOverTheHill" (⟨"MoonOverTheHill", "stonesThatHit", "(I)I"⟩ : MethodName) (⟨"MoonOverTheHill", "stonesThatHit", "(I)I"⟩ : MethodName) ∈ ALL := inP 17 rfl rfl
theorem w_1039 : (Jvm.Cond.instanceMethod ({ cls := "MoonOverTheHill", name := "stonesThatHit", desc := "(I)I" } : Jvm.MethodName)) ∈ ALL := inT_5 19 rfl rfl
theorem w_1037 : (Jvm.Cond.methodLink "MoonOverTheHill" (326 : Nat) ({ cls := "MoonOverTheHill", name := "stonesThatHit", desc := "(I)I" } : Jvm.MethodName)) ∈ ALL := inT_5 17 rfl rfl
theorem w_1052 : (Jvm.Cond.selects "MoonOverTheHill$Places" ({ cls := "MoonOverTheHill$Places", name := "degreesThatHit", desc := "(I)I" } : Jvm.MethodName) ({ cls := "MoonOverTheHill$Places", name := "degreesThatHit", desc := "(I)I" } : Jvm.MethodName)) ∈ ALL := inT_5 32 rfl rfl
theorem w_1051 : (Jvm.Cond.instanceMethod ({ cls := "MoonOverTheHill$Places", name := "degreesThatHit", desc := "(I)I" } : Jvm.MethodName)) ∈ ALL := inT_5 31 rfl rfl
theorem w_1050 : (Jvm.Cond.methodLink "MoonOverTheHill" (329 : Nat) ({ cls := "MoonOverTheHill$Places", name := "degreesThatHit", desc := "(I)I" } : Jvm.MethodName)) ∈ ALL := inT_5 30 rfl rfl
theorem w_1065 : (Jvm.Cond.selects "MoonOverTheHill$Places" ({ cls := "MoonOverTheHill$Places", name := "fullest", desc := "(I)I" } : Jvm.MethodName) ({ cls := "MoonOverTheHill$Places", name := "fullest", desc := "(I)I" } : Jvm.MethodName)) ∈ ALL := inT_5 45 rfl rfl
theorem w_1064 : (Jvm.Cond.instanceMethod ({ cls := "MoonOverTheHill$Places", name := "fullest", desc := "(I)I" } : Jvm.MethodName)) ∈ ALL := inT_5 44 rfl rfl
theorem w_1063 : (Jvm.Cond.methodLink "MoonOverTheHill" (332 : Nat) ({ cls := "MoonOverTheHill$Places", name := "fullest", desc := "(I)I" } : Jvm.MethodName)) ∈ ALL := inT_5 43 rfl rfl
theorem w_78 : (Jvm.Cond.initialized "java/lang/Integer") ∈ ALL := inT_1 18 rfl rfl
theorem w_1072 : (Jvm.Cond.static ({ cls := "java/lang/Integer", name := "bitCount", desc := "(I)I" } : Jvm.MethodName)) ∈ ALL := inT_5 52 rfl rfl
theorem w_1071 : (Jvm.Cond.methodLink "MoonOverTheHill" (335 : Nat) ({ cls := "java/lang/Integer", name := "bitCount", desc := "(I)I" } : Jvm.MethodName)) ∈ ALL := inT_5 51 rfl rfl
theorem w_1081 : (Jvm.Cond.methodLink "MoonOverTheHill" (340 : Nat) ({ cls := "java/lang/Math", name := "floorMod", desc := "(II)I" } : Jvm.MethodName)) ∈ ALL := inT_5 61 rfl rfl
theorem w_133 : (Jvm.Cond.fieldLink "MoonOverTheHill" (343 : Nat) "MoonOverTheHill$State" "off" "I") ∈ ALL := inT_1 73 rfl rfl
theorem w_1092 : (Jvm.Cond.selects "MoonOverTheHill$State" ({ cls := "MoonOverTheHill$State", name := "draw", desc := "(I)I" } : Jvm.MethodName) ({ cls := "MoonOverTheHill$State", name := "draw", desc := "(I)I" } : Jvm.MethodName)) ∈ ALL := inT_5 72 rfl rfl
theorem w_1091 : (Jvm.Cond.instanceMethod ({ cls := "MoonOverTheHill$State", name := "draw", desc := "(I)I" } : Jvm.MethodName)) ∈ ALL := inT_5 71 rfl rfl
theorem w_1090 : (Jvm.Cond.methodLink "MoonOverTheHill" (377 : Nat) ({ cls := "MoonOverTheHill$State", name := "draw", desc := "(I)I" } : Jvm.MethodName)) ∈ ALL := inT_5 70 rfl rfl
theorem w_139 : (Jvm.Cond.fieldLink "MoonOverTheHill" (380 : Nat) "MoonOverTheHill$State" "cloud" "I") ∈ ALL := inT_1 79 rfl rfl
theorem w_152 : (Jvm.Cond.fieldLink "MoonOverTheHill" (347 : Nat) "MoonOverTheHill$State" "today" "I") ∈ ALL := inT_1 92 rfl rfl
theorem w_154 : (Jvm.Cond.fieldLink "MoonOverTheHill" (353 : Nat) "MoonOverTheHill$State" "looks" "I") ∈ ALL := inT_1 94 rfl rfl
theorem w_18 : Cond.selects "MoonOverTheHill" (⟨"MoonOverTheHill", "letEveningPass", "()Z"⟩ : MethodName) (⟨"MoonOverTheHill", "letEveningPass", "()Z"⟩ : MethodName) ∈ ALL := inP 18 rfl rfl
theorem w_1088 : (Jvm.Cond.instanceMethod ({ cls := "MoonOverTheHill", name := "letEveningPass", desc := "()Z" } : Jvm.MethodName)) ∈ ALL := inT_5 68 rfl rfl
theorem w_1086 : (Jvm.Cond.methodLink "MoonOverTheHill" (350 : Nat) ({ cls := "MoonOverTheHill", name := "letEveningPass", desc := "()Z" } : Jvm.MethodName)) ∈ ALL := inT_5 66 rfl rfl
theorem w_156 : (Jvm.Cond.fieldLink "MoonOverTheHill" (356 : Nat) "MoonOverTheHill$State" "seed" "I") ∈ ALL := inT_1 96 rfl rfl
theorem w_246 : (Jvm.Cond.fieldLink "MoonOverTheHill" (19 : Nat) "MoonOverTheHill" "kept" "LMoonOverTheHill$State;") ∈ ALL := inT_1 186 rfl rfl
theorem w_252 : (Jvm.Cond.fieldLink "MoonOverTheHill" (359 : Nat) "MoonOverTheHill" "isKept" "Z") ∈ ALL := inT_1 192 rfl rfl
theorem w_19 : Cond.selects "MoonOverTheHill" (⟨"MoonOverTheHill", "shelvesInUse", "()I"⟩ : MethodName) (⟨"MoonOverTheHill", "shelvesInUse", "()I"⟩ : MethodName) ∈ ALL := inP 19 rfl rfl
theorem w_1117 : (Jvm.Cond.instanceMethod ({ cls := "MoonOverTheHill", name := "shelvesInUse", desc := "()I" } : Jvm.MethodName)) ∈ ALL := inT_5 97 rfl rfl
theorem w_1115 : (Jvm.Cond.methodLink "MoonOverTheHill" (363 : Nat) ({ cls := "MoonOverTheHill", name := "shelvesInUse", desc := "()I" } : Jvm.MethodName)) ∈ ALL := inT_5 95 rfl rfl
theorem w_20 : Cond.selects "MoonOverTheHill" (⟨"MoonOverTheHill", "refusalsAt", "(I)I"⟩ : MethodName) (⟨"MoonOverTheHill", "refusalsAt", "(I)I"⟩ : MethodName) ∈ ALL := inP 20 rfl rfl
theorem w_1121 : (Jvm.Cond.instanceMethod ({ cls := "MoonOverTheHill", name := "refusalsAt", desc := "(I)I" } : Jvm.MethodName)) ∈ ALL := inT_5 101 rfl rfl
theorem w_1119 : (Jvm.Cond.methodLink "MoonOverTheHill" (366 : Nat) ({ cls := "MoonOverTheHill", name := "refusalsAt", desc := "(I)I" } : Jvm.MethodName)) ∈ ALL := inT_5 99 rfl rfl
theorem w_112 : (Jvm.Cond.lays "MoonOverTheHill$Few" "MoonOverTheHill$Few" "count" "I") ∈ ALL := inT_1 52 rfl rfl
theorem w_110 : (Jvm.Cond.laysFinal "MoonOverTheHill$Few" "MoonOverTheHill$Few" "items" "[I") ∈ ALL := inT_1 50 rfl rfl
theorem w_126 : (Jvm.Cond.laysFinal "MoonOverTheHill$Hill" "MoonOverTheHill$Hill" "line" "[I") ∈ ALL := inT_1 66 rfl rfl
theorem w_124 : (Jvm.Cond.laysFinal "MoonOverTheHill$Hill" "MoonOverTheHill$Hill" "height" "LMoonOverTheHill$Few;") ∈ ALL := inT_1 64 rfl rfl
theorem w_122 : (Jvm.Cond.laysFinal "MoonOverTheHill$Hill" "MoonOverTheHill$Hill" "to" "LMoonOverTheHill$Few;") ∈ ALL := inT_1 62 rfl rfl
theorem w_120 : (Jvm.Cond.laysFinal "MoonOverTheHill$Hill" "MoonOverTheHill$Hill" "from" "LMoonOverTheHill$Few;") ∈ ALL := inT_1 60 rfl rfl
theorem w_185 : (Jvm.Cond.laysFinal "MoonOverTheHill$Moon" "MoonOverTheHill$Moon" "now" "LMoonOverTheHill$State;") ∈ ALL := inT_1 125 rfl rfl
theorem w_220 : (Jvm.Cond.laysFinal "MoonOverTheHill$Places" "MoonOverTheHill$Places" "often" "[I") ∈ ALL := inT_1 160 rfl rfl
theorem w_478 : (Jvm.Cond.laysFinal "MoonOverTheHill$Question" "MoonOverTheHill$Question" "picture" "LMoonOverTheHill$Shelf;") ∈ ALL := inT_2 178 rfl rfl
theorem w_476 : (Jvm.Cond.laysFinal "MoonOverTheHill$Question" "MoonOverTheHill$Question" "c" "I") ∈ ALL := inT_2 176 rfl rfl
theorem w_474 : (Jvm.Cond.laysFinal "MoonOverTheHill$Question" "MoonOverTheHill$Question" "b" "I") ∈ ALL := inT_2 174 rfl rfl
theorem w_472 : (Jvm.Cond.laysFinal "MoonOverTheHill$Question" "MoonOverTheHill$Question" "a" "I") ∈ ALL := inT_2 172 rfl rfl
theorem w_470 : (Jvm.Cond.laysFinal "MoonOverTheHill$Question" "MoonOverTheHill$Question" "about" "I") ∈ ALL := inT_2 170 rfl rfl
theorem w_240 : (Jvm.Cond.lays "MoonOverTheHill$Shelf" "MoonOverTheHill$Shelf" "day" "I") ∈ ALL := inT_1 180 rfl rfl
theorem w_238 : (Jvm.Cond.lays "MoonOverTheHill$Shelf" "MoonOverTheHill$Shelf" "size" "I") ∈ ALL := inT_1 178 rfl rfl
theorem w_236 : (Jvm.Cond.lays "MoonOverTheHill$Shelf" "MoonOverTheHill$Shelf" "content" "I") ∈ ALL := inT_1 176 rfl rfl
theorem w_234 : (Jvm.Cond.laysFinal "MoonOverTheHill$Shelf" "MoonOverTheHill$Shelf" "elements" "[J") ∈ ALL := inT_1 174 rfl rfl
theorem w_175 : (Jvm.Cond.lays "MoonOverTheHill$State" "MoonOverTheHill$State" "seed" "I") ∈ ALL := inT_1 115 rfl rfl
theorem w_173 : (Jvm.Cond.lays "MoonOverTheHill$State" "MoonOverTheHill$State" "looks" "I") ∈ ALL := inT_1 113 rfl rfl
theorem w_171 : (Jvm.Cond.lays "MoonOverTheHill$State" "MoonOverTheHill$State" "today" "I") ∈ ALL := inT_1 111 rfl rfl
theorem w_169 : (Jvm.Cond.laysFinal "MoonOverTheHill$State" "MoonOverTheHill$State" "clouds" "LMoonOverTheHill$Few;") ∈ ALL := inT_1 109 rfl rfl
theorem w_167 : (Jvm.Cond.laysFinal "MoonOverTheHill$State" "MoonOverTheHill$State" "stones" "LMoonOverTheHill$Few;") ∈ ALL := inT_1 107 rfl rfl
theorem w_165 : (Jvm.Cond.laysFinal "MoonOverTheHill$State" "MoonOverTheHill$State" "hill" "LMoonOverTheHill$Hill;") ∈ ALL := inT_1 105 rfl rfl
theorem w_163 : (Jvm.Cond.lays "MoonOverTheHill$State" "MoonOverTheHill$State" "cloud" "I") ∈ ALL := inT_1 103 rfl rfl
theorem w_161 : (Jvm.Cond.lays "MoonOverTheHill$State" "MoonOverTheHill$State" "swing" "I") ∈ ALL := inT_1 101 rfl rfl
theorem w_159 : (Jvm.Cond.lays "MoonOverTheHill$State" "MoonOverTheHill$State" "node" "I") ∈ ALL := inT_1 99 rfl rfl
theorem w_157 : (Jvm.Cond.lays "MoonOverTheHill$State" "MoonOverTheHill$State" "off" "I") ∈ ALL := inT_1 97 rfl rfl
theorem w_210 : (Jvm.Cond.lays "MoonOverTheHill$Tape" "MoonOverTheHill$Tape" "value" "I") ∈ ALL := inT_1 150 rfl rfl
theorem w_208 : (Jvm.Cond.lays "MoonOverTheHill$Tape" "MoonOverTheHill$Tape" "end" "I") ∈ ALL := inT_1 148 rfl rfl
theorem w_206 : (Jvm.Cond.lays "MoonOverTheHill$Tape" "MoonOverTheHill$Tape" "start" "I") ∈ ALL := inT_1 146 rfl rfl
theorem w_204 : (Jvm.Cond.lays "MoonOverTheHill$Tape" "MoonOverTheHill$Tape" "token" "I") ∈ ALL := inT_1 144 rfl rfl
theorem w_202 : (Jvm.Cond.lays "MoonOverTheHill$Tape" "MoonOverTheHill$Tape" "size" "I") ∈ ALL := inT_1 142 rfl rfl
theorem w_200 : (Jvm.Cond.laysFinal "MoonOverTheHill$Tape" "MoonOverTheHill$Tape" "bytes" "[I") ∈ ALL := inT_1 140 rfl rfl
theorem w_269 : (Jvm.Cond.lays "MoonOverTheHill" "MoonOverTheHill" "isKept" "Z") ∈ ALL := inT_1 209 rfl rfl
theorem w_267 : (Jvm.Cond.laysFinal "MoonOverTheHill" "MoonOverTheHill" "refusals" "[I") ∈ ALL := inT_1 207 rfl rfl
theorem w_265 : (Jvm.Cond.laysFinal "MoonOverTheHill" "MoonOverTheHill" "shelves" "[LMoonOverTheHill$Shelf;") ∈ ALL := inT_1 205 rfl rfl
theorem w_263 : (Jvm.Cond.laysFinal "MoonOverTheHill" "MoonOverTheHill" "places" "LMoonOverTheHill$Places;") ∈ ALL := inT_1 203 rfl rfl
theorem w_261 : (Jvm.Cond.laysFinal "MoonOverTheHill" "MoonOverTheHill" "tape" "LMoonOverTheHill$Tape;") ∈ ALL := inT_1 201 rfl rfl
theorem w_259 : (Jvm.Cond.laysFinal "MoonOverTheHill" "MoonOverTheHill" "moon" "LMoonOverTheHill$Moon;") ∈ ALL := inT_1 199 rfl rfl
theorem w_257 : (Jvm.Cond.laysFinal "MoonOverTheHill" "MoonOverTheHill" "kept" "LMoonOverTheHill$State;") ∈ ALL := inT_1 197 rfl rfl
theorem w_255 : (Jvm.Cond.laysFinal "MoonOverTheHill" "MoonOverTheHill" "draft" "LMoonOverTheHill$State;") ∈ ALL := inT_1 195 rfl rfl
theorem w_253 : (Jvm.Cond.laysFinal "MoonOverTheHill" "MoonOverTheHill" "now" "LMoonOverTheHill$State;") ∈ ALL := inT_1 193 rfl rfl
theorem w_1218 : (Jvm.Cond.lays "MoonOverTheHillModel" "MoonOverTheHillModel" "statements" "I") ∈ ALL := inT_5 198 rfl rfl
theorem w_1216 : (Jvm.Cond.laysFinal "MoonOverTheHillModel" "MoonOverTheHillModel" "told" "[I") ∈ ALL := inT_5 196 rfl rfl
theorem w_1214 : (Jvm.Cond.lays "MoonOverTheHillModel" "MoonOverTheHillModel" "fault" "I") ∈ ALL := inT_5 194 rfl rfl
theorem w_1212 : (Jvm.Cond.lays "MoonOverTheHillModel" "MoonOverTheHillModel" "figures" "I") ∈ ALL := inT_5 192 rfl rfl
theorem w_1210 : (Jvm.Cond.lays "MoonOverTheHillModel" "MoonOverTheHillModel" "from" "I") ∈ ALL := inT_5 190 rfl rfl
theorem w_1208 : (Jvm.Cond.lays "MoonOverTheHillModel" "MoonOverTheHillModel" "token" "I") ∈ ALL := inT_5 188 rfl rfl
theorem w_1206 : (Jvm.Cond.lays "MoonOverTheHillModel" "MoonOverTheHillModel" "at" "I") ∈ ALL := inT_5 186 rfl rfl
theorem w_1204 : (Jvm.Cond.lays "MoonOverTheHillModel" "MoonOverTheHillModel" "tried" "LMoonOverTheHillModel;") ∈ ALL := inT_5 184 rfl rfl
theorem w_1202 : (Jvm.Cond.lays "MoonOverTheHillModel" "MoonOverTheHillModel" "kept" "LMoonOverTheHillModel;") ∈ ALL := inT_5 182 rfl rfl
theorem w_1200 : (Jvm.Cond.lays "MoonOverTheHillModel" "MoonOverTheHillModel" "seed" "I") ∈ ALL := inT_5 180 rfl rfl
theorem w_1198 : (Jvm.Cond.lays "MoonOverTheHillModel" "MoonOverTheHillModel" "looks" "I") ∈ ALL := inT_5 178 rfl rfl
theorem w_1196 : (Jvm.Cond.lays "MoonOverTheHillModel" "MoonOverTheHillModel" "today" "I") ∈ ALL := inT_5 176 rfl rfl
theorem w_1194 : (Jvm.Cond.laysFinal "MoonOverTheHillModel" "MoonOverTheHillModel" "cloud" "[I") ∈ ALL := inT_5 174 rfl rfl
theorem w_1192 : (Jvm.Cond.lays "MoonOverTheHillModel" "MoonOverTheHillModel" "clouds" "I") ∈ ALL := inT_5 172 rfl rfl
theorem w_1190 : (Jvm.Cond.laysFinal "MoonOverTheHillModel" "MoonOverTheHillModel" "stone" "[I") ∈ ALL := inT_5 170 rfl rfl
theorem w_1188 : (Jvm.Cond.lays "MoonOverTheHillModel" "MoonOverTheHillModel" "stones" "I") ∈ ALL := inT_5 168 rfl rfl
theorem w_1186 : (Jvm.Cond.laysFinal "MoonOverTheHillModel" "MoonOverTheHillModel" "notch" "[[I") ∈ ALL := inT_5 166 rfl rfl
theorem w_1184 : (Jvm.Cond.lays "MoonOverTheHillModel" "MoonOverTheHillModel" "notches" "I") ∈ ALL := inT_5 164 rfl rfl
theorem w_1182 : (Jvm.Cond.laysFinal "MoonOverTheHillModel" "MoonOverTheHillModel" "asked" "[I") ∈ ALL := inT_5 162 rfl rfl
theorem w_1180 : (Jvm.Cond.laysFinal "MoonOverTheHillModel" "MoonOverTheHillModel" "refused" "[I") ∈ ALL := inT_5 160 rfl rfl
theorem w_1178 : (Jvm.Cond.lays "MoonOverTheHillModel" "MoonOverTheHillModel" "tapeSize" "I") ∈ ALL := inT_5 158 rfl rfl
theorem w_1176 : (Jvm.Cond.laysFinal "MoonOverTheHillModel" "MoonOverTheHillModel" "tape" "[I") ∈ ALL := inT_5 156 rfl rfl
theorem w_1174 : (Jvm.Cond.laysFinal "MoonOverTheHillModel" "MoonOverTheHillModel" "eveDay" "[I") ∈ ALL := inT_5 154 rfl rfl
theorem w_1172 : (Jvm.Cond.laysFinal "MoonOverTheHillModel" "MoonOverTheHillModel" "eveKind" "[I") ∈ ALL := inT_5 152 rfl rfl
theorem w_1170 : (Jvm.Cond.laysFinal "MoonOverTheHillModel" "MoonOverTheHillModel" "moved" "[J") ∈ ALL := inT_5 150 rfl rfl
theorem w_1168 : (Jvm.Cond.laysFinal "MoonOverTheHillModel" "MoonOverTheHillModel" "rows" "[[J") ∈ ALL := inT_5 148 rfl rfl
theorem w_1166 : (Jvm.Cond.laysFinal "MoonOverTheHillModel" "MoonOverTheHillModel" "rowSize" "[I") ∈ ALL := inT_5 146 rfl rfl
theorem w_1164 : (Jvm.Cond.laysFinal "MoonOverTheHillModel" "MoonOverTheHillModel" "rowSort" "[I") ∈ ALL := inT_5 144 rfl rfl
theorem w_1162 : (Jvm.Cond.laysFinal "MoonOverTheHillModel" "MoonOverTheHillModel" "shelf" "[I") ∈ ALL := inT_5 142 rfl rfl
theorem w_282 : (Jvm.Cond.code ({ cls := "MoonOverTheHill", name := "isIn", desc := "(III)Z" } : Jvm.MethodName) prog_1_method_62_code (3 : Nat) (Option.some Jvm.ClassFile.FieldType.boolean)) ∈ ALL := inT_1 222 rfl rfl
theorem w_373 : (Jvm.Cond.code ({ cls := "MoonOverTheHill", name := "isDay", desc := "(I)Z" } : Jvm.MethodName) prog_1_method_63_code (1 : Nat) (Option.some Jvm.ClassFile.FieldType.boolean)) ∈ ALL := inT_2 73 rfl rfl
theorem w_853 : (Jvm.Cond.code ({ cls := "MoonOverTheHill", name := "areDays", desc := "(II)Z" } : Jvm.MethodName) prog_1_method_64_code (2 : Nat) (Option.some Jvm.ClassFile.FieldType.boolean)) ∈ ALL := inT_4 73 rfl rfl
theorem w_825 : (Jvm.Cond.code ({ cls := "MoonOverTheHill", name := "areMinutes", desc := "(II)Z" } : Jvm.MethodName) prog_1_method_65_code (2 : Nat) (Option.some Jvm.ClassFile.FieldType.boolean)) ∈ ALL := inT_4 45 rfl rfl
theorem w_370 : (Jvm.Cond.code ({ cls := "MoonOverTheHill", name := "isKind", desc := "(I)Z" } : Jvm.MethodName) prog_1_method_66_code (1 : Nat) (Option.some Jvm.ClassFile.FieldType.boolean)) ∈ ALL := inT_2 70 rfl rfl
theorem w_388 : (Jvm.Cond.code ({ cls := "MoonOverTheHill", name := "isUnder", desc := "(II)Z" } : Jvm.MethodName) prog_1_method_67_code (2 : Nat) (Option.some Jvm.ClassFile.FieldType.boolean)) ∈ ALL := inT_2 88 rfl rfl
theorem w_107 : (Jvm.Cond.code ({ cls := "java/lang/Math", name := "max", desc := "(II)I" } : Jvm.MethodName) prog_13_method_65_code (2 : Nat) (Option.some Jvm.ClassFile.FieldType.int)) ∈ ALL := inT_1 47 rfl rfl
theorem w_103 : (Jvm.Cond.code ({ cls := "MoonOverTheHill$Few", name := "<init>", desc := "(I)V" } : Jvm.MethodName) prog_2_method_1_code (2 : Nat) (Option.none : Option Jvm.ClassFile.FieldType)) ∈ ALL := inT_1 43 rfl rfl
theorem w_513 : (Jvm.Cond.code ({ cls := "MoonOverTheHill$Few", name := "count", desc := "()I" } : Jvm.MethodName) prog_2_method_2_code (1 : Nat) (Option.some Jvm.ClassFile.FieldType.int)) ∈ ALL := inT_2 213 rfl rfl
theorem w_568 : (Jvm.Cond.code ({ cls := "MoonOverTheHill$Few", name := "isFull", desc := "()Z" } : Jvm.MethodName) prog_2_method_3_code (1 : Nat) (Option.some Jvm.ClassFile.FieldType.boolean)) ∈ ALL := inT_3 28 rfl rfl
theorem w_576 : (Jvm.Cond.code ({ cls := "MoonOverTheHill$Few", name := "add", desc := "(I)V" } : Jvm.MethodName) prog_2_method_4_code (2 : Nat) (Option.none : Option Jvm.ClassFile.FieldType)) ∈ ALL := inT_3 36 rfl rfl
theorem w_517 : (Jvm.Cond.code ({ cls := "MoonOverTheHill$Few", name := "at", desc := "(I)I" } : Jvm.MethodName) prog_2_method_5_code (2 : Nat) (Option.some Jvm.ClassFile.FieldType.int)) ∈ ALL := inT_2 217 rfl rfl
theorem w_526 : (Jvm.Cond.code ({ cls := "MoonOverTheHill$Few", name := "contains", desc := "(I)Z" } : Jvm.MethodName) prog_2_method_6_code (3 : Nat) (Option.some Jvm.ClassFile.FieldType.boolean)) ∈ ALL := inT_2 226 rfl rfl
theorem w_601 : (Jvm.Cond.code ({ cls := "MoonOverTheHill$Few", name := "empty", desc := "()V" } : Jvm.MethodName) prog_2_method_7_code (1 : Nat) (Option.none : Option Jvm.ClassFile.FieldType)) ∈ ALL := inT_3 61 rfl rfl
theorem w_645 : (Jvm.Cond.code ({ cls := "MoonOverTheHill$Few", name := "become", desc := "(LMoonOverTheHill$Few;)V" } : Jvm.MethodName) prog_2_method_8_code (3 : Nat) (Option.none : Option Jvm.ClassFile.FieldType)) ∈ ALL := inT_3 105 rfl rfl
theorem w_97 : (Jvm.Cond.code ({ cls := "MoonOverTheHill$Hill", name := "<init>", desc := "()V" } : Jvm.MethodName) prog_3_method_1_code (1 : Nat) (Option.none : Option Jvm.ClassFile.FieldType)) ∈ ALL := inT_1 37 rfl rfl
theorem w_509 : (Jvm.Cond.code ({ cls := "MoonOverTheHill$Hill", name := "count", desc := "()I" } : Jvm.MethodName) prog_3_method_2_code (1 : Nat) (Option.some Jvm.ClassFile.FieldType.int)) ∈ ALL := inT_2 209 rfl rfl
theorem w_564 : (Jvm.Cond.code ({ cls := "MoonOverTheHill$Hill", name := "isFull", desc := "()Z" } : Jvm.MethodName) prog_3_method_3_code (1 : Nat) (Option.some Jvm.ClassFile.FieldType.boolean)) ∈ ALL := inT_3 24 rfl rfl
theorem w_572 : (Jvm.Cond.code ({ cls := "MoonOverTheHill$Hill", name := "add", desc := "(III)V" } : Jvm.MethodName) prog_3_method_4_code (5 : Nat) (Option.none : Option Jvm.ClassFile.FieldType)) ∈ ALL := inT_3 32 rfl rfl
theorem w_766 : (Jvm.Cond.code ({ cls := "MoonOverTheHill$Hill", name := "partOf", desc := "(II)I" } : Jvm.MethodName) prog_3_method_5_code (3 : Nat) (Option.some Jvm.ClassFile.FieldType.int)) ∈ ALL := inT_3 226 rfl rfl
theorem w_436 : (Jvm.Cond.code ({ cls := "MoonOverTheHill$Hill", name := "lineAt", desc := "(I)I" } : Jvm.MethodName) prog_3_method_6_code (2 : Nat) (Option.some Jvm.ClassFile.FieldType.int)) ∈ ALL := inT_2 136 rfl rfl
theorem w_432 : (Jvm.Cond.code ({ cls := "MoonOverTheHill$Hill", name := "overFrom", desc := "(I)I" } : Jvm.MethodName) prog_3_method_7_code (5 : Nat) (Option.some Jvm.ClassFile.FieldType.int)) ∈ ALL := inT_2 132 rfl rfl
theorem w_505 : (Jvm.Cond.code ({ cls := "MoonOverTheHill$Hill", name := "makerOf", desc := "(I)I" } : Jvm.MethodName) prog_3_method_8_code (3 : Nat) (Option.some Jvm.ClassFile.FieldType.int)) ∈ ALL := inT_2 205 rfl rfl
theorem w_604 : (Jvm.Cond.code ({ cls := "java/util/Arrays", name := "fill", desc := "([II)V" } : Jvm.MethodName) prog_18_method_103_code (4 : Nat) (Option.none : Option Jvm.ClassFile.FieldType)) ∈ ALL := inT_3 64 rfl rfl
theorem w_597 : (Jvm.Cond.code ({ cls := "MoonOverTheHill$Hill", name := "empty", desc := "()V" } : Jvm.MethodName) prog_3_method_9_code (1 : Nat) (Option.none : Option Jvm.ClassFile.FieldType)) ∈ ALL := inT_3 57 rfl rfl
theorem w_641 : (Jvm.Cond.code ({ cls := "MoonOverTheHill$Hill", name := "become", desc := "(LMoonOverTheHill$Hill;)V" } : Jvm.MethodName) prog_3_method_10_code (2 : Nat) (Option.none : Option Jvm.ClassFile.FieldType)) ∈ ALL := inT_3 101 rfl rfl
theorem w_458 : (Jvm.Cond.code ({ cls := "MoonOverTheHill$Question", name := "<init>", desc := "(IIIILMoonOverTheHill$Shelf;)V" } : Jvm.MethodName) prog_6_method_1_code (6 : Nat) (Option.none : Option Jvm.ClassFile.FieldType)) ∈ ALL := inT_2 158 rfl rfl
theorem w_455 : (Jvm.Cond.code ({ cls := "MoonOverTheHill$Question", name := "<init>", desc := "(I)V" } : Jvm.MethodName) prog_6_method_2_code (2 : Nat) (Option.none : Option Jvm.ClassFile.FieldType)) ∈ ALL := inT_2 155 rfl rfl
theorem w_860 : (Jvm.Cond.code ({ cls := "MoonOverTheHill$Question", name := "<init>", desc := "(IIII)V" } : Jvm.MethodName) prog_6_method_3_code (5 : Nat) (Option.none : Option Jvm.ClassFile.FieldType)) ∈ ALL := inT_4 80 rfl rfl
theorem w_954 : (Jvm.Cond.code ({ cls := "MoonOverTheHill$Question", name := "<init>", desc := "(LMoonOverTheHill$Shelf;)V" } : Jvm.MethodName) prog_6_method_4_code (2 : Nat) (Option.none : Option Jvm.ClassFile.FieldType)) ∈ ALL := inT_4 174 rfl rfl
theorem w_228 : (Jvm.Cond.code ({ cls := "MoonOverTheHill$Shelf", name := "<init>", desc := "()V" } : Jvm.MethodName) prog_7_method_1_code (1 : Nat) (Option.none : Option Jvm.ClassFile.FieldType)) ∈ ALL := inT_1 168 rfl rfl
theorem w_363 : (Jvm.Cond.code ({ cls := "MoonOverTheHill$Shelf", name := "content", desc := "()I" } : Jvm.MethodName) prog_7_method_2_code (1 : Nat) (Option.some Jvm.ClassFile.FieldType.int)) ∈ ALL := inT_2 63 rfl rfl
theorem w_312 : (Jvm.Cond.code ({ cls := "MoonOverTheHill$Shelf", name := "isBare", desc := "()Z" } : Jvm.MethodName) prog_7_method_3_code (1 : Nat) (Option.some Jvm.ClassFile.FieldType.boolean)) ∈ ALL := inT_2 12 rfl rfl
theorem w_308 : (Jvm.Cond.code ({ cls := "MoonOverTheHill$Shelf", name := "isEvening", desc := "()Z" } : Jvm.MethodName) prog_7_method_4_code (1 : Nat) (Option.some Jvm.ClassFile.FieldType.boolean)) ∈ ALL := inT_2 8 rfl rfl
theorem w_337 : (Jvm.Cond.code ({ cls := "MoonOverTheHill$Shelf", name := "isRow", desc := "()Z" } : Jvm.MethodName) prog_7_method_5_code (1 : Nat) (Option.some Jvm.ClassFile.FieldType.boolean)) ∈ ALL := inT_2 37 rfl rfl
theorem w_333 : (Jvm.Cond.code ({ cls := "MoonOverTheHill$Shelf", name := "isRowOfOtherSort", desc := "(LMoonOverTheHill$Shelf;)Z" } : Jvm.MethodName) prog_7_method_6_code (2 : Nat) (Option.some Jvm.ClassFile.FieldType.boolean)) ∈ ALL := inT_2 33 rfl rfl
theorem w_385 : (Jvm.Cond.code ({ cls := "MoonOverTheHill$Shelf", name := "kind", desc := "()I" } : Jvm.MethodName) prog_7_method_7_code (1 : Nat) (Option.some Jvm.ClassFile.FieldType.int)) ∈ ALL := inT_2 85 rfl rfl
theorem w_392 : (Jvm.Cond.code ({ cls := "MoonOverTheHill$Shelf", name := "day", desc := "()I" } : Jvm.MethodName) prog_7_method_8_code (1 : Nat) (Option.some Jvm.ClassFile.FieldType.int)) ∈ ALL := inT_2 92 rfl rfl
theorem w_304 : (Jvm.Cond.code ({ cls := "MoonOverTheHill$Shelf", name := "refusalAsRow", desc := "(I)I" } : Jvm.MethodName) prog_7_method_9_code (2 : Nat) (Option.some Jvm.ClassFile.FieldType.int)) ∈ ALL := inT_2 4 rfl rfl
theorem w_293 : (Jvm.Cond.code ({ cls := "java/lang/Math", name := "min", desc := "(II)I" } : Jvm.MethodName) prog_13_method_69_code (2 : Nat) (Option.some Jvm.ClassFile.FieldType.int)) ∈ ALL := inT_1 233 rfl rfl
theorem w_296 : (Jvm.Cond.code ({ cls := "java/util/Arrays", name := "fill", desc := "([JJ)V" } : Jvm.MethodName) prog_18_method_101_code (5 : Nat) (Option.none : Option Jvm.ClassFile.FieldType)) ∈ ALL := inT_1 236 rfl rfl
theorem w_290 : (Jvm.Cond.code ({ cls := "MoonOverTheHill$Shelf", name := "putRow", desc := "(II)V" } : Jvm.MethodName) prog_7_method_10_code (3 : Nat) (Option.none : Option Jvm.ClassFile.FieldType)) ∈ ALL := inT_1 230 rfl rfl
theorem w_377 : (Jvm.Cond.code ({ cls := "MoonOverTheHill$Shelf", name := "putEvening", desc := "(II)V" } : Jvm.MethodName) prog_7_method_11_code (3 : Nat) (Option.none : Option Jvm.ClassFile.FieldType)) ∈ ALL := inT_2 77 rfl rfl
theorem w_316 : (Jvm.Cond.code ({ cls := "MoonOverTheHill$Shelf", name := "hasPlaces", desc := "(II)Z" } : Jvm.MethodName) prog_7_method_12_code (3 : Nat) (Option.some Jvm.ClassFile.FieldType.boolean)) ∈ ALL := inT_2 16 rfl rfl
theorem w_355 : (Jvm.Cond.code ({ cls := "MoonOverTheHill$Shelf", name := "at", desc := "(I)J" } : Jvm.MethodName) prog_7_method_13_code (2 : Nat) (Option.some Jvm.ClassFile.FieldType.long)) ∈ ALL := inT_2 55 rfl rfl
theorem w_324 : (Jvm.Cond.code ({ cls := "MoonOverTheHill$Shelf", name := "cut", desc := "(J)J" } : Jvm.MethodName) prog_7_method_15_code (3 : Nat) (Option.some Jvm.ClassFile.FieldType.long)) ∈ ALL := inT_2 24 rfl rfl
theorem w_320 : (Jvm.Cond.code ({ cls := "MoonOverTheHill$Shelf", name := "put", desc := "(IJ)V" } : Jvm.MethodName) prog_7_method_14_code (4 : Nat) (Option.none : Option Jvm.ClassFile.FieldType)) ∈ ALL := inT_2 20 rfl rfl
theorem w_342 : (Jvm.Cond.code ({ cls := "MoonOverTheHill$Shelf", name := "take", desc := "(LMoonOverTheHill$Shelf;III)V" } : Jvm.MethodName) prog_7_method_16_code (5 : Nat) (Option.none : Option Jvm.ClassFile.FieldType)) ∈ ALL := inT_2 42 rfl rfl
theorem w_975 : (Jvm.Cond.code ({ cls := "MoonOverTheHill$Shelf", name := "timesOf", desc := "(JI)I" } : Jvm.MethodName) prog_7_method_17_code (6 : Nat) (Option.some Jvm.ClassFile.FieldType.int)) ∈ ALL := inT_4 195 rfl rfl
theorem w_543 : (Jvm.Cond.code ({ cls := "MoonOverTheHill$Shelf", name := "isSpan", desc := "(II)Z" } : Jvm.MethodName) prog_7_method_18_code (3 : Nat) (Option.some Jvm.ClassFile.FieldType.boolean)) ∈ ALL := inT_3 3 rfl rfl
theorem w_1008 : (Jvm.Cond.code ({ cls := "MoonOverTheHill$Shelf", name := "isMonthCount", desc := "(I)Z" } : Jvm.MethodName) prog_7_method_19_code (2 : Nat) (Option.some Jvm.ClassFile.FieldType.boolean)) ∈ ALL := inT_4 228 rfl rfl
theorem w_1004 : (Jvm.Cond.code ({ cls := "MoonOverTheHill$Shelf", name := "monthCounts", desc := "(I)I" } : Jvm.MethodName) prog_7_method_20_code (4 : Nat) (Option.some Jvm.ClassFile.FieldType.int)) ∈ ALL := inT_4 224 rfl rfl
theorem w_1014 : (Jvm.Cond.code ({ cls := "MoonOverTheHill$Shelf", name := "longestRun", desc := "(I)I" } : Jvm.MethodName) prog_7_method_21_code (5 : Nat) (Option.some Jvm.ClassFile.FieldType.int)) ∈ ALL := inT_4 234 rfl rfl
theorem w_1022 : (Jvm.Cond.code ({ cls := "MoonOverTheHill$Shelf", name := "isThreeMonths", desc := "(JJJ)Z" } : Jvm.MethodName) prog_7_method_23_code (10 : Nat) (Option.some Jvm.ClassFile.FieldType.boolean)) ∈ ALL := inT_5 2 rfl rfl
theorem w_1019 : (Jvm.Cond.code ({ cls := "MoonOverTheHill$Shelf", name := "threesOfMonths", desc := "(I)I" } : Jvm.MethodName) prog_7_method_22_code (4 : Nat) (Option.some Jvm.ClassFile.FieldType.int)) ∈ ALL := inT_4 239 rfl rfl
theorem w_91 : (Jvm.Cond.code ({ cls := "MoonOverTheHill$State", name := "<init>", desc := "()V" } : Jvm.MethodName) prog_8_method_1_code (1 : Nat) (Option.none : Option Jvm.ClassFile.FieldType)) ∈ ALL := inT_1 31 rfl rfl
theorem w_552 : (Jvm.Cond.code ({ cls := "MoonOverTheHill$State", name := "askedOf", desc := "(I)I" } : Jvm.MethodName) prog_8_method_2_code (2 : Nat) (Option.some Jvm.ClassFile.FieldType.int)) ∈ ALL := inT_3 12 rfl rfl
theorem w_556 : (Jvm.Cond.code ({ cls := "MoonOverTheHill$State", name := "setAsked", desc := "(II)V" } : Jvm.MethodName) prog_8_method_3_code (3 : Nat) (Option.none : Option Jvm.ClassFile.FieldType)) ∈ ALL := inT_3 16 rfl rfl
theorem w_1093 : (Jvm.Cond.code ({ cls := "MoonOverTheHill$State", name := "draw", desc := "(I)I" } : Jvm.MethodName) prog_8_method_4_code (2 : Nat) (Option.some Jvm.ClassFile.FieldType.int)) ∈ ALL := inT_5 73 rfl rfl
theorem w_637 : (Jvm.Cond.code ({ cls := "MoonOverTheHill$State", name := "become", desc := "(LMoonOverTheHill$State;)V" } : Jvm.MethodName) prog_8_method_5_code (2 : Nat) (Option.none : Option Jvm.ClassFile.FieldType)) ∈ ALL := inT_3 97 rfl rfl
theorem w_1073 : (Jvm.Cond.code ({ cls := "java/lang/Integer", name := "bitCount", desc := "(I)I" } : Jvm.MethodName) prog_12_method_49_code (1 : Nat) (Option.some Jvm.ClassFile.FieldType.int)) ∈ ALL := inT_5 53 rfl rfl
theorem w_928 : (Jvm.Cond.code ({ cls := "java/lang/Math", name := "floorDiv", desc := "(II)I" } : Jvm.MethodName) prog_13_method_47_code (3 : Nat) (Option.some Jvm.ClassFile.FieldType.int)) ∈ ALL := inT_4 148 rfl rfl
theorem w_425 : (Jvm.Cond.code ({ cls := "java/lang/Math", name := "floorMod", desc := "(II)I" } : Jvm.MethodName) prog_13_method_50_code (3 : Nat) (Option.some Jvm.ClassFile.FieldType.int)) ∈ ALL := inT_2 125 rfl rfl
theorem w_403 : (Jvm.Cond.code ({ cls := "java/lang/Math", name := "abs", desc := "(I)I" } : Jvm.MethodName) prog_13_method_59_code (1 : Nat) (Option.some Jvm.ClassFile.FieldType.int)) ∈ ALL := inT_2 103 rfl rfl
theorem w_182 : (Jvm.Cond.code ({ cls := "MoonOverTheHill$Moon", name := "<init>", desc := "(LMoonOverTheHill$State;)V" } : Jvm.MethodName) prog_4_method_1_code (2 : Nat) (Option.none : Option Jvm.ClassFile.FieldType)) ∈ ALL := inT_1 122 rfl rfl
theorem w_845 : (Jvm.Cond.code ({ cls := "MoonOverTheHill$Moon", name := "lastOf", desc := "(II)I" } : Jvm.MethodName) prog_4_method_2_code (2 : Nat) (Option.some Jvm.ClassFile.FieldType.int)) ∈ ALL := inT_4 65 rfl rfl
theorem w_400 : (Jvm.Cond.code ({ cls := "MoonOverTheHill$Moon", name := "ageOf", desc := "(I)I" } : Jvm.MethodName) prog_4_method_3_code (2 : Nat) (Option.some Jvm.ClassFile.FieldType.int)) ∈ ALL := inT_2 100 rfl rfl
theorem w_539 : (Jvm.Cond.code ({ cls := "MoonOverTheHill$Moon", name := "litOf", desc := "(I)I" } : Jvm.MethodName) prog_4_method_4_code (3 : Nat) (Option.some Jvm.ClassFile.FieldType.int)) ∈ ALL := inT_2 239 rfl rfl
theorem w_419 : (Jvm.Cond.code ({ cls := "MoonOverTheHill$Moon", name := "outOf", desc := "(I)I" } : Jvm.MethodName) prog_4_method_5_code (3 : Nat) (Option.some Jvm.ClassFile.FieldType.int)) ∈ ALL := inT_2 119 rfl rfl
theorem w_415 : (Jvm.Cond.code ({ cls := "MoonOverTheHill$Moon", name := "slantOf", desc := "(I)I" } : Jvm.MethodName) prog_4_method_6_code (4 : Nat) (Option.some Jvm.ClassFile.FieldType.int)) ∈ ALL := inT_2 115 rfl rfl
theorem w_422 : (Jvm.Cond.code ({ cls := "MoonOverTheHill$Moon", name := "riseBy", desc := "(II)I" } : Jvm.MethodName) prog_4_method_7_code (2 : Nat) (Option.some Jvm.ClassFile.FieldType.int)) ∈ ALL := inT_2 122 rfl rfl
theorem w_428 : (Jvm.Cond.code ({ cls := "MoonOverTheHill$Moon", name := "wayBy", desc := "(I)I" } : Jvm.MethodName) prog_4_method_8_code (1 : Nat) (Option.some Jvm.ClassFile.FieldType.int)) ∈ ALL := inT_2 128 rfl rfl
theorem w_791 : (Jvm.Cond.code ({ cls := "MoonOverTheHill$Moon", name := "riseOf", desc := "(I)I" } : Jvm.MethodName) prog_4_method_9_code (2 : Nat) (Option.some Jvm.ClassFile.FieldType.int)) ∈ ALL := inT_4 11 rfl rfl
theorem w_497 : (Jvm.Cond.code ({ cls := "MoonOverTheHill$Moon", name := "wayOf", desc := "(I)I" } : Jvm.MethodName) prog_4_method_10_code (2 : Nat) (Option.some Jvm.ClassFile.FieldType.int)) ∈ ALL := inT_2 197 rfl rfl
theorem w_796 : (Jvm.Cond.code ({ cls := "MoonOverTheHill$Moon", name := "overOf", desc := "(I)I" } : Jvm.MethodName) prog_4_method_11_code (2 : Nat) (Option.some Jvm.ClassFile.FieldType.int)) ∈ ALL := inT_4 16 rfl rfl
theorem w_411 : (Jvm.Cond.code ({ cls := "MoonOverTheHill$Moon", name := "upOf", desc := "(I)I" } : Jvm.MethodName) prog_4_method_12_code (3 : Nat) (Option.some Jvm.ClassFile.FieldType.int)) ∈ ALL := inT_2 111 rfl rfl
theorem w_407 : (Jvm.Cond.code ({ cls := "MoonOverTheHill$Moon", name := "laterOf", desc := "(I)I" } : Jvm.MethodName) prog_4_method_13_code (2 : Nat) (Option.some Jvm.ClassFile.FieldType.int)) ∈ ALL := inT_2 107 rfl rfl
theorem w_493 : (Jvm.Cond.code ({ cls := "MoonOverTheHill$Moon", name := "degreeOf", desc := "(I)I" } : Jvm.MethodName) prog_4_method_14_code (3 : Nat) (Option.some Jvm.ClassFile.FieldType.int)) ∈ ALL := inT_2 193 rfl rfl
theorem w_501 : (Jvm.Cond.code ({ cls := "MoonOverTheHill$Moon", name := "behindOf", desc := "(I)I" } : Jvm.MethodName) prog_4_method_15_code (4 : Nat) (Option.some Jvm.ClassFile.FieldType.int)) ∈ ALL := inT_2 201 rfl rfl
theorem w_444 : (Jvm.Cond.code ({ cls := "MoonOverTheHill$Moon", name := "shinesFrom", desc := "(III)I" } : Jvm.MethodName) prog_4_method_16_code (6 : Nat) (Option.some Jvm.ClassFile.FieldType.int)) ∈ ALL := inT_2 144 rfl rfl
theorem w_441 : (Jvm.Cond.code ({ cls := "MoonOverTheHill$Moon", name := "shinesOf", desc := "(III)I" } : Jvm.MethodName) prog_4_method_17_code (4 : Nat) (Option.some Jvm.ClassFile.FieldType.int)) ∈ ALL := inT_2 141 rfl rfl
theorem w_834 : (Jvm.Cond.code ({ cls := "MoonOverTheHill$Moon", name := "lightOf", desc := "(III)I" } : Jvm.MethodName) prog_4_method_18_code (4 : Nat) (Option.some Jvm.ClassFile.FieldType.int)) ∈ ALL := inT_4 54 rfl rfl
theorem w_488 : (Jvm.Cond.code ({ cls := "MoonOverTheHill$Moon", name := "isFull", desc := "(I)Z" } : Jvm.MethodName) prog_4_method_19_code (2 : Nat) (Option.some Jvm.ClassFile.FieldType.boolean)) ∈ ALL := inT_2 188 rfl rfl
theorem w_396 : (Jvm.Cond.code ({ cls := "MoonOverTheHill$Moon", name := "saysOf", desc := "(II)I" } : Jvm.MethodName) prog_4_method_20_code (3 : Nat) (Option.some Jvm.ClassFile.FieldType.int)) ∈ ALL := inT_2 96 rfl rfl
theorem w_522 : (Jvm.Cond.code ({ cls := "MoonOverTheHill$Moon", name := "isAtNode", desc := "(I)Z" } : Jvm.MethodName) prog_4_method_26_code (3 : Nat) (Option.some Jvm.ClassFile.FieldType.boolean)) ∈ ALL := inT_2 222 rfl rfl
theorem w_535 : (Jvm.Cond.code ({ cls := "MoonOverTheHill$Moon", name := "minutesUp", desc := "(II)I" } : Jvm.MethodName) prog_4_method_27_code (3 : Nat) (Option.some Jvm.ClassFile.FieldType.int)) ∈ ALL := inT_2 235 rfl rfl
theorem w_531 : (Jvm.Cond.code ({ cls := "MoonOverTheHill$Moon", name := "isAsPictured", desc := "(LMoonOverTheHill$Shelf;I)Z" } : Jvm.MethodName) prog_4_method_30_code (6 : Nat) (Option.some Jvm.ClassFile.FieldType.boolean)) ∈ ALL := inT_2 231 rfl rfl
theorem w_484 : (Jvm.Cond.code ({ cls := "MoonOverTheHill$Moon", name := "fits", desc := "(LMoonOverTheHill$Question;I)Z" } : Jvm.MethodName) prog_4_method_21_code (3 : Nat) (Option.some Jvm.ClassFile.FieldType.boolean)) ∈ ALL := inT_2 184 rfl rfl
theorem w_842 : (Jvm.Cond.code ({ cls := "MoonOverTheHill$Moon", name := "pick", desc := "(IIILMoonOverTheHill$Question;)I" } : Jvm.MethodName) prog_4_method_22_code (8 : Nat) (Option.some Jvm.ClassFile.FieldType.int)) ∈ ALL := inT_4 62 rfl rfl
theorem w_876 : (Jvm.Cond.code ({ cls := "MoonOverTheHill$Moon", name := "meritOf", desc := "(II)I" } : Jvm.MethodName) prog_4_method_24_code (3 : Nat) (Option.some Jvm.ClassFile.FieldType.int)) ∈ ALL := inT_4 96 rfl rfl
theorem w_872 : (Jvm.Cond.code ({ cls := "MoonOverTheHill$Moon", name := "bestOf", desc := "(III)I" } : Jvm.MethodName) prog_4_method_23_code (9 : Nat) (Option.some Jvm.ClassFile.FieldType.int)) ∈ ALL := inT_4 92 rfl rfl
theorem w_925 : (Jvm.Cond.code ({ cls := "MoonOverTheHill$Moon", name := "newDaysTill", desc := "(I)I" } : Jvm.MethodName) prog_4_method_25_code (3 : Nat) (Option.some Jvm.ClassFile.FieldType.int)) ∈ ALL := inT_4 145 rfl rfl
theorem w_940 : (Jvm.Cond.code ({ cls := "MoonOverTheHill$Moon", name := "heightAt", desc := "(II)I" } : Jvm.MethodName) prog_4_method_28_code (4 : Nat) (Option.some Jvm.ClassFile.FieldType.int)) ∈ ALL := inT_4 160 rfl rfl
theorem w_945 : (Jvm.Cond.code ({ cls := "MoonOverTheHill$Moon", name := "degreeAt", desc := "(II)I" } : Jvm.MethodName) prog_4_method_29_code (5 : Nat) (Option.some Jvm.ClassFile.FieldType.int)) ∈ ALL := inT_4 165 rfl rfl
theorem w_970 : (Jvm.Cond.code ({ cls := "MoonOverTheHill$Moon", name := "couldBegin", desc := "(J)Z" } : Jvm.MethodName) prog_4_method_31_code (3 : Nat) (Option.some Jvm.ClassFile.FieldType.boolean)) ∈ ALL := inT_4 190 rfl rfl
theorem w_991 : (Jvm.Cond.code ({ cls := "MoonOverTheHill$Moon", name := "highWaterOf", desc := "(I)I" } : Jvm.MethodName) prog_4_method_32_code (2 : Nat) (Option.some Jvm.ClassFile.FieldType.int)) ∈ ALL := inT_4 211 rfl rfl
theorem w_987 : (Jvm.Cond.code ({ cls := "MoonOverTheHill$Moon", name := "tideAt", desc := "(II)I" } : Jvm.MethodName) prog_4_method_33_code (5 : Nat) (Option.some Jvm.ClassFile.FieldType.int)) ∈ ALL := inT_4 207 rfl rfl
theorem w_217 : (Jvm.Cond.code ({ cls := "MoonOverTheHill$Places", name := "<init>", desc := "()V" } : Jvm.MethodName) prog_5_method_1_code (1 : Nat) (Option.none : Option Jvm.ClassFile.FieldType)) ∈ ALL := inT_1 157 rfl rfl
theorem w_1033 : (Jvm.Cond.code ({ cls := "MoonOverTheHill$Places", name := "gather", desc := "(LMoonOverTheHill$Moon;II)V" } : Jvm.MethodName) prog_5_method_2_code (7 : Nat) (Option.none : Option Jvm.ClassFile.FieldType)) ∈ ALL := inT_5 13 rfl rfl
theorem w_1044 : (Jvm.Cond.code ({ cls := "MoonOverTheHill$Places", name := "near", desc := "(II)I" } : Jvm.MethodName) prog_5_method_3_code (5 : Nat) (Option.some Jvm.ClassFile.FieldType.int)) ∈ ALL := inT_5 24 rfl rfl
theorem w_1053 : (Jvm.Cond.code ({ cls := "MoonOverTheHill$Places", name := "degreesThatHit", desc := "(I)I" } : Jvm.MethodName) prog_5_method_4_code (4 : Nat) (Option.some Jvm.ClassFile.FieldType.int)) ∈ ALL := inT_5 33 rfl rfl
theorem w_1066 : (Jvm.Cond.code ({ cls := "MoonOverTheHill$Places", name := "fullest", desc := "(I)I" } : Jvm.MethodName) prog_5_method_5_code (6 : Nat) (Option.some Jvm.ClassFile.FieldType.int)) ∈ ALL := inT_5 46 rfl rfl
theorem w_1127 : (Jvm.Cond.code ({ cls := "MoonOverTheHillModel", name := "<init>", desc := "()V" } : Jvm.MethodName) prog_11_method_1_code (1 : Nat) (Option.none : Option Jvm.ClassFile.FieldType)) ∈ ALL := inT_5 107 rfl rfl
theorem w_1234 : (Jvm.Cond.code ({ cls := "MoonOverTheHillModel", name := "refuse", desc := "(I)I" } : Jvm.MethodName) prog_11_method_2_code (2 : Nat) (Option.some Jvm.ClassFile.FieldType.int)) ∈ ALL := inT_5 214 rfl rfl
theorem w_1228 : (Jvm.Cond.code ({ cls := "MoonOverTheHillModel", name := "in", desc := "(JJJ)Z" } : Jvm.MethodName) prog_11_method_3_code (6 : Nat) (Option.some Jvm.ClassFile.FieldType.boolean)) ∈ ALL := inT_5 208 rfl rfl
theorem w_1265 : (Jvm.Cond.code ({ cls := "MoonOverTheHillModel", name := "isDay", desc := "(J)Z" } : Jvm.MethodName) prog_11_method_4_code (2 : Nat) (Option.some Jvm.ClassFile.FieldType.boolean)) ∈ ALL := inT_6 5 rfl rfl
theorem w_1508 : (Jvm.Cond.code ({ cls := "MoonOverTheHillModel", name := "areDays", desc := "(II)Z" } : Jvm.MethodName) prog_11_method_5_code (2 : Nat) (Option.some Jvm.ClassFile.FieldType.boolean)) ∈ ALL := inT_7 8 rfl rfl
theorem w_1501 : (Jvm.Cond.code ({ cls := "MoonOverTheHillModel", name := "lastOf", desc := "(II)I" } : Jvm.MethodName) prog_11_method_6_code (2 : Nat) (Option.some Jvm.ClassFile.FieldType.int)) ∈ ALL := inT_7 1 rfl rfl
theorem w_1224 : (Jvm.Cond.code ({ cls := "MoonOverTheHillModel", name := "row", desc := "(III)I" } : Jvm.MethodName) prog_11_method_7_code (5 : Nat) (Option.some Jvm.ClassFile.FieldType.int)) ∈ ALL := inT_5 204 rfl rfl
theorem w_1245 : (Jvm.Cond.code ({ cls := "MoonOverTheHillModel", name := "fit", desc := "(IJ)J" } : Jvm.MethodName) prog_11_method_8_code (3 : Nat) (Option.some Jvm.ClassFile.FieldType.long)) ∈ ALL := inT_5 225 rfl rfl
theorem w_1242 : (Jvm.Cond.code ({ cls := "MoonOverTheHillModel", name := "noRow", desc := "(I)I" } : Jvm.MethodName) prog_11_method_9_code (2 : Nat) (Option.some Jvm.ClassFile.FieldType.int)) ∈ ALL := inT_5 222 rfl rfl
theorem w_1238 : (Jvm.Cond.code ({ cls := "MoonOverTheHillModel", name := "set", desc := "(IIJ)I" } : Jvm.MethodName) prog_11_method_10_code (6 : Nat) (Option.some Jvm.ClassFile.FieldType.int)) ∈ ALL := inT_5 218 rfl rfl
theorem w_1249 : (Jvm.Cond.code ({ cls := "MoonOverTheHillModel", name := "copy", desc := "(IIIII)I" } : Jvm.MethodName) prog_11_method_11_code (7 : Nat) (Option.some Jvm.ClassFile.FieldType.int)) ∈ ALL := inT_5 229 rfl rfl
theorem w_1253 : (Jvm.Cond.code ({ cls := "MoonOverTheHillModel", name := "element", desc := "(II)J" } : Jvm.MethodName) prog_11_method_12_code (3 : Nat) (Option.some Jvm.ClassFile.FieldType.long)) ∈ ALL := inT_5 233 rfl rfl
theorem w_1257 : (Jvm.Cond.code ({ cls := "MoonOverTheHillModel", name := "holds", desc := "(I)I" } : Jvm.MethodName) prog_11_method_13_code (2 : Nat) (Option.some Jvm.ClassFile.FieldType.int)) ∈ ALL := inT_5 237 rfl rfl
theorem w_1261 : (Jvm.Cond.code ({ cls := "MoonOverTheHillModel", name := "evening", desc := "(III)I" } : Jvm.MethodName) prog_11_method_14_code (4 : Nat) (Option.some Jvm.ClassFile.FieldType.int)) ∈ ALL := inT_6 1 rfl rfl
theorem w_1273 : (Jvm.Cond.code ({ cls := "MoonOverTheHillModel", name := "isUnder", desc := "(II)Z" } : Jvm.MethodName) prog_11_method_15_code (2 : Nat) (Option.some Jvm.ClassFile.FieldType.boolean)) ∈ ALL := inT_6 13 rfl rfl
theorem w_1277 : (Jvm.Cond.code ({ cls := "MoonOverTheHillModel", name := "age", desc := "(I)I" } : Jvm.MethodName) prog_11_method_42_code (2 : Nat) (Option.some Jvm.ClassFile.FieldType.int)) ∈ ALL := inT_6 17 rfl rfl
theorem w_1297 : (Jvm.Cond.code ({ cls := "MoonOverTheHillModel", name := "out", desc := "(I)I" } : Jvm.MethodName) prog_11_method_44_code (3 : Nat) (Option.some Jvm.ClassFile.FieldType.int)) ∈ ALL := inT_6 37 rfl rfl
theorem w_1293 : (Jvm.Cond.code ({ cls := "MoonOverTheHillModel", name := "slantOf", desc := "(I)I" } : Jvm.MethodName) prog_11_method_45_code (4 : Nat) (Option.some Jvm.ClassFile.FieldType.int)) ∈ ALL := inT_6 33 rfl rfl
theorem w_1300 : (Jvm.Cond.code ({ cls := "MoonOverTheHillModel", name := "mod", desc := "(II)I" } : Jvm.MethodName) prog_11_method_41_code (3 : Nat) (Option.some Jvm.ClassFile.FieldType.int)) ∈ ALL := inT_6 40 rfl rfl
theorem w_1289 : (Jvm.Cond.code ({ cls := "MoonOverTheHillModel", name := "rise", desc := "(I)I" } : Jvm.MethodName) prog_11_method_46_code (2 : Nat) (Option.some Jvm.ClassFile.FieldType.int)) ∈ ALL := inT_6 29 rfl rfl
theorem w_1308 : (Jvm.Cond.code ({ cls := "MoonOverTheHillModel", name := "way", desc := "(I)I" } : Jvm.MethodName) prog_11_method_47_code (2 : Nat) (Option.some Jvm.ClassFile.FieldType.int)) ∈ ALL := inT_6 48 rfl rfl
theorem w_1312 : (Jvm.Cond.code ({ cls := "MoonOverTheHillModel", name := "lineAt", desc := "(I)I" } : Jvm.MethodName) prog_11_method_48_code (5 : Nat) (Option.some Jvm.ClassFile.FieldType.int)) ∈ ALL := inT_6 52 rfl rfl
theorem w_1304 : (Jvm.Cond.code ({ cls := "MoonOverTheHillModel", name := "over", desc := "(I)I" } : Jvm.MethodName) prog_11_method_50_code (4 : Nat) (Option.some Jvm.ClassFile.FieldType.int)) ∈ ALL := inT_6 44 rfl rfl
theorem w_1285 : (Jvm.Cond.code ({ cls := "MoonOverTheHillModel", name := "up", desc := "(I)I" } : Jvm.MethodName) prog_11_method_51_code (2 : Nat) (Option.some Jvm.ClassFile.FieldType.int)) ∈ ALL := inT_6 25 rfl rfl
theorem w_1281 : (Jvm.Cond.code ({ cls := "MoonOverTheHillModel", name := "later", desc := "(I)I" } : Jvm.MethodName) prog_11_method_53_code (2 : Nat) (Option.some Jvm.ClassFile.FieldType.int)) ∈ ALL := inT_6 21 rfl rfl
theorem w_1316 : (Jvm.Cond.code ({ cls := "MoonOverTheHillModel", name := "shinesIn", desc := "(III)I" } : Jvm.MethodName) prog_11_method_60_code (7 : Nat) (Option.some Jvm.ClassFile.FieldType.int)) ∈ ALL := inT_6 56 rfl rfl
theorem w_1270 : (Jvm.Cond.code ({ cls := "MoonOverTheHillModel", name := "says", desc := "(II)I" } : Jvm.MethodName) prog_11_method_16_code (5 : Nat) (Option.some Jvm.ClassFile.FieldType.int)) ∈ ALL := inT_6 10 rfl rfl
theorem w_1324 : (Jvm.Cond.code ({ cls := "MoonOverTheHillModel", name := "isOf", desc := "(II)Z" } : Jvm.MethodName) prog_11_method_58_code (3 : Nat) (Option.some Jvm.ClassFile.FieldType.boolean)) ∈ ALL := inT_6 64 rfl rfl
theorem w_1320 : (Jvm.Cond.code ({ cls := "MoonOverTheHillModel", name := "isSo", desc := "(I)I" } : Jvm.MethodName) prog_11_method_17_code (2 : Nat) (Option.some Jvm.ClassFile.FieldType.int)) ∈ ALL := inT_6 60 rfl rfl
theorem w_1330 : (Jvm.Cond.code ({ cls := "MoonOverTheHillModel", name := "ask", desc := "(II)I" } : Jvm.MethodName) prog_11_method_18_code (4 : Nat) (Option.some Jvm.ClassFile.FieldType.int)) ∈ ALL := inT_6 70 rfl rfl
theorem w_1342 : (Jvm.Cond.code ({ cls := "MoonOverTheHillModel", name := "addNotch", desc := "(III)V" } : Jvm.MethodName) prog_11_method_19_code (4 : Nat) (Option.none : Option Jvm.ClassFile.FieldType)) ∈ ALL := inT_6 82 rfl rfl
theorem w_1336 : (Jvm.Cond.code ({ cls := "MoonOverTheHillModel", name := "notch", desc := "(III)I" } : Jvm.MethodName) prog_11_method_20_code (4 : Nat) (Option.some Jvm.ClassFile.FieldType.int)) ∈ ALL := inT_6 76 rfl rfl
theorem w_1346 : (Jvm.Cond.code ({ cls := "MoonOverTheHillModel", name := "stone", desc := "(I)I" } : Jvm.MethodName) prog_11_method_21_code (2 : Nat) (Option.some Jvm.ClassFile.FieldType.int)) ∈ ALL := inT_6 86 rfl rfl
theorem w_1354 : (Jvm.Cond.code ({ cls := "MoonOverTheHillModel", name := "isCloud", desc := "(I)Z" } : Jvm.MethodName) prog_11_method_22_code (3 : Nat) (Option.some Jvm.ClassFile.FieldType.boolean)) ∈ ALL := inT_6 94 rfl rfl
theorem w_1350 : (Jvm.Cond.code ({ cls := "MoonOverTheHillModel", name := "cloud", desc := "(I)I" } : Jvm.MethodName) prog_11_method_23_code (2 : Nat) (Option.some Jvm.ClassFile.FieldType.int)) ∈ ALL := inT_6 90 rfl rfl
theorem w_1358 : (Jvm.Cond.code ({ cls := "MoonOverTheHillModel", name := "clear", desc := "(I)I" } : Jvm.MethodName) prog_11_method_24_code (3 : Nat) (Option.some Jvm.ClassFile.FieldType.int)) ∈ ALL := inT_6 98 rfl rfl
theorem w_1363 : (Jvm.Cond.code ({ cls := "MoonOverTheHillModel", name := "feed", desc := "(I)I" } : Jvm.MethodName) prog_11_method_25_code (2 : Nat) (Option.some Jvm.ClassFile.FieldType.int)) ∈ ALL := inT_6 103 rfl rfl
theorem w_1368 : (Jvm.Cond.code ({ cls := "MoonOverTheHillModel", name := "wipe", desc := "()I" } : Jvm.MethodName) prog_11_method_26_code (2 : Nat) (Option.some Jvm.ClassFile.FieldType.int)) ∈ ALL := inT_6 108 rfl rfl
theorem w_1392 : (Jvm.Cond.code ({ cls := "MoonOverTheHillModel", name := "isLetter", desc := "(I)Z" } : Jvm.MethodName) prog_11_method_27_code (1 : Nat) (Option.some Jvm.ClassFile.FieldType.boolean)) ∈ ALL := inT_6 132 rfl rfl
theorem w_1395 : (Jvm.Cond.code ({ cls := "MoonOverTheHillModel", name := "isDigit", desc := "(I)Z" } : Jvm.MethodName) prog_11_method_28_code (1 : Nat) (Option.some Jvm.ClassFile.FieldType.boolean)) ∈ ALL := inT_6 135 rfl rfl
theorem w_1389 : (Jvm.Cond.code ({ cls := "MoonOverTheHillModel", name := "look", desc := "()V" } : Jvm.MethodName) prog_11_method_29_code (1 : Nat) (Option.none : Option Jvm.ClassFile.FieldType)) ∈ ALL := inT_6 129 rfl rfl
theorem w_1423 : (Jvm.Cond.code ({ cls := "MoonOverTheHillModel", name := "wrong", desc := "()Z" } : Jvm.MethodName) prog_11_method_30_code (1 : Nat) (Option.some Jvm.ClassFile.FieldType.boolean)) ∈ ALL := inT_6 163 rfl rfl
theorem w_681 : (Jvm.Cond.code ({ cls := "java/lang/String", name := "coder", desc := "()B" } : Jvm.MethodName) prog_14_method_152_code (1 : Nat) (Option.some Jvm.ClassFile.FieldType.byte)) ∈ ALL := inT_3 141 rfl rfl
theorem w_677 : (Jvm.Cond.code ({ cls := "java/lang/String", name := "length", desc := "()I" } : Jvm.MethodName) prog_14_method_54_code (1 : Nat) (Option.some Jvm.ClassFile.FieldType.int)) ∈ ALL := inT_3 137 rfl rfl
theorem w_691 : (Jvm.Cond.code ({ cls := "java/lang/String", name := "isLatin1", desc := "()Z" } : Jvm.MethodName) prog_14_method_154_code (1 : Nat) (Option.some Jvm.ClassFile.FieldType.boolean)) ∈ ALL := inT_3 151 rfl rfl
theorem w_702 : (Jvm.Cond.code ({ cls := "jdk/internal/util/Preconditions", name := "checkIndex", desc := "(IILjava/util/function/BiFunction;)I" } : Jvm.MethodName) prog_19_method_11_code (3 : Nat) (Option.some Jvm.ClassFile.FieldType.int)) ∈ ALL := inT_3 162 rfl rfl
theorem w_697 : (Jvm.Cond.code ({ cls := "java/lang/String", name := "checkIndex", desc := "(II)V" } : Jvm.MethodName) prog_14_method_155_code (2 : Nat) (Option.none : Option Jvm.ClassFile.FieldType)) ∈ ALL := inT_3 157 rfl rfl
theorem w_694 : (Jvm.Cond.code ({ cls := "java/lang/StringLatin1", name := "charAt", desc := "([BI)C" } : Jvm.MethodName) prog_15_method_2_code (2 : Nat) (Option.some Jvm.ClassFile.FieldType.char)) ∈ ALL := inT_3 154 rfl rfl
theorem w_711 : (Jvm.Cond.code ({ cls := "java/lang/StringUTF16", name := "length", desc := "([B)I" } : Jvm.MethodName) prog_16_method_6_code (1 : Nat) (Option.some Jvm.ClassFile.FieldType.int)) ∈ ALL := inT_3 171 rfl rfl
theorem w_708 : (Jvm.Cond.code ({ cls := "java/lang/StringUTF16", name := "checkIndex", desc := "(I[B)V" } : Jvm.MethodName) prog_16_method_91_code (2 : Nat) (Option.none : Option Jvm.ClassFile.FieldType)) ∈ ALL := inT_3 168 rfl rfl
theorem w_715 : (Jvm.Cond.code ({ cls := "java/lang/StringUTF16", name := "getChar", desc := "([BI)C" } : Jvm.MethodName) prog_16_method_5_code (2 : Nat) (Option.some Jvm.ClassFile.FieldType.char)) ∈ ALL := inT_3 175 rfl rfl
theorem w_705 : (Jvm.Cond.code ({ cls := "java/lang/StringUTF16", name := "charAt", desc := "([BI)C" } : Jvm.MethodName) prog_16_method_83_code (2 : Nat) (Option.some Jvm.ClassFile.FieldType.char)) ∈ ALL := inT_3 165 rfl rfl
theorem w_687 : (Jvm.Cond.code ({ cls := "java/lang/String", name := "charAt", desc := "(I)C" } : Jvm.MethodName) prog_14_method_56_code (2 : Nat) (Option.some Jvm.ClassFile.FieldType.char)) ∈ ALL := inT_3 147 rfl rfl
theorem w_1405 : (Jvm.Cond.code ({ cls := "MoonOverTheHillModel", name := "isWord", desc := "(Ljava/lang/String;)Z" } : Jvm.MethodName) prog_11_method_31_code (3 : Nat) (Option.some Jvm.ClassFile.FieldType.boolean)) ∈ ALL := inT_6 145 rfl rfl
theorem w_1419 : (Jvm.Cond.code ({ cls := "MoonOverTheHillModel", name := "number", desc := "(III)Z" } : Jvm.MethodName) prog_11_method_32_code (4 : Nat) (Option.some Jvm.ClassFile.FieldType.boolean)) ∈ ALL := inT_6 159 rfl rfl
theorem w_1415 : (Jvm.Cond.code ({ cls := "MoonOverTheHillModel", name := "tells", desc := "(I)Z" } : Jvm.MethodName) prog_11_method_33_code (2 : Nat) (Option.some Jvm.ClassFile.FieldType.boolean)) ∈ ALL := inT_6 155 rfl rfl
theorem w_1411 : (Jvm.Cond.code ({ cls := "MoonOverTheHillModel", name := "askedTold", desc := "(I)Z" } : Jvm.MethodName) prog_11_method_34_code (3 : Nat) (Option.some Jvm.ClassFile.FieldType.boolean)) ∈ ALL := inT_6 151 rfl rfl
theorem w_1432 : (Jvm.Cond.code ({ cls := "MoonOverTheHillModel", name := "cloudTold", desc := "()Z" } : Jvm.MethodName) prog_11_method_35_code (1 : Nat) (Option.some Jvm.ClassFile.FieldType.boolean)) ∈ ALL := inT_6 172 rfl rfl
theorem w_1400 : (Jvm.Cond.code ({ cls := "MoonOverTheHillModel", name := "statement", desc := "()Z" } : Jvm.MethodName) prog_11_method_36_code (2 : Nat) (Option.some Jvm.ClassFile.FieldType.boolean)) ∈ ALL := inT_6 140 rfl rfl
theorem w_1385 : (Jvm.Cond.code ({ cls := "MoonOverTheHillModel", name := "readAll", desc := "()Z" } : Jvm.MethodName) prog_11_method_37_code (1 : Nat) (Option.some Jvm.ClassFile.FieldType.boolean)) ∈ ALL := inT_6 125 rfl rfl
theorem w_1381 : (Jvm.Cond.code ({ cls := "MoonOverTheHillModel", name := "copyAll", desc := "([I[I)V" } : Jvm.MethodName) prog_11_method_108_code (3 : Nat) (Option.none : Option Jvm.ClassFile.FieldType)) ∈ ALL := inT_6 121 rfl rfl
theorem w_1378 : (Jvm.Cond.code ({ cls := "MoonOverTheHillModel", name := "takeFrom", desc := "(LMoonOverTheHillModel;)V" } : Jvm.MethodName) prog_11_method_109_code (3 : Nat) (Option.none : Option Jvm.ClassFile.FieldType)) ∈ ALL := inT_6 118 rfl rfl
theorem w_1372 : (Jvm.Cond.code ({ cls := "MoonOverTheHillModel", name := "sky", desc := "()I" } : Jvm.MethodName) prog_11_method_38_code (2 : Nat) (Option.some Jvm.ClassFile.FieldType.int)) ∈ ALL := inT_6 112 rfl rfl
theorem w_1436 : (Jvm.Cond.code ({ cls := "MoonOverTheHillModel", name := "notchOf", desc := "(II)I" } : Jvm.MethodName) prog_11_method_39_code (3 : Nat) (Option.some Jvm.ClassFile.FieldType.int)) ∈ ALL := inT_6 176 rfl rfl
theorem w_1440 : (Jvm.Cond.code ({ cls := "MoonOverTheHillModel", name := "stoneOf", desc := "(I)I" } : Jvm.MethodName) prog_11_method_40_code (2 : Nat) (Option.some Jvm.ClassFile.FieldType.int)) ∈ ALL := inT_6 180 rfl rfl
theorem w_1454 : (Jvm.Cond.code ({ cls := "MoonOverTheHillModel", name := "lit", desc := "(I)I" } : Jvm.MethodName) prog_11_method_43_code (3 : Nat) (Option.some Jvm.ClassFile.FieldType.int)) ∈ ALL := inT_6 194 rfl rfl
theorem w_1444 : (Jvm.Cond.code ({ cls := "MoonOverTheHillModel", name := "line", desc := "(I)I" } : Jvm.MethodName) prog_11_method_49_code (2 : Nat) (Option.some Jvm.ClassFile.FieldType.int)) ∈ ALL := inT_6 184 rfl rfl
theorem w_1458 : (Jvm.Cond.code ({ cls := "MoonOverTheHillModel", name := "degreeUp", desc := "(I)I" } : Jvm.MethodName) prog_11_method_52_code (2 : Nat) (Option.some Jvm.ClassFile.FieldType.int)) ∈ ALL := inT_6 198 rfl rfl
theorem w_1449 : (Jvm.Cond.code ({ cls := "MoonOverTheHillModel", name := "moon", desc := "(II)I" } : Jvm.MethodName) prog_11_method_54_code (3 : Nat) (Option.some Jvm.ClassFile.FieldType.int)) ∈ ALL := inT_6 189 rfl rfl
theorem w_1462 : (Jvm.Cond.code ({ cls := "MoonOverTheHillModel", name := "slant", desc := "(I)I" } : Jvm.MethodName) prog_11_method_55_code (2 : Nat) (Option.some Jvm.ClassFile.FieldType.int)) ∈ ALL := inT_6 202 rfl rfl
theorem w_1471 : (Jvm.Cond.code ({ cls := "MoonOverTheHillModel", name := "behindOf", desc := "(I)I" } : Jvm.MethodName) prog_11_method_56_code (6 : Nat) (Option.some Jvm.ClassFile.FieldType.int)) ∈ ALL := inT_6 211 rfl rfl
theorem w_1467 : (Jvm.Cond.code ({ cls := "MoonOverTheHillModel", name := "behind", desc := "(I)I" } : Jvm.MethodName) prog_11_method_57_code (2 : Nat) (Option.some Jvm.ClassFile.FieldType.int)) ∈ ALL := inT_6 207 rfl rfl
theorem w_1475 : (Jvm.Cond.code ({ cls := "MoonOverTheHillModel", name := "is", desc := "(II)I" } : Jvm.MethodName) prog_11_method_59_code (3 : Nat) (Option.some Jvm.ClassFile.FieldType.int)) ∈ ALL := inT_6 215 rfl rfl
theorem w_1482 : (Jvm.Cond.code ({ cls := "MoonOverTheHillModel", name := "areMinutes", desc := "(II)Z" } : Jvm.MethodName) prog_11_method_61_code (2 : Nat) (Option.some Jvm.ClassFile.FieldType.boolean)) ∈ ALL := inT_6 222 rfl rfl
theorem w_1479 : (Jvm.Cond.code ({ cls := "MoonOverTheHillModel", name := "shines", desc := "(III)I" } : Jvm.MethodName) prog_11_method_62_code (4 : Nat) (Option.some Jvm.ClassFile.FieldType.int)) ∈ ALL := inT_6 219 rfl rfl
theorem w_1490 : (Jvm.Cond.code ({ cls := "MoonOverTheHillModel", name := "lightIn", desc := "(III)I" } : Jvm.MethodName) prog_11_method_63_code (4 : Nat) (Option.some Jvm.ClassFile.FieldType.int)) ∈ ALL := inT_6 230 rfl rfl
theorem w_1486 : (Jvm.Cond.code ({ cls := "MoonOverTheHillModel", name := "light", desc := "(III)I" } : Jvm.MethodName) prog_11_method_64_code (4 : Nat) (Option.some Jvm.ClassFile.FieldType.int)) ∈ ALL := inT_6 226 rfl rfl
theorem w_1494 : (Jvm.Cond.code ({ cls := "MoonOverTheHillModel", name := "grows", desc := "(I)I" } : Jvm.MethodName) prog_11_method_65_code (2 : Nat) (Option.some Jvm.ClassFile.FieldType.int)) ∈ ALL := inT_6 234 rfl rfl
theorem w_1498 : (Jvm.Cond.code ({ cls := "MoonOverTheHillModel", name := "lights", desc := "(IIII)I" } : Jvm.MethodName) prog_11_method_66_code (7 : Nat) (Option.some Jvm.ClassFile.FieldType.int)) ∈ ALL := inT_6 238 rfl rfl
theorem w_1505 : (Jvm.Cond.code ({ cls := "MoonOverTheHillModel", name := "soonest", desc := "(II)I" } : Jvm.MethodName) prog_11_method_67_code (7 : Nat) (Option.some Jvm.ClassFile.FieldType.int)) ∈ ALL := inT_7 5 rfl rfl
theorem w_1513 : (Jvm.Cond.code ({ cls := "MoonOverTheHillModel", name := "next", desc := "(II)I" } : Jvm.MethodName) prog_11_method_68_code (4 : Nat) (Option.some Jvm.ClassFile.FieldType.int)) ∈ ALL := inT_7 13 rfl rfl
theorem w_1517 : (Jvm.Cond.code ({ cls := "MoonOverTheHillModel", name := "many", desc := "(III)I" } : Jvm.MethodName) prog_11_method_69_code (6 : Nat) (Option.some Jvm.ClassFile.FieldType.int)) ∈ ALL := inT_7 17 rfl rfl
theorem w_1525 : (Jvm.Cond.code ({ cls := "MoonOverTheHillModel", name := "tellsOf", desc := "(III)I" } : Jvm.MethodName) prog_11_method_70_code (4 : Nat) (Option.some Jvm.ClassFile.FieldType.int)) ∈ ALL := inT_7 25 rfl rfl
theorem w_1521 : (Jvm.Cond.code ({ cls := "MoonOverTheHillModel", name := "between", desc := "(IIIII)I" } : Jvm.MethodName) prog_11_method_71_code (9 : Nat) (Option.some Jvm.ClassFile.FieldType.int)) ∈ ALL := inT_7 21 rfl rfl
theorem w_1529 : (Jvm.Cond.code ({ cls := "MoonOverTheHillModel", name := "walks", desc := "(IIIIII)I" } : Jvm.MethodName) prog_11_method_72_code (10 : Nat) (Option.some Jvm.ClassFile.FieldType.int)) ∈ ALL := inT_7 29 rfl rfl
theorem w_1534 : (Jvm.Cond.code ({ cls := "MoonOverTheHillModel", name := "overs", desc := "(IIII)I" } : Jvm.MethodName) prog_11_method_73_code (8 : Nat) (Option.some Jvm.ClassFile.FieldType.int)) ∈ ALL := inT_7 34 rfl rfl
theorem w_1538 : (Jvm.Cond.code ({ cls := "MoonOverTheHillModel", name := "alike", desc := "(I)I" } : Jvm.MethodName) prog_11_method_74_code (4 : Nat) (Option.some Jvm.ClassFile.FieldType.int)) ∈ ALL := inT_7 38 rfl rfl
theorem w_1543 : (Jvm.Cond.code ({ cls := "MoonOverTheHillModel", name := "lates", desc := "(III)I" } : Jvm.MethodName) prog_11_method_75_code (9 : Nat) (Option.some Jvm.ClassFile.FieldType.int)) ∈ ALL := inT_7 43 rfl rfl
theorem w_1551 : (Jvm.Cond.code ({ cls := "MoonOverTheHillModel", name := "sizeOf", desc := "(I)I" } : Jvm.MethodName) prog_11_method_76_code (3 : Nat) (Option.some Jvm.ClassFile.FieldType.int)) ∈ ALL := inT_7 51 rfl rfl
theorem w_1547 : (Jvm.Cond.code ({ cls := "MoonOverTheHillModel", name := "farthest", desc := "(II)I" } : Jvm.MethodName) prog_11_method_77_code (5 : Nat) (Option.some Jvm.ClassFile.FieldType.int)) ∈ ALL := inT_7 47 rfl rfl
theorem w_1555 : (Jvm.Cond.code ({ cls := "MoonOverTheHillModel", name := "brightest", desc := "(II)I" } : Jvm.MethodName) prog_11_method_78_code (7 : Nat) (Option.some Jvm.ClassFile.FieldType.int)) ∈ ALL := inT_7 55 rfl rfl
theorem w_1559 : (Jvm.Cond.code ({ cls := "MoonOverTheHillModel", name := "sees", desc := "(III)I" } : Jvm.MethodName) prog_11_method_79_code (5 : Nat) (Option.some Jvm.ClassFile.FieldType.int)) ∈ ALL := inT_7 59 rfl rfl
theorem w_1568 : (Jvm.Cond.code ({ cls := "MoonOverTheHillModel", name := "isPicture", desc := "([JI)Z" } : Jvm.MethodName) prog_11_method_80_code (5 : Nat) (Option.some Jvm.ClassFile.FieldType.boolean)) ∈ ALL := inT_7 68 rfl rfl
theorem w_1564 : (Jvm.Cond.code ({ cls := "MoonOverTheHillModel", name := "picture", desc := "(III)I" } : Jvm.MethodName) prog_11_method_81_code (9 : Nat) (Option.some Jvm.ClassFile.FieldType.int)) ∈ ALL := inT_7 64 rfl rfl
theorem w_1572 : (Jvm.Cond.code ({ cls := "MoonOverTheHillModel", name := "seen", desc := "(II)I" } : Jvm.MethodName) prog_11_method_82_code (4 : Nat) (Option.some Jvm.ClassFile.FieldType.int)) ∈ ALL := inT_7 72 rfl rfl
theorem w_1586 : (Jvm.Cond.code ({ cls := "MoonOverTheHillModel", name := "canBe", desc := "(J)Z" } : Jvm.MethodName) prog_11_method_83_code (3 : Nat) (Option.some Jvm.ClassFile.FieldType.boolean)) ∈ ALL := inT_7 86 rfl rfl
theorem w_1582 : (Jvm.Cond.code ({ cls := "MoonOverTheHillModel", name := "noWitnesses", desc := "(II)I" } : Jvm.MethodName) prog_11_method_84_code (4 : Nat) (Option.some Jvm.ClassFile.FieldType.int)) ∈ ALL := inT_7 82 rfl rfl
theorem w_1578 : (Jvm.Cond.code ({ cls := "MoonOverTheHillModel", name := "court", desc := "(II)I" } : Jvm.MethodName) prog_11_method_85_code (9 : Nat) (Option.some Jvm.ClassFile.FieldType.int)) ∈ ALL := inT_7 78 rfl rfl
theorem w_1592 : (Jvm.Cond.code ({ cls := "MoonOverTheHillModel", name := "eager", desc := "(II)I" } : Jvm.MethodName) prog_11_method_86_code (6 : Nat) (Option.some Jvm.ClassFile.FieldType.int)) ∈ ALL := inT_7 92 rfl rfl
theorem w_1596 : (Jvm.Cond.code ({ cls := "MoonOverTheHillModel", name := "date", desc := "(I)I" } : Jvm.MethodName) prog_11_method_87_code (3 : Nat) (Option.some Jvm.ClassFile.FieldType.int)) ∈ ALL := inT_7 96 rfl rfl
theorem w_1600 : (Jvm.Cond.code ({ cls := "MoonOverTheHillModel", name := "months", desc := "(I)I" } : Jvm.MethodName) prog_11_method_88_code (4 : Nat) (Option.some Jvm.ClassFile.FieldType.int)) ∈ ALL := inT_7 100 rfl rfl
theorem w_1604 : (Jvm.Cond.code ({ cls := "MoonOverTheHillModel", name := "eclipse", desc := "(I)I" } : Jvm.MethodName) prog_11_method_89_code (4 : Nat) (Option.some Jvm.ClassFile.FieldType.int)) ∈ ALL := inT_7 104 rfl rfl
theorem w_1612 : (Jvm.Cond.code ({ cls := "MoonOverTheHillModel", name := "highOf", desc := "(I)I" } : Jvm.MethodName) prog_11_method_90_code (2 : Nat) (Option.some Jvm.ClassFile.FieldType.int)) ∈ ALL := inT_7 112 rfl rfl
theorem w_1608 : (Jvm.Cond.code ({ cls := "MoonOverTheHillModel", name := "tide", desc := "(II)I" } : Jvm.MethodName) prog_11_method_91_code (5 : Nat) (Option.some Jvm.ClassFile.FieldType.int)) ∈ ALL := inT_7 108 rfl rfl
theorem w_1616 : (Jvm.Cond.code ({ cls := "MoonOverTheHillModel", name := "high", desc := "(I)I" } : Jvm.MethodName) prog_11_method_92_code (2 : Nat) (Option.some Jvm.ClassFile.FieldType.int)) ∈ ALL := inT_7 116 rfl rfl
theorem w_1620 : (Jvm.Cond.code ({ cls := "MoonOverTheHillModel", name := "bone", desc := "(III)I" } : Jvm.MethodName) prog_11_method_93_code (12 : Nat) (Option.some Jvm.ClassFile.FieldType.int)) ∈ ALL := inT_7 120 rfl rfl
theorem w_1635 : (Jvm.Cond.code ({ cls := "MoonOverTheHillModel", name := "isHit", desc := "(IIII)Z" } : Jvm.MethodName) prog_11_method_94_code (7 : Nat) (Option.some Jvm.ClassFile.FieldType.boolean)) ∈ ALL := inT_7 135 rfl rfl
theorem w_1630 : (Jvm.Cond.code ({ cls := "MoonOverTheHillModel", name := "isNear", desc := "(I)Z" } : Jvm.MethodName) prog_11_method_95_code (1 : Nat) (Option.some Jvm.ClassFile.FieldType.boolean)) ∈ ALL := inT_7 130 rfl rfl
theorem w_1627 : (Jvm.Cond.code ({ cls := "MoonOverTheHillModel", name := "hits", desc := "(III)I" } : Jvm.MethodName) prog_11_method_96_code (6 : Nat) (Option.some Jvm.ClassFile.FieldType.int)) ∈ ALL := inT_7 127 rfl rfl
theorem w_1643 : (Jvm.Cond.code ({ cls := "MoonOverTheHillModel", name := "chanceOf", desc := "(III)I" } : Jvm.MethodName) prog_11_method_97_code (8 : Nat) (Option.some Jvm.ClassFile.FieldType.int)) ∈ ALL := inT_7 143 rfl rfl
theorem w_1639 : (Jvm.Cond.code ({ cls := "MoonOverTheHillModel", name := "chance", desc := "(III)I" } : Jvm.MethodName) prog_11_method_98_code (4 : Nat) (Option.some Jvm.ClassFile.FieldType.int)) ∈ ALL := inT_7 139 rfl rfl
theorem w_1648 : (Jvm.Cond.code ({ cls := "MoonOverTheHillModel", name := "meant", desc := "(III)I" } : Jvm.MethodName) prog_11_method_99_code (6 : Nat) (Option.some Jvm.ClassFile.FieldType.int)) ∈ ALL := inT_7 148 rfl rfl
theorem w_1652 : (Jvm.Cond.code ({ cls := "MoonOverTheHillModel", name := "meets", desc := "(III)I" } : Jvm.MethodName) prog_11_method_100_code (5 : Nat) (Option.some Jvm.ClassFile.FieldType.int)) ∈ ALL := inT_7 152 rfl rfl
theorem w_1656 : (Jvm.Cond.code ({ cls := "MoonOverTheHillModel", name := "place", desc := "(III)I" } : Jvm.MethodName) prog_11_method_101_code (11 : Nat) (Option.some Jvm.ClassFile.FieldType.int)) ∈ ALL := inT_7 156 rfl rfl
theorem w_1660 : (Jvm.Cond.code ({ cls := "MoonOverTheHillModel", name := "told", desc := "(II)I" } : Jvm.MethodName) prog_11_method_102_code (3 : Nat) (Option.some Jvm.ClassFile.FieldType.int)) ∈ ALL := inT_7 160 rfl rfl
theorem w_1673 : (Jvm.Cond.code ({ cls := "MoonOverTheHillModel", name := "below", desc := "(I)I" } : Jvm.MethodName) prog_11_method_103_code (2 : Nat) (Option.some Jvm.ClassFile.FieldType.int)) ∈ ALL := inT_7 173 rfl rfl
theorem w_1669 : (Jvm.Cond.code ({ cls := "MoonOverTheHillModel", name := "goesBy", desc := "()I" } : Jvm.MethodName) prog_11_method_104_code (2 : Nat) (Option.some Jvm.ClassFile.FieldType.int)) ∈ ALL := inT_7 169 rfl rfl
theorem w_1665 : (Jvm.Cond.code ({ cls := "MoonOverTheHillModel", name := "goes", desc := "()I" } : Jvm.MethodName) prog_11_method_105_code (1 : Nat) (Option.some Jvm.ClassFile.FieldType.int)) ∈ ALL := inT_7 165 rfl rfl
theorem w_1678 : (Jvm.Cond.code ({ cls := "MoonOverTheHillModel", name := "looks", desc := "(I)I" } : Jvm.MethodName) prog_11_method_106_code (3 : Nat) (Option.some Jvm.ClassFile.FieldType.int)) ∈ ALL := inT_7 178 rfl rfl
theorem w_1682 : (Jvm.Cond.code ({ cls := "MoonOverTheHillModel", name := "seed", desc := "(I)I" } : Jvm.MethodName) prog_11_method_107_code (3 : Nat) (Option.some Jvm.ClassFile.FieldType.int)) ∈ ALL := inT_7 182 rfl rfl
theorem w_1686 : (Jvm.Cond.code ({ cls := "MoonOverTheHillModel", name := "image", desc := "()I" } : Jvm.MethodName) prog_11_method_110_code (1 : Nat) (Option.some Jvm.ClassFile.FieldType.int)) ∈ ALL := inT_7 186 rfl rfl
theorem w_1690 : (Jvm.Cond.code ({ cls := "MoonOverTheHillModel", name := "back", desc := "()I" } : Jvm.MethodName) prog_11_method_111_code (1 : Nat) (Option.some Jvm.ClassFile.FieldType.int)) ∈ ALL := inT_7 190 rfl rfl
theorem w_1694 : (Jvm.Cond.code ({ cls := "MoonOverTheHillModel", name := "status", desc := "(I)I" } : Jvm.MethodName) prog_11_method_112_code (4 : Nat) (Option.some Jvm.ClassFile.FieldType.int)) ∈ ALL := inT_7 194 rfl rfl
theorem w_192 : (Jvm.Cond.code ({ cls := "MoonOverTheHill$Tape", name := "<init>", desc := "()V" } : Jvm.MethodName) prog_9_method_1_code (1 : Nat) (Option.none : Option Jvm.ClassFile.FieldType)) ∈ ALL := inT_1 132 rfl rfl
theorem w_621 : (Jvm.Cond.code ({ cls := "MoonOverTheHill$Tape", name := "size", desc := "()I" } : Jvm.MethodName) prog_9_method_2_code (1 : Nat) (Option.some Jvm.ClassFile.FieldType.int)) ∈ ALL := inT_3 81 rfl rfl
theorem w_613 : (Jvm.Cond.code ({ cls := "MoonOverTheHill$Tape", name := "isFull", desc := "()Z" } : Jvm.MethodName) prog_9_method_3_code (1 : Nat) (Option.some Jvm.ClassFile.FieldType.boolean)) ∈ ALL := inT_3 73 rfl rfl
theorem w_617 : (Jvm.Cond.code ({ cls := "MoonOverTheHill$Tape", name := "add", desc := "(I)V" } : Jvm.MethodName) prog_9_method_4_code (2 : Nat) (Option.none : Option Jvm.ClassFile.FieldType)) ∈ ALL := inT_3 77 rfl rfl
theorem w_629 : (Jvm.Cond.code ({ cls := "MoonOverTheHill$Tape", name := "empty", desc := "()V" } : Jvm.MethodName) prog_9_method_5_code (1 : Nat) (Option.none : Option Jvm.ClassFile.FieldType)) ∈ ALL := inT_3 89 rfl rfl
theorem w_757 : (Jvm.Cond.code ({ cls := "MoonOverTheHill$Tape", name := "fault", desc := "()I" } : Jvm.MethodName) prog_9_method_6_code (1 : Nat) (Option.some Jvm.ClassFile.FieldType.int)) ∈ ALL := inT_3 217 rfl rfl
theorem w_660 : (Jvm.Cond.code ({ cls := "MoonOverTheHill$Tape", name := "byteAt", desc := "(I)I" } : Jvm.MethodName) prog_9_method_8_code (2 : Nat) (Option.some Jvm.ClassFile.FieldType.int)) ∈ ALL := inT_3 120 rfl rfl
theorem w_663 : (Jvm.Cond.code ({ cls := "MoonOverTheHill$Tape", name := "tokenOf", desc := "(I)I" } : Jvm.MethodName) prog_9_method_9_code (1 : Nat) (Option.some Jvm.ClassFile.FieldType.int)) ∈ ALL := inT_3 123 rfl rfl
theorem w_656 : (Jvm.Cond.code ({ cls := "MoonOverTheHill$Tape", name := "step", desc := "()V" } : Jvm.MethodName) prog_9_method_10_code (2 : Nat) (Option.none : Option Jvm.ClassFile.FieldType)) ∈ ALL := inT_3 116 rfl rfl
theorem w_673 : (Jvm.Cond.code ({ cls := "MoonOverTheHill$Tape", name := "isWord", desc := "(Ljava/lang/String;)Z" } : Jvm.MethodName) prog_9_method_11_code (3 : Nat) (Option.some Jvm.ClassFile.FieldType.boolean)) ∈ ALL := inT_3 133 rfl rfl
theorem w_729 : (Jvm.Cond.code ({ cls := "MoonOverTheHill$Tape", name := "takeNumber", desc := "(II)Z" } : Jvm.MethodName) prog_9_method_13_code (4 : Nat) (Option.some Jvm.ClassFile.FieldType.boolean)) ∈ ALL := inT_3 189 rfl rfl
theorem w_725 : (Jvm.Cond.code ({ cls := "MoonOverTheHill$Tape", name := "takeAsked", desc := "(LMoonOverTheHill$State;I)Z" } : Jvm.MethodName) prog_9_method_14_code (3 : Nat) (Option.some Jvm.ClassFile.FieldType.boolean)) ∈ ALL := inT_3 185 rfl rfl
theorem w_738 : (Jvm.Cond.code ({ cls := "MoonOverTheHill$Tape", name := "takeNotch", desc := "(LMoonOverTheHill$Hill;)Z" } : Jvm.MethodName) prog_9_method_15_code (4 : Nat) (Option.some Jvm.ClassFile.FieldType.boolean)) ∈ ALL := inT_3 198 rfl rfl
theorem w_745 : (Jvm.Cond.code ({ cls := "MoonOverTheHill$Tape", name := "takeStone", desc := "(LMoonOverTheHill$Few;)Z" } : Jvm.MethodName) prog_9_method_16_code (2 : Nat) (Option.some Jvm.ClassFile.FieldType.boolean)) ∈ ALL := inT_3 205 rfl rfl
theorem w_752 : (Jvm.Cond.code ({ cls := "MoonOverTheHill$Tape", name := "takeCloud", desc := "(LMoonOverTheHill$Few;)Z" } : Jvm.MethodName) prog_9_method_17_code (2 : Nat) (Option.some Jvm.ClassFile.FieldType.boolean)) ∈ ALL := inT_3 212 rfl rfl
theorem w_668 : (Jvm.Cond.code ({ cls := "MoonOverTheHill$Tape", name := "takeStatement", desc := "(LMoonOverTheHill$State;)Z" } : Jvm.MethodName) prog_9_method_12_code (2 : Nat) (Option.some Jvm.ClassFile.FieldType.boolean)) ∈ ALL := inT_3 128 rfl rfl
theorem w_652 : (Jvm.Cond.code ({ cls := "MoonOverTheHill$Tape", name := "read", desc := "(LMoonOverTheHill$State;)I" } : Jvm.MethodName) prog_9_method_7_code (3 : Nat) (Option.some Jvm.ClassFile.FieldType.int)) ∈ ALL := inT_3 112 rfl rfl
theorem w_83 : (Jvm.Cond.code ({ cls := "MoonOverTheHill", name := "<init>", desc := "()V" } : Jvm.MethodName) prog_1_method_1_code (2 : Nat) (Option.none : Option Jvm.ClassFile.FieldType)) ∈ ALL := inT_1 23 rfl rfl
theorem w_279 : (Jvm.Cond.code ({ cls := "MoonOverTheHill", name := "shelfAt", desc := "(I)LMoonOverTheHill$Shelf;" } : Jvm.MethodName) prog_1_method_69_code (2 : Nat) (Option.some (Jvm.ClassFile.FieldType.object "MoonOverTheHill$Shelf"))) ∈ ALL := inT_1 219 rfl rfl
theorem w_286 : (Jvm.Cond.code ({ cls := "MoonOverTheHill", name := "refuse", desc := "(I)I" } : Jvm.MethodName) prog_1_method_70_code (3 : Nat) (Option.some Jvm.ClassFile.FieldType.int)) ∈ ALL := inT_1 226 rfl rfl
theorem w_275 : (Jvm.Cond.code ({ cls := "MoonOverTheHill", name := "row", desc := "(III)I" } : Jvm.MethodName) prog_1_method_2_code (5 : Nat) (Option.some Jvm.ClassFile.FieldType.int)) ∈ ALL := inT_1 215 rfl rfl
theorem w_300 : (Jvm.Cond.code ({ cls := "MoonOverTheHill", name := "set", desc := "(IIJ)I" } : Jvm.MethodName) prog_1_method_3_code (7 : Nat) (Option.some Jvm.ClassFile.FieldType.int)) ∈ ALL := inT_2 0 rfl rfl
theorem w_328 : (Jvm.Cond.code ({ cls := "MoonOverTheHill", name := "copy", desc := "(IIIII)I" } : Jvm.MethodName) prog_1_method_4_code (8 : Nat) (Option.some Jvm.ClassFile.FieldType.int)) ∈ ALL := inT_2 28 rfl rfl
theorem w_350 : (Jvm.Cond.code ({ cls := "MoonOverTheHill", name := "element", desc := "(II)J" } : Jvm.MethodName) prog_1_method_5_code (4 : Nat) (Option.some Jvm.ClassFile.FieldType.long)) ∈ ALL := inT_2 50 rfl rfl
theorem w_359 : (Jvm.Cond.code ({ cls := "MoonOverTheHill", name := "holds", desc := "(I)I" } : Jvm.MethodName) prog_1_method_6_code (3 : Nat) (Option.some Jvm.ClassFile.FieldType.int)) ∈ ALL := inT_2 59 rfl rfl
theorem w_367 : (Jvm.Cond.code ({ cls := "MoonOverTheHill", name := "evening", desc := "(III)I" } : Jvm.MethodName) prog_1_method_7_code (5 : Nat) (Option.some Jvm.ClassFile.FieldType.int)) ∈ ALL := inT_2 67 rfl rfl
theorem w_381 : (Jvm.Cond.code ({ cls := "MoonOverTheHill", name := "says", desc := "(II)I" } : Jvm.MethodName) prog_1_method_8_code (4 : Nat) (Option.some Jvm.ClassFile.FieldType.int)) ∈ ALL := inT_2 81 rfl rfl
theorem w_450 : (Jvm.Cond.code ({ cls := "MoonOverTheHill", name := "isSo", desc := "(I)I" } : Jvm.MethodName) prog_1_method_9_code (3 : Nat) (Option.some Jvm.ClassFile.FieldType.int)) ∈ ALL := inT_2 150 rfl rfl
theorem w_548 : (Jvm.Cond.code ({ cls := "MoonOverTheHill", name := "ask", desc := "(II)I" } : Jvm.MethodName) prog_1_method_10_code (4 : Nat) (Option.some Jvm.ClassFile.FieldType.int)) ∈ ALL := inT_3 8 rfl rfl
theorem w_560 : (Jvm.Cond.code ({ cls := "MoonOverTheHill", name := "notch", desc := "(III)I" } : Jvm.MethodName) prog_1_method_11_code (4 : Nat) (Option.some Jvm.ClassFile.FieldType.int)) ∈ ALL := inT_3 20 rfl rfl
theorem w_581 : (Jvm.Cond.code ({ cls := "MoonOverTheHill", name := "stone", desc := "(I)I" } : Jvm.MethodName) prog_1_method_12_code (2 : Nat) (Option.some Jvm.ClassFile.FieldType.int)) ∈ ALL := inT_3 41 rfl rfl
theorem w_588 : (Jvm.Cond.code ({ cls := "MoonOverTheHill", name := "cloud", desc := "(I)I" } : Jvm.MethodName) prog_1_method_13_code (2 : Nat) (Option.some Jvm.ClassFile.FieldType.int)) ∈ ALL := inT_3 48 rfl rfl
theorem w_593 : (Jvm.Cond.code ({ cls := "MoonOverTheHill", name := "clear", desc := "(I)I" } : Jvm.MethodName) prog_1_method_14_code (3 : Nat) (Option.some Jvm.ClassFile.FieldType.int)) ∈ ALL := inT_3 53 rfl rfl
theorem w_609 : (Jvm.Cond.code ({ cls := "MoonOverTheHill", name := "feed", desc := "(I)I" } : Jvm.MethodName) prog_1_method_15_code (2 : Nat) (Option.some Jvm.ClassFile.FieldType.int)) ∈ ALL := inT_3 69 rfl rfl
theorem w_625 : (Jvm.Cond.code ({ cls := "MoonOverTheHill", name := "wipe", desc := "()I" } : Jvm.MethodName) prog_1_method_16_code (2 : Nat) (Option.some Jvm.ClassFile.FieldType.int)) ∈ ALL := inT_3 85 rfl rfl
theorem w_633 : (Jvm.Cond.code ({ cls := "MoonOverTheHill", name := "sky", desc := "()I" } : Jvm.MethodName) prog_1_method_17_code (3 : Nat) (Option.some Jvm.ClassFile.FieldType.int)) ∈ ALL := inT_3 93 rfl rfl
theorem w_762 : (Jvm.Cond.code ({ cls := "MoonOverTheHill", name := "notchOf", desc := "(II)I" } : Jvm.MethodName) prog_1_method_18_code (3 : Nat) (Option.some Jvm.ClassFile.FieldType.int)) ∈ ALL := inT_3 222 rfl rfl
theorem w_774 : (Jvm.Cond.code ({ cls := "MoonOverTheHill", name := "isStone", desc := "(I)Z" } : Jvm.MethodName) prog_1_method_68_code (2 : Nat) (Option.some Jvm.ClassFile.FieldType.boolean)) ∈ ALL := inT_3 234 rfl rfl
theorem w_770 : (Jvm.Cond.code ({ cls := "MoonOverTheHill", name := "stoneOf", desc := "(I)I" } : Jvm.MethodName) prog_1_method_19_code (2 : Nat) (Option.some Jvm.ClassFile.FieldType.int)) ∈ ALL := inT_3 230 rfl rfl
theorem w_779 : (Jvm.Cond.code ({ cls := "MoonOverTheHill", name := "line", desc := "(I)I" } : Jvm.MethodName) prog_1_method_20_code (2 : Nat) (Option.some Jvm.ClassFile.FieldType.int)) ∈ ALL := inT_3 239 rfl rfl
theorem w_784 : (Jvm.Cond.code ({ cls := "MoonOverTheHill", name := "moon", desc := "(II)I" } : Jvm.MethodName) prog_1_method_21_code (3 : Nat) (Option.some Jvm.ClassFile.FieldType.int)) ∈ ALL := inT_4 4 rfl rfl
theorem w_808 : (Jvm.Cond.code ({ cls := "MoonOverTheHill", name := "refuseFarBelow", desc := "(I)I" } : Jvm.MethodName) prog_1_method_71_code (2 : Nat) (Option.some Jvm.ClassFile.FieldType.int)) ∈ ALL := inT_4 28 rfl rfl
theorem w_803 : (Jvm.Cond.code ({ cls := "MoonOverTheHill", name := "slant", desc := "(I)I" } : Jvm.MethodName) prog_1_method_22_code (2 : Nat) (Option.some Jvm.ClassFile.FieldType.int)) ∈ ALL := inT_4 23 rfl rfl
theorem w_813 : (Jvm.Cond.code ({ cls := "MoonOverTheHill", name := "behind", desc := "(I)I" } : Jvm.MethodName) prog_1_method_23_code (2 : Nat) (Option.some Jvm.ClassFile.FieldType.int)) ∈ ALL := inT_4 33 rfl rfl
theorem w_818 : (Jvm.Cond.code ({ cls := "MoonOverTheHill", name := "is", desc := "(II)I" } : Jvm.MethodName) prog_1_method_24_code (3 : Nat) (Option.some Jvm.ClassFile.FieldType.int)) ∈ ALL := inT_4 38 rfl rfl
theorem w_822 : (Jvm.Cond.code ({ cls := "MoonOverTheHill", name := "shines", desc := "(III)I" } : Jvm.MethodName) prog_1_method_25_code (4 : Nat) (Option.some Jvm.ClassFile.FieldType.int)) ∈ ALL := inT_4 42 rfl rfl
theorem w_830 : (Jvm.Cond.code ({ cls := "MoonOverTheHill", name := "light", desc := "(III)I" } : Jvm.MethodName) prog_1_method_26_code (4 : Nat) (Option.some Jvm.ClassFile.FieldType.int)) ∈ ALL := inT_4 50 rfl rfl
theorem w_838 : (Jvm.Cond.code ({ cls := "MoonOverTheHill", name := "next", desc := "(II)I" } : Jvm.MethodName) prog_1_method_27_code (3 : Nat) (Option.some Jvm.ClassFile.FieldType.int)) ∈ ALL := inT_4 58 rfl rfl
theorem w_850 : (Jvm.Cond.code ({ cls := "MoonOverTheHill", name := "many", desc := "(III)I" } : Jvm.MethodName) prog_1_method_28_code (4 : Nat) (Option.some Jvm.ClassFile.FieldType.int)) ∈ ALL := inT_4 70 rfl rfl
theorem w_864 : (Jvm.Cond.code ({ cls := "MoonOverTheHill", name := "orStuck", desc := "(I)I" } : Jvm.MethodName) prog_1_method_72_code (2 : Nat) (Option.some Jvm.ClassFile.FieldType.int)) ∈ ALL := inT_4 84 rfl rfl
theorem w_857 : (Jvm.Cond.code ({ cls := "MoonOverTheHill", name := "between", desc := "(IIIII)I" } : Jvm.MethodName) prog_1_method_29_code (6 : Nat) (Option.some Jvm.ClassFile.FieldType.int)) ∈ ALL := inT_4 77 rfl rfl
theorem w_868 : (Jvm.Cond.code ({ cls := "MoonOverTheHill", name := "alike", desc := "(I)I" } : Jvm.MethodName) prog_1_method_30_code (2 : Nat) (Option.some Jvm.ClassFile.FieldType.int)) ∈ ALL := inT_4 88 rfl rfl
theorem w_882 : (Jvm.Cond.code ({ cls := "MoonOverTheHill", name := "farthest", desc := "(II)I" } : Jvm.MethodName) prog_1_method_31_code (3 : Nat) (Option.some Jvm.ClassFile.FieldType.int)) ∈ ALL := inT_4 102 rfl rfl
theorem w_886 : (Jvm.Cond.code ({ cls := "MoonOverTheHill", name := "grows", desc := "(I)I" } : Jvm.MethodName) prog_1_method_32_code (2 : Nat) (Option.some Jvm.ClassFile.FieldType.int)) ∈ ALL := inT_4 106 rfl rfl
theorem w_890 : (Jvm.Cond.code ({ cls := "MoonOverTheHill", name := "lights", desc := "(IIII)I" } : Jvm.MethodName) prog_1_method_33_code (8 : Nat) (Option.some Jvm.ClassFile.FieldType.int)) ∈ ALL := inT_4 110 rfl rfl
theorem w_895 : (Jvm.Cond.code ({ cls := "MoonOverTheHill", name := "soonest", desc := "(II)I" } : Jvm.MethodName) prog_1_method_34_code (3 : Nat) (Option.some Jvm.ClassFile.FieldType.int)) ∈ ALL := inT_4 115 rfl rfl
theorem w_899 : (Jvm.Cond.code ({ cls := "MoonOverTheHill", name := "brightest", desc := "(II)I" } : Jvm.MethodName) prog_1_method_35_code (3 : Nat) (Option.some Jvm.ClassFile.FieldType.int)) ∈ ALL := inT_4 119 rfl rfl
theorem w_903 : (Jvm.Cond.code ({ cls := "MoonOverTheHill", name := "walks", desc := "(IIIIII)I" } : Jvm.MethodName) prog_1_method_36_code (7 : Nat) (Option.some Jvm.ClassFile.FieldType.int)) ∈ ALL := inT_4 123 rfl rfl
theorem w_907 : (Jvm.Cond.code ({ cls := "MoonOverTheHill", name := "overs", desc := "(IIII)I" } : Jvm.MethodName) prog_1_method_37_code (5 : Nat) (Option.some Jvm.ClassFile.FieldType.int)) ∈ ALL := inT_4 127 rfl rfl
theorem w_911 : (Jvm.Cond.code ({ cls := "MoonOverTheHill", name := "lates", desc := "(III)I" } : Jvm.MethodName) prog_1_method_38_code (10 : Nat) (Option.some Jvm.ClassFile.FieldType.int)) ∈ ALL := inT_4 131 rfl rfl
theorem w_917 : (Jvm.Cond.code ({ cls := "MoonOverTheHill", name := "date", desc := "(I)I" } : Jvm.MethodName) prog_1_method_39_code (3 : Nat) (Option.some Jvm.ClassFile.FieldType.int)) ∈ ALL := inT_4 137 rfl rfl
theorem w_921 : (Jvm.Cond.code ({ cls := "MoonOverTheHill", name := "months", desc := "(I)I" } : Jvm.MethodName) prog_1_method_40_code (2 : Nat) (Option.some Jvm.ClassFile.FieldType.int)) ∈ ALL := inT_4 141 rfl rfl
theorem w_932 : (Jvm.Cond.code ({ cls := "MoonOverTheHill", name := "eclipse", desc := "(I)I" } : Jvm.MethodName) prog_1_method_41_code (2 : Nat) (Option.some Jvm.ClassFile.FieldType.int)) ∈ ALL := inT_4 152 rfl rfl
theorem w_936 : (Jvm.Cond.code ({ cls := "MoonOverTheHill", name := "sees", desc := "(III)I" } : Jvm.MethodName) prog_1_method_42_code (4 : Nat) (Option.some Jvm.ClassFile.FieldType.int)) ∈ ALL := inT_4 156 rfl rfl
theorem w_949 : (Jvm.Cond.code ({ cls := "MoonOverTheHill", name := "picture", desc := "(III)I" } : Jvm.MethodName) prog_1_method_43_code (10 : Nat) (Option.some Jvm.ClassFile.FieldType.int)) ∈ ALL := inT_4 169 rfl rfl
theorem w_958 : (Jvm.Cond.code ({ cls := "MoonOverTheHill", name := "seen", desc := "(II)I" } : Jvm.MethodName) prog_1_method_44_code (3 : Nat) (Option.some Jvm.ClassFile.FieldType.int)) ∈ ALL := inT_4 178 rfl rfl
theorem w_966 : (Jvm.Cond.code ({ cls := "MoonOverTheHill", name := "toldByMost", desc := "(LMoonOverTheHill$Shelf;I)I" } : Jvm.MethodName) prog_1_method_75_code (9 : Nat) (Option.some Jvm.ClassFile.FieldType.int)) ∈ ALL := inT_4 186 rfl rfl
theorem w_962 : (Jvm.Cond.code ({ cls := "MoonOverTheHill", name := "court", desc := "(II)I" } : Jvm.MethodName) prog_1_method_45_code (5 : Nat) (Option.some Jvm.ClassFile.FieldType.int)) ∈ ALL := inT_4 182 rfl rfl
theorem w_979 : (Jvm.Cond.code ({ cls := "MoonOverTheHill", name := "eager", desc := "(II)I" } : Jvm.MethodName) prog_1_method_46_code (7 : Nat) (Option.some Jvm.ClassFile.FieldType.int)) ∈ ALL := inT_4 199 rfl rfl
theorem w_983 : (Jvm.Cond.code ({ cls := "MoonOverTheHill", name := "tide", desc := "(II)I" } : Jvm.MethodName) prog_1_method_47_code (3 : Nat) (Option.some Jvm.ClassFile.FieldType.int)) ∈ ALL := inT_4 203 rfl rfl
theorem w_995 : (Jvm.Cond.code ({ cls := "MoonOverTheHill", name := "high", desc := "(I)I" } : Jvm.MethodName) prog_1_method_48_code (2 : Nat) (Option.some Jvm.ClassFile.FieldType.int)) ∈ ALL := inT_4 215 rfl rfl
theorem w_1000 : (Jvm.Cond.code ({ cls := "MoonOverTheHill", name := "bone", desc := "(III)I" } : Jvm.MethodName) prog_1_method_49_code (6 : Nat) (Option.some Jvm.ClassFile.FieldType.int)) ∈ ALL := inT_4 220 rfl rfl
theorem w_1040 : (Jvm.Cond.code ({ cls := "MoonOverTheHill", name := "stonesThatHit", desc := "(I)I" } : Jvm.MethodName) prog_1_method_76_code (4 : Nat) (Option.some Jvm.ClassFile.FieldType.int)) ∈ ALL := inT_5 20 rfl rfl
theorem w_1029 : (Jvm.Cond.code ({ cls := "MoonOverTheHill", name := "hits", desc := "(III)I" } : Jvm.MethodName) prog_1_method_50_code (4 : Nat) (Option.some Jvm.ClassFile.FieldType.int)) ∈ ALL := inT_5 9 rfl rfl
theorem w_1049 : (Jvm.Cond.code ({ cls := "MoonOverTheHill", name := "chance", desc := "(III)I" } : Jvm.MethodName) prog_1_method_51_code (4 : Nat) (Option.some Jvm.ClassFile.FieldType.int)) ∈ ALL := inT_5 29 rfl rfl
theorem w_1058 : (Jvm.Cond.code ({ cls := "MoonOverTheHill", name := "meets", desc := "(III)I" } : Jvm.MethodName) prog_1_method_52_code (5 : Nat) (Option.some Jvm.ClassFile.FieldType.int)) ∈ ALL := inT_5 38 rfl rfl
theorem w_1062 : (Jvm.Cond.code ({ cls := "MoonOverTheHill", name := "place", desc := "(III)I" } : Jvm.MethodName) prog_1_method_53_code (4 : Nat) (Option.some Jvm.ClassFile.FieldType.int)) ∈ ALL := inT_5 42 rfl rfl
theorem w_1070 : (Jvm.Cond.code ({ cls := "MoonOverTheHill", name := "meant", desc := "(III)I" } : Jvm.MethodName) prog_1_method_54_code (6 : Nat) (Option.some Jvm.ClassFile.FieldType.int)) ∈ ALL := inT_5 50 rfl rfl
theorem w_1080 : (Jvm.Cond.code ({ cls := "MoonOverTheHill", name := "told", desc := "(II)I" } : Jvm.MethodName) prog_1_method_55_code (4 : Nat) (Option.some Jvm.ClassFile.FieldType.int)) ∈ ALL := inT_5 60 rfl rfl
theorem w_1089 : (Jvm.Cond.code ({ cls := "MoonOverTheHill", name := "letEveningPass", desc := "()Z" } : Jvm.MethodName) prog_1_method_77_code (2 : Nat) (Option.some Jvm.ClassFile.FieldType.boolean)) ∈ ALL := inT_5 69 rfl rfl
theorem w_1085 : (Jvm.Cond.code ({ cls := "MoonOverTheHill", name := "goes", desc := "()I" } : Jvm.MethodName) prog_1_method_56_code (1 : Nat) (Option.some Jvm.ClassFile.FieldType.int)) ∈ ALL := inT_5 65 rfl rfl
theorem w_1098 : (Jvm.Cond.code ({ cls := "MoonOverTheHill", name := "looks", desc := "(I)I" } : Jvm.MethodName) prog_1_method_57_code (3 : Nat) (Option.some Jvm.ClassFile.FieldType.int)) ∈ ALL := inT_5 78 rfl rfl
theorem w_1102 : (Jvm.Cond.code ({ cls := "MoonOverTheHill", name := "seed", desc := "(I)I" } : Jvm.MethodName) prog_1_method_58_code (3 : Nat) (Option.some Jvm.ClassFile.FieldType.int)) ∈ ALL := inT_5 82 rfl rfl
theorem w_1106 : (Jvm.Cond.code ({ cls := "MoonOverTheHill", name := "image", desc := "()I" } : Jvm.MethodName) prog_1_method_59_code (1 : Nat) (Option.some Jvm.ClassFile.FieldType.int)) ∈ ALL := inT_5 86 rfl rfl
theorem w_1110 : (Jvm.Cond.code ({ cls := "MoonOverTheHill", name := "back", desc := "()I" } : Jvm.MethodName) prog_1_method_60_code (1 : Nat) (Option.some Jvm.ClassFile.FieldType.int)) ∈ ALL := inT_5 90 rfl rfl
theorem w_1118 : (Jvm.Cond.code ({ cls := "MoonOverTheHill", name := "shelvesInUse", desc := "()I" } : Jvm.MethodName) prog_1_method_74_code (4 : Nat) (Option.some Jvm.ClassFile.FieldType.int)) ∈ ALL := inT_5 98 rfl rfl
theorem w_1122 : (Jvm.Cond.code ({ cls := "MoonOverTheHill", name := "refusalsAt", desc := "(I)I" } : Jvm.MethodName) prog_1_method_73_code (2 : Nat) (Option.some Jvm.ClassFile.FieldType.int)) ∈ ALL := inT_5 102 rfl rfl
theorem w_1114 : (Jvm.Cond.code ({ cls := "MoonOverTheHill", name := "status", desc := "(I)I" } : Jvm.MethodName) prog_1_method_61_code (2 : Nat) (Option.some Jvm.ClassFile.FieldType.int)) ∈ ALL := inT_5 94 rfl rfl
theorem wsin_X0 : ∀ w ∈ u_ws RX0 TX0 2, w ∈ ALL := (List.forall_mem_cons.mpr ⟨w_110, (List.forall_mem_cons.mpr ⟨w_112, (List.forall_mem_nil _)⟩)⟩)
theorem wsin_X1 : ∀ w ∈ u_ws RX1 TX1 4, w ∈ ALL := (List.forall_mem_cons.mpr ⟨w_120, (List.forall_mem_cons.mpr ⟨w_122, (List.forall_mem_cons.mpr ⟨w_124, (List.forall_mem_cons.mpr ⟨w_126, (List.forall_mem_nil _)⟩)⟩)⟩)⟩)
theorem wsin_X2 : ∀ w ∈ u_ws RX2 TX2 1, w ∈ ALL := (List.forall_mem_cons.mpr ⟨w_185, (List.forall_mem_nil _)⟩)
theorem wsin_X3 : ∀ w ∈ u_ws RX3 TX3 1, w ∈ ALL := (List.forall_mem_cons.mpr ⟨w_220, (List.forall_mem_nil _)⟩)
theorem wsin_X4 : ∀ w ∈ u_ws RX4 TX4 5, w ∈ ALL := (List.forall_mem_cons.mpr ⟨w_470, (List.forall_mem_cons.mpr ⟨w_472, (List.forall_mem_cons.mpr ⟨w_474, (List.forall_mem_cons.mpr ⟨w_476, (List.forall_mem_cons.mpr ⟨w_478, (List.forall_mem_nil _)⟩)⟩)⟩)⟩)⟩)
theorem wsin_X5 : ∀ w ∈ u_ws RX5 TX5 4, w ∈ ALL := (List.forall_mem_cons.mpr ⟨w_234, (List.forall_mem_cons.mpr ⟨w_236, (List.forall_mem_cons.mpr ⟨w_238, (List.forall_mem_cons.mpr ⟨w_240, (List.forall_mem_nil _)⟩)⟩)⟩)⟩)
theorem wsin_X6 : ∀ w ∈ u_ws RX6 TX6 10, w ∈ ALL := (List.forall_mem_cons.mpr ⟨w_157, (List.forall_mem_cons.mpr ⟨w_159, (List.forall_mem_cons.mpr ⟨w_161, (List.forall_mem_cons.mpr ⟨w_163, (List.forall_mem_cons.mpr ⟨w_165, (List.forall_mem_cons.mpr ⟨w_167, (List.forall_mem_cons.mpr ⟨w_169, (List.forall_mem_cons.mpr ⟨w_171, (List.forall_mem_cons.mpr ⟨w_173, (List.forall_mem_cons.mpr ⟨w_175, (List.forall_mem_nil _)⟩)⟩)⟩)⟩)⟩)⟩)⟩)⟩)⟩)⟩)
theorem wsin_X7 : ∀ w ∈ u_ws RX7 TX7 6, w ∈ ALL := (List.forall_mem_cons.mpr ⟨w_200, (List.forall_mem_cons.mpr ⟨w_202, (List.forall_mem_cons.mpr ⟨w_204, (List.forall_mem_cons.mpr ⟨w_206, (List.forall_mem_cons.mpr ⟨w_208, (List.forall_mem_cons.mpr ⟨w_210, (List.forall_mem_nil _)⟩)⟩)⟩)⟩)⟩)⟩)
theorem wsin_X8 : ∀ w ∈ u_ws RX8 TX8 9, w ∈ ALL := (List.forall_mem_cons.mpr ⟨w_253, (List.forall_mem_cons.mpr ⟨w_255, (List.forall_mem_cons.mpr ⟨w_257, (List.forall_mem_cons.mpr ⟨w_259, (List.forall_mem_cons.mpr ⟨w_261, (List.forall_mem_cons.mpr ⟨w_263, (List.forall_mem_cons.mpr ⟨w_265, (List.forall_mem_cons.mpr ⟨w_267, (List.forall_mem_cons.mpr ⟨w_269, (List.forall_mem_nil _)⟩)⟩)⟩)⟩)⟩)⟩)⟩)⟩)⟩)
theorem wsin_X9 : ∀ w ∈ u_ws RX9 TX9 29, w ∈ ALL := (List.forall_mem_cons.mpr ⟨w_1162, (List.forall_mem_cons.mpr ⟨w_1164, (List.forall_mem_cons.mpr ⟨w_1166, (List.forall_mem_cons.mpr ⟨w_1168, (List.forall_mem_cons.mpr ⟨w_1170, (List.forall_mem_cons.mpr ⟨w_1172, (List.forall_mem_cons.mpr ⟨w_1174, (List.forall_mem_cons.mpr ⟨w_1176, (List.forall_mem_cons.mpr ⟨w_1178, (List.forall_mem_cons.mpr ⟨w_1180, (List.forall_mem_cons.mpr ⟨w_1182, (List.forall_mem_cons.mpr ⟨w_1184, (List.forall_mem_cons.mpr ⟨w_1186, (List.forall_mem_cons.mpr ⟨w_1188, (List.forall_mem_cons.mpr ⟨w_1190, (List.forall_mem_cons.mpr ⟨w_1192, (List.forall_mem_cons.mpr ⟨w_1194, (List.forall_mem_cons.mpr ⟨w_1196, (List.forall_mem_cons.mpr ⟨w_1198, (List.forall_mem_cons.mpr ⟨w_1200, (List.forall_mem_cons.mpr ⟨w_1202, (List.forall_mem_cons.mpr ⟨w_1204, (List.forall_mem_cons.mpr ⟨w_1206, (List.forall_mem_cons.mpr ⟨w_1208, (List.forall_mem_cons.mpr ⟨w_1210, (List.forall_mem_cons.mpr ⟨w_1212, (List.forall_mem_cons.mpr ⟨w_1214, (List.forall_mem_cons.mpr ⟨w_1216, (List.forall_mem_cons.mpr ⟨w_1218, (List.forall_mem_nil _)⟩)⟩)⟩)⟩)⟩)⟩)⟩)⟩)⟩)⟩)⟩)⟩)⟩)⟩)⟩)⟩)⟩)⟩)⟩)⟩)⟩)⟩)⟩)⟩)⟩)⟩)⟩)⟩)⟩)
theorem nc_X0 : RX0 ≠ "java/lang/invoke/MethodHandle" ∧ RX0 ≠ "java/lang/invoke/VarHandle" := by decide +kernel
theorem pn_X0 {x : MethodName} (h : x.cls = RX0) : plainFor x = true := plainFor_of_name (by rw [h]; decide +kernel)
theorem nc_X1 : RX1 ≠ "java/lang/invoke/MethodHandle" ∧ RX1 ≠ "java/lang/invoke/VarHandle" := by decide +kernel
theorem pn_X1 {x : MethodName} (h : x.cls = RX1) : plainFor x = true := plainFor_of_name (by rw [h]; decide +kernel)
theorem nc_X2 : RX2 ≠ "java/lang/invoke/MethodHandle" ∧ RX2 ≠ "java/lang/invoke/VarHandle" := by decide +kernel
theorem pn_X2 {x : MethodName} (h : x.cls = RX2) : plainFor x = true := plainFor_of_name (by rw [h]; decide +kernel)
theorem nc_X3 : RX3 ≠ "java/lang/invoke/MethodHandle" ∧ RX3 ≠ "java/lang/invoke/VarHandle" := by decide +kernel
theorem pn_X3 {x : MethodName} (h : x.cls = RX3) : plainFor x = true := plainFor_of_name (by rw [h]; decide +kernel)
theorem nc_X4 : RX4 ≠ "java/lang/invoke/MethodHandle" ∧ RX4 ≠ "java/lang/invoke/VarHandle" := by decide +kernel
theorem pn_X4 {x : MethodName} (h : x.cls = RX4) : plainFor x = true := plainFor_of_name (by rw [h]; decide +kernel)
theorem nc_X5 : RX5 ≠ "java/lang/invoke/MethodHandle" ∧ RX5 ≠ "java/lang/invoke/VarHandle" := by decide +kernel
theorem pn_X5 {x : MethodName} (h : x.cls = RX5) : plainFor x = true := plainFor_of_name (by rw [h]; decide +kernel)
theorem nc_X6 : RX6 ≠ "java/lang/invoke/MethodHandle" ∧ RX6 ≠ "java/lang/invoke/VarHandle" := by decide +kernel
theorem pn_X6 {x : MethodName} (h : x.cls = RX6) : plainFor x = true := plainFor_of_name (by rw [h]; decide +kernel)
theorem nc_X7 : RX7 ≠ "java/lang/invoke/MethodHandle" ∧ RX7 ≠ "java/lang/invoke/VarHandle" := by decide +kernel
theorem pn_X7 {x : MethodName} (h : x.cls = RX7) : plainFor x = true := plainFor_of_name (by rw [h]; decide +kernel)
theorem nc_X8 : RX8 ≠ "java/lang/invoke/MethodHandle" ∧ RX8 ≠ "java/lang/invoke/VarHandle" := by decide +kernel
theorem pn_X8 {x : MethodName} (h : x.cls = RX8) : plainFor x = true := plainFor_of_name (by rw [h]; decide +kernel)
theorem nc_X9 : RX9 ≠ "java/lang/invoke/MethodHandle" ∧ RX9 ≠ "java/lang/invoke/VarHandle" := by decide +kernel
theorem pn_X9 {x : MethodName} (h : x.cls = RX9) : plainFor x = true := plainFor_of_name (by rw [h]; decide +kernel)
theorem pd_0 : (parseMethodDescriptor "(III)Z").map (fun d => d.parameters.length) = some 3 := by decide +kernel
theorem pd_1 : (parseMethodDescriptor "(I)Z").map (fun d => d.parameters.length) = some 1 := by decide +kernel
theorem pd_2 : (parseMethodDescriptor "(II)Z").map (fun d => d.parameters.length) = some 2 := by decide +kernel
theorem pd_3 : (parseMethodDescriptor "(I)V").map (fun d => d.parameters.length) = some 1 := by decide +kernel
theorem pd_4 : (parseMethodDescriptor "()I").map (fun d => d.parameters.length) = some 0 := by decide +kernel
theorem pd_5 : (parseMethodDescriptor "()Z").map (fun d => d.parameters.length) = some 0 := by decide +kernel
theorem pd_6 : (parseMethodDescriptor "(I)I").map (fun d => d.parameters.length) = some 1 := by decide +kernel
theorem pd_7 : (parseMethodDescriptor "()V").map (fun d => d.parameters.length) = some 0 := by decide +kernel
theorem pd_8 : (parseMethodDescriptor "(LMoonOverTheHill$Few;)V").map (fun d => d.parameters.length) = some 1 := by decide +kernel
theorem pd_9 : (parseMethodDescriptor "(III)V").map (fun d => d.parameters.length) = some 3 := by decide +kernel
theorem pd_10 : (parseMethodDescriptor "(II)I").map (fun d => d.parameters.length) = some 2 := by decide +kernel
theorem pd_11 : (parseMethodDescriptor "(LMoonOverTheHill$Hill;)V").map (fun d => d.parameters.length) = some 1 := by decide +kernel
theorem pd_12 : (parseMethodDescriptor "(IIIILMoonOverTheHill$Shelf;)V").map (fun d => d.parameters.length) = some 5 := by decide +kernel
theorem pd_13 : (parseMethodDescriptor "(IIII)V").map (fun d => d.parameters.length) = some 4 := by decide +kernel
theorem pd_14 : (parseMethodDescriptor "(LMoonOverTheHill$Shelf;)V").map (fun d => d.parameters.length) = some 1 := by decide +kernel
theorem pd_15 : (parseMethodDescriptor "(LMoonOverTheHill$Shelf;)Z").map (fun d => d.parameters.length) = some 1 := by decide +kernel
theorem pd_16 : (parseMethodDescriptor "(II)V").map (fun d => d.parameters.length) = some 2 := by decide +kernel
theorem pd_17 : (parseMethodDescriptor "(I)J").map (fun d => d.parameters.length) = some 1 := by decide +kernel
theorem pd_18 : (parseMethodDescriptor "(J)J").map (fun d => d.parameters.length) = some 1 := by decide +kernel
theorem pd_19 : (parseMethodDescriptor "(IJ)V").map (fun d => d.parameters.length) = some 2 := by decide +kernel
theorem pd_20 : (parseMethodDescriptor "(LMoonOverTheHill$Shelf;III)V").map (fun d => d.parameters.length) = some 4 := by decide +kernel
theorem pd_21 : (parseMethodDescriptor "(JI)I").map (fun d => d.parameters.length) = some 2 := by decide +kernel
theorem pd_22 : (parseMethodDescriptor "(JJJ)Z").map (fun d => d.parameters.length) = some 3 := by decide +kernel
theorem pd_23 : (parseMethodDescriptor "(LMoonOverTheHill$State;)V").map (fun d => d.parameters.length) = some 1 := by decide +kernel
theorem pd_24 : (parseMethodDescriptor "(III)I").map (fun d => d.parameters.length) = some 3 := by decide +kernel
theorem pd_25 : (parseMethodDescriptor "(LMoonOverTheHill$Shelf;I)Z").map (fun d => d.parameters.length) = some 2 := by decide +kernel
theorem pd_26 : (parseMethodDescriptor "(LMoonOverTheHill$Question;I)Z").map (fun d => d.parameters.length) = some 2 := by decide +kernel
theorem pd_27 : (parseMethodDescriptor "(IIILMoonOverTheHill$Question;)I").map (fun d => d.parameters.length) = some 4 := by decide +kernel
theorem pd_28 : (parseMethodDescriptor "(J)Z").map (fun d => d.parameters.length) = some 1 := by decide +kernel
theorem pd_29 : (parseMethodDescriptor "(LMoonOverTheHill$Moon;II)V").map (fun d => d.parameters.length) = some 3 := by decide +kernel
theorem pd_30 : (parseMethodDescriptor "(IJ)J").map (fun d => d.parameters.length) = some 2 := by decide +kernel
theorem pd_31 : (parseMethodDescriptor "(IIJ)I").map (fun d => d.parameters.length) = some 3 := by decide +kernel
theorem pd_32 : (parseMethodDescriptor "(IIIII)I").map (fun d => d.parameters.length) = some 5 := by decide +kernel
theorem pd_33 : (parseMethodDescriptor "(II)J").map (fun d => d.parameters.length) = some 2 := by decide +kernel
theorem pd_34 : (parseMethodDescriptor "(Ljava/lang/String;)Z").map (fun d => d.parameters.length) = some 1 := by decide +kernel
theorem pd_35 : (parseMethodDescriptor "([I[I)V").map (fun d => d.parameters.length) = some 2 := by decide +kernel
theorem pd_36 : (parseMethodDescriptor "(LMoonOverTheHillModel;)V").map (fun d => d.parameters.length) = some 1 := by decide +kernel
theorem pd_37 : (parseMethodDescriptor "(IIII)I").map (fun d => d.parameters.length) = some 4 := by decide +kernel
theorem pd_38 : (parseMethodDescriptor "(IIIIII)I").map (fun d => d.parameters.length) = some 6 := by decide +kernel
theorem pd_39 : (parseMethodDescriptor "([JI)Z").map (fun d => d.parameters.length) = some 2 := by decide +kernel
theorem pd_40 : (parseMethodDescriptor "(IIII)Z").map (fun d => d.parameters.length) = some 4 := by decide +kernel
theorem pd_41 : (parseMethodDescriptor "(LMoonOverTheHill$State;I)Z").map (fun d => d.parameters.length) = some 2 := by decide +kernel
theorem pd_42 : (parseMethodDescriptor "(LMoonOverTheHill$Hill;)Z").map (fun d => d.parameters.length) = some 1 := by decide +kernel
theorem pd_43 : (parseMethodDescriptor "(LMoonOverTheHill$Few;)Z").map (fun d => d.parameters.length) = some 1 := by decide +kernel
theorem pd_44 : (parseMethodDescriptor "(LMoonOverTheHill$State;)Z").map (fun d => d.parameters.length) = some 1 := by decide +kernel
theorem pd_45 : (parseMethodDescriptor "(LMoonOverTheHill$State;)I").map (fun d => d.parameters.length) = some 1 := by decide +kernel
theorem pd_46 : (parseMethodDescriptor "(I)LMoonOverTheHill$Shelf;").map (fun d => d.parameters.length) = some 1 := by decide +kernel
theorem pd_47 : (parseMethodDescriptor "(LMoonOverTheHill$Shelf;I)I").map (fun d => d.parameters.length) = some 2 := by decide +kernel
def m_X8_isIn : MI := (⟨RX8, "isIn", "(III)Z"⟩, prog_1_method_62_code, 3, some .boolean)
theorem gy_X8_isIn : goodY m_X8_isIn 3 := ⟨w_282, ⟨nc_X8.1, nc_X8.2, pd_0, Nat.le_of_ble_eq_true rfl⟩, pn_X8 rfl⟩
def m_X8_isDay : MI := (⟨RX8, "isDay", "(I)Z"⟩, prog_1_method_63_code, 1, some .boolean)
theorem gy_X8_isDay : goodY m_X8_isDay 1 := ⟨w_373, ⟨nc_X8.1, nc_X8.2, pd_1, Nat.le_of_ble_eq_true rfl⟩, pn_X8 rfl⟩
def m_X8_areDays : MI := (⟨RX8, "areDays", "(II)Z"⟩, prog_1_method_64_code, 2, some .boolean)
theorem gy_X8_areDays : goodY m_X8_areDays 2 := ⟨w_853, ⟨nc_X8.1, nc_X8.2, pd_2, Nat.le_of_ble_eq_true rfl⟩, pn_X8 rfl⟩
def m_X8_areMinutes : MI := (⟨RX8, "areMinutes", "(II)Z"⟩, prog_1_method_65_code, 2, some .boolean)
theorem gy_X8_areMinutes : goodY m_X8_areMinutes 2 := ⟨w_825, ⟨nc_X8.1, nc_X8.2, pd_2, Nat.le_of_ble_eq_true rfl⟩, pn_X8 rfl⟩
def m_X8_isKind : MI := (⟨RX8, "isKind", "(I)Z"⟩, prog_1_method_66_code, 1, some .boolean)
theorem gy_X8_isKind : goodY m_X8_isKind 1 := ⟨w_370, ⟨nc_X8.1, nc_X8.2, pd_1, Nat.le_of_ble_eq_true rfl⟩, pn_X8 rfl⟩
def m_X8_isUnder : MI := (⟨RX8, "isUnder", "(II)Z"⟩, prog_1_method_67_code, 2, some .boolean)
theorem gy_X8_isUnder : goodY m_X8_isUnder 2 := ⟨w_388, ⟨nc_X8.1, nc_X8.2, pd_2, Nat.le_of_ble_eq_true rfl⟩, pn_X8 rfl⟩
def m_J9_max_7cf53 : MI := (⟨RJ9, "max", "(II)I"⟩, prog_13_method_65_code, 2, some .int)
theorem gy_J9_max_7cf53 : goodY m_J9_max_7cf53 2 := ⟨w_107, by decide +kernel, jm_plain rfl (by decide +kernel)⟩
def m_X0_init : MI := (⟨RX0, "<init>", "(I)V"⟩, prog_2_method_1_code, 2, none)
theorem gy_X0_init : goodY m_X0_init 1 := ⟨w_103, ⟨nc_X0.1, nc_X0.2, pd_3, Nat.le_of_ble_eq_true rfl⟩, pn_X0 rfl⟩
def m_X0_count : MI := (⟨RX0, "count", "()I"⟩, prog_2_method_2_code, 1, some .int)
theorem gy_X0_count : goodY m_X0_count 0 := ⟨w_513, ⟨nc_X0.1, nc_X0.2, pd_4, Nat.le_of_ble_eq_true rfl⟩, pn_X0 rfl⟩
def m_X0_isFull : MI := (⟨RX0, "isFull", "()Z"⟩, prog_2_method_3_code, 1, some .boolean)
theorem gy_X0_isFull : goodY m_X0_isFull 0 := ⟨w_568, ⟨nc_X0.1, nc_X0.2, pd_5, Nat.le_of_ble_eq_true rfl⟩, pn_X0 rfl⟩
def m_X0_add : MI := (⟨RX0, "add", "(I)V"⟩, prog_2_method_4_code, 2, none)
theorem gy_X0_add : goodY m_X0_add 1 := ⟨w_576, ⟨nc_X0.1, nc_X0.2, pd_3, Nat.le_of_ble_eq_true rfl⟩, pn_X0 rfl⟩
def m_X0_at : MI := (⟨RX0, "at", "(I)I"⟩, prog_2_method_5_code, 2, some .int)
theorem gy_X0_at : goodY m_X0_at 1 := ⟨w_517, ⟨nc_X0.1, nc_X0.2, pd_6, Nat.le_of_ble_eq_true rfl⟩, pn_X0 rfl⟩
def m_X0_contains : MI := (⟨RX0, "contains", "(I)Z"⟩, prog_2_method_6_code, 3, some .boolean)
theorem gy_X0_contains : goodY m_X0_contains 1 := ⟨w_526, ⟨nc_X0.1, nc_X0.2, pd_1, Nat.le_of_ble_eq_true rfl⟩, pn_X0 rfl⟩
def m_X0_empty : MI := (⟨RX0, "empty", "()V"⟩, prog_2_method_7_code, 1, none)
theorem gy_X0_empty : goodY m_X0_empty 0 := ⟨w_601, ⟨nc_X0.1, nc_X0.2, pd_7, Nat.le_of_ble_eq_true rfl⟩, pn_X0 rfl⟩
def m_X0_become : MI := (⟨RX0, "become", "(LMoonOverTheHill$Few;)V"⟩, prog_2_method_8_code, 3, none)
theorem gy_X0_become : goodY m_X0_become 1 := ⟨w_645, ⟨nc_X0.1, nc_X0.2, pd_8, Nat.le_of_ble_eq_true rfl⟩, pn_X0 rfl⟩
def m_X1_init : MI := (⟨RX1, "<init>", "()V"⟩, prog_3_method_1_code, 1, none)
theorem gy_X1_init : goodY m_X1_init 0 := ⟨w_97, ⟨nc_X1.1, nc_X1.2, pd_7, Nat.le_of_ble_eq_true rfl⟩, pn_X1 rfl⟩
def m_X1_count : MI := (⟨RX1, "count", "()I"⟩, prog_3_method_2_code, 1, some .int)
theorem gy_X1_count : goodY m_X1_count 0 := ⟨w_509, ⟨nc_X1.1, nc_X1.2, pd_4, Nat.le_of_ble_eq_true rfl⟩, pn_X1 rfl⟩
def m_X1_isFull : MI := (⟨RX1, "isFull", "()Z"⟩, prog_3_method_3_code, 1, some .boolean)
theorem gy_X1_isFull : goodY m_X1_isFull 0 := ⟨w_564, ⟨nc_X1.1, nc_X1.2, pd_5, Nat.le_of_ble_eq_true rfl⟩, pn_X1 rfl⟩
def m_X1_add : MI := (⟨RX1, "add", "(III)V"⟩, prog_3_method_4_code, 5, none)
theorem gy_X1_add : goodY m_X1_add 3 := ⟨w_572, ⟨nc_X1.1, nc_X1.2, pd_9, Nat.le_of_ble_eq_true rfl⟩, pn_X1 rfl⟩
def m_X1_partOf : MI := (⟨RX1, "partOf", "(II)I"⟩, prog_3_method_5_code, 3, some .int)
theorem gy_X1_partOf : goodY m_X1_partOf 2 := ⟨w_766, ⟨nc_X1.1, nc_X1.2, pd_10, Nat.le_of_ble_eq_true rfl⟩, pn_X1 rfl⟩
def m_X1_lineAt : MI := (⟨RX1, "lineAt", "(I)I"⟩, prog_3_method_6_code, 2, some .int)
theorem gy_X1_lineAt : goodY m_X1_lineAt 1 := ⟨w_436, ⟨nc_X1.1, nc_X1.2, pd_6, Nat.le_of_ble_eq_true rfl⟩, pn_X1 rfl⟩
def m_X1_overFrom : MI := (⟨RX1, "overFrom", "(I)I"⟩, prog_3_method_7_code, 5, some .int)
theorem gy_X1_overFrom : goodY m_X1_overFrom 1 := ⟨w_432, ⟨nc_X1.1, nc_X1.2, pd_6, Nat.le_of_ble_eq_true rfl⟩, pn_X1 rfl⟩
def m_X1_makerOf : MI := (⟨RX1, "makerOf", "(I)I"⟩, prog_3_method_8_code, 3, some .int)
theorem gy_X1_makerOf : goodY m_X1_makerOf 1 := ⟨w_505, ⟨nc_X1.1, nc_X1.2, pd_6, Nat.le_of_ble_eq_true rfl⟩, pn_X1 rfl⟩
def m_J7_fill_53178 : MI := (⟨RJ7, "fill", "([II)V"⟩, prog_18_method_103_code, 4, none)
theorem gy_J7_fill_53178 : goodY m_J7_fill_53178 2 := ⟨w_604, by decide +kernel, plainFor_of_name (by decide +kernel)⟩
def m_X1_empty : MI := (⟨RX1, "empty", "()V"⟩, prog_3_method_9_code, 1, none)
theorem gy_X1_empty : goodY m_X1_empty 0 := ⟨w_597, ⟨nc_X1.1, nc_X1.2, pd_7, Nat.le_of_ble_eq_true rfl⟩, pn_X1 rfl⟩
def m_X1_become : MI := (⟨RX1, "become", "(LMoonOverTheHill$Hill;)V"⟩, prog_3_method_10_code, 2, none)
theorem gy_X1_become : goodY m_X1_become 1 := ⟨w_641, ⟨nc_X1.1, nc_X1.2, pd_11, Nat.le_of_ble_eq_true rfl⟩, pn_X1 rfl⟩
def m_X4_init : MI := (⟨RX4, "<init>", "(IIIILMoonOverTheHill$Shelf;)V"⟩, prog_6_method_1_code, 6, none)
theorem gy_X4_init : goodY m_X4_init 5 := ⟨w_458, ⟨nc_X4.1, nc_X4.2, pd_12, Nat.le_of_ble_eq_true rfl⟩, pn_X4 rfl⟩
def m_X4_init_ : MI := (⟨RX4, "<init>", "(I)V"⟩, prog_6_method_2_code, 2, none)
theorem gy_X4_init_ : goodY m_X4_init_ 1 := ⟨w_455, ⟨nc_X4.1, nc_X4.2, pd_3, Nat.le_of_ble_eq_true rfl⟩, pn_X4 rfl⟩
def m_X4_init__ : MI := (⟨RX4, "<init>", "(IIII)V"⟩, prog_6_method_3_code, 5, none)
theorem gy_X4_init__ : goodY m_X4_init__ 4 := ⟨w_860, ⟨nc_X4.1, nc_X4.2, pd_13, Nat.le_of_ble_eq_true rfl⟩, pn_X4 rfl⟩
def m_X4_init___ : MI := (⟨RX4, "<init>", "(LMoonOverTheHill$Shelf;)V"⟩, prog_6_method_4_code, 2, none)
theorem gy_X4_init___ : goodY m_X4_init___ 1 := ⟨w_954, ⟨nc_X4.1, nc_X4.2, pd_14, Nat.le_of_ble_eq_true rfl⟩, pn_X4 rfl⟩
def m_X5_init : MI := (⟨RX5, "<init>", "()V"⟩, prog_7_method_1_code, 1, none)
theorem gy_X5_init : goodY m_X5_init 0 := ⟨w_228, ⟨nc_X5.1, nc_X5.2, pd_7, Nat.le_of_ble_eq_true rfl⟩, pn_X5 rfl⟩
def m_X5_content : MI := (⟨RX5, "content", "()I"⟩, prog_7_method_2_code, 1, some .int)
theorem gy_X5_content : goodY m_X5_content 0 := ⟨w_363, ⟨nc_X5.1, nc_X5.2, pd_4, Nat.le_of_ble_eq_true rfl⟩, pn_X5 rfl⟩
def m_X5_isBare : MI := (⟨RX5, "isBare", "()Z"⟩, prog_7_method_3_code, 1, some .boolean)
theorem gy_X5_isBare : goodY m_X5_isBare 0 := ⟨w_312, ⟨nc_X5.1, nc_X5.2, pd_5, Nat.le_of_ble_eq_true rfl⟩, pn_X5 rfl⟩
def m_X5_isEvening : MI := (⟨RX5, "isEvening", "()Z"⟩, prog_7_method_4_code, 1, some .boolean)
theorem gy_X5_isEvening : goodY m_X5_isEvening 0 := ⟨w_308, ⟨nc_X5.1, nc_X5.2, pd_5, Nat.le_of_ble_eq_true rfl⟩, pn_X5 rfl⟩
def m_X5_isRow : MI := (⟨RX5, "isRow", "()Z"⟩, prog_7_method_5_code, 1, some .boolean)
theorem gy_X5_isRow : goodY m_X5_isRow 0 := ⟨w_337, ⟨nc_X5.1, nc_X5.2, pd_5, Nat.le_of_ble_eq_true rfl⟩, pn_X5 rfl⟩
def m_X5_isRowOfOtherSort : MI := (⟨RX5, "isRowOfOtherSort", "(LMoonOverTheHill$Shelf;)Z"⟩, prog_7_method_6_code, 2, some .boolean)
theorem gy_X5_isRowOfOtherSort : goodY m_X5_isRowOfOtherSort 1 := ⟨w_333, ⟨nc_X5.1, nc_X5.2, pd_15, Nat.le_of_ble_eq_true rfl⟩, pn_X5 rfl⟩
def m_X5_kind : MI := (⟨RX5, "kind", "()I"⟩, prog_7_method_7_code, 1, some .int)
theorem gy_X5_kind : goodY m_X5_kind 0 := ⟨w_385, ⟨nc_X5.1, nc_X5.2, pd_4, Nat.le_of_ble_eq_true rfl⟩, pn_X5 rfl⟩
def m_X5_day : MI := (⟨RX5, "day", "()I"⟩, prog_7_method_8_code, 1, some .int)
theorem gy_X5_day : goodY m_X5_day 0 := ⟨w_392, ⟨nc_X5.1, nc_X5.2, pd_4, Nat.le_of_ble_eq_true rfl⟩, pn_X5 rfl⟩
def m_X5_refusalAsRow : MI := (⟨RX5, "refusalAsRow", "(I)I"⟩, prog_7_method_9_code, 2, some .int)
theorem gy_X5_refusalAsRow : goodY m_X5_refusalAsRow 1 := ⟨w_304, ⟨nc_X5.1, nc_X5.2, pd_6, Nat.le_of_ble_eq_true rfl⟩, pn_X5 rfl⟩
def m_J9_min_7cf53 : MI := (⟨RJ9, "min", "(II)I"⟩, prog_13_method_69_code, 2, some .int)
theorem gy_J9_min_7cf53 : goodY m_J9_min_7cf53 2 := ⟨w_293, by decide +kernel, jm_plain rfl (by decide +kernel)⟩
def m_J7_fill_d0a16 : MI := (⟨RJ7, "fill", "([JJ)V"⟩, prog_18_method_101_code, 5, none)
theorem gy_J7_fill_d0a16 : goodY m_J7_fill_d0a16 2 := ⟨w_296, by decide +kernel, plainFor_of_name (by decide +kernel)⟩
def m_X5_putRow : MI := (⟨RX5, "putRow", "(II)V"⟩, prog_7_method_10_code, 3, none)
theorem gy_X5_putRow : goodY m_X5_putRow 2 := ⟨w_290, ⟨nc_X5.1, nc_X5.2, pd_16, Nat.le_of_ble_eq_true rfl⟩, pn_X5 rfl⟩
def m_X5_putEvening : MI := (⟨RX5, "putEvening", "(II)V"⟩, prog_7_method_11_code, 3, none)
theorem gy_X5_putEvening : goodY m_X5_putEvening 2 := ⟨w_377, ⟨nc_X5.1, nc_X5.2, pd_16, Nat.le_of_ble_eq_true rfl⟩, pn_X5 rfl⟩
def m_X5_hasPlaces : MI := (⟨RX5, "hasPlaces", "(II)Z"⟩, prog_7_method_12_code, 3, some .boolean)
theorem gy_X5_hasPlaces : goodY m_X5_hasPlaces 2 := ⟨w_316, ⟨nc_X5.1, nc_X5.2, pd_2, Nat.le_of_ble_eq_true rfl⟩, pn_X5 rfl⟩
def m_X5_at : MI := (⟨RX5, "at", "(I)J"⟩, prog_7_method_13_code, 2, some .long)
theorem gy_X5_at : goodY m_X5_at 1 := ⟨w_355, ⟨nc_X5.1, nc_X5.2, pd_17, Nat.le_of_ble_eq_true rfl⟩, pn_X5 rfl⟩
def m_X5_cut : MI := (⟨RX5, "cut", "(J)J"⟩, prog_7_method_15_code, 3, some .long)
theorem gy_X5_cut : goodY m_X5_cut 1 := ⟨w_324, ⟨nc_X5.1, nc_X5.2, pd_18, Nat.le_of_ble_eq_true rfl⟩, pn_X5 rfl⟩
def m_X5_put : MI := (⟨RX5, "put", "(IJ)V"⟩, prog_7_method_14_code, 4, none)
theorem gy_X5_put : goodY m_X5_put 2 := ⟨w_320, ⟨nc_X5.1, nc_X5.2, pd_19, Nat.le_of_ble_eq_true rfl⟩, pn_X5 rfl⟩
def m_X5_take : MI := (⟨RX5, "take", "(LMoonOverTheHill$Shelf;III)V"⟩, prog_7_method_16_code, 5, none)
theorem gy_X5_take : goodY m_X5_take 4 := ⟨w_342, ⟨nc_X5.1, nc_X5.2, pd_20, Nat.le_of_ble_eq_true rfl⟩, pn_X5 rfl⟩
def m_X5_timesOf : MI := (⟨RX5, "timesOf", "(JI)I"⟩, prog_7_method_17_code, 6, some .int)
theorem gy_X5_timesOf : goodY m_X5_timesOf 2 := ⟨w_975, ⟨nc_X5.1, nc_X5.2, pd_21, Nat.le_of_ble_eq_true rfl⟩, pn_X5 rfl⟩
def m_X5_isSpan : MI := (⟨RX5, "isSpan", "(II)Z"⟩, prog_7_method_18_code, 3, some .boolean)
theorem gy_X5_isSpan : goodY m_X5_isSpan 2 := ⟨w_543, ⟨nc_X5.1, nc_X5.2, pd_2, Nat.le_of_ble_eq_true rfl⟩, pn_X5 rfl⟩
def m_X5_isMonthCount : MI := (⟨RX5, "isMonthCount", "(I)Z"⟩, prog_7_method_19_code, 2, some .boolean)
theorem gy_X5_isMonthCount : goodY m_X5_isMonthCount 1 := ⟨w_1008, ⟨nc_X5.1, nc_X5.2, pd_1, Nat.le_of_ble_eq_true rfl⟩, pn_X5 rfl⟩
def m_X5_monthCounts : MI := (⟨RX5, "monthCounts", "(I)I"⟩, prog_7_method_20_code, 4, some .int)
theorem gy_X5_monthCounts : goodY m_X5_monthCounts 1 := ⟨w_1004, ⟨nc_X5.1, nc_X5.2, pd_6, Nat.le_of_ble_eq_true rfl⟩, pn_X5 rfl⟩
def m_X5_longestRun : MI := (⟨RX5, "longestRun", "(I)I"⟩, prog_7_method_21_code, 5, some .int)
theorem gy_X5_longestRun : goodY m_X5_longestRun 1 := ⟨w_1014, ⟨nc_X5.1, nc_X5.2, pd_6, Nat.le_of_ble_eq_true rfl⟩, pn_X5 rfl⟩
def m_X5_isThreeMonths : MI := (⟨RX5, "isThreeMonths", "(JJJ)Z"⟩, prog_7_method_23_code, 10, some .boolean)
theorem gy_X5_isThreeMonths : goodY m_X5_isThreeMonths 3 := ⟨w_1022, ⟨nc_X5.1, nc_X5.2, pd_22, Nat.le_of_ble_eq_true rfl⟩, pn_X5 rfl⟩
def m_X5_threesOfMonths : MI := (⟨RX5, "threesOfMonths", "(I)I"⟩, prog_7_method_22_code, 4, some .int)
theorem gy_X5_threesOfMonths : goodY m_X5_threesOfMonths 1 := ⟨w_1019, ⟨nc_X5.1, nc_X5.2, pd_6, Nat.le_of_ble_eq_true rfl⟩, pn_X5 rfl⟩
def m_X6_init : MI := (⟨RX6, "<init>", "()V"⟩, prog_8_method_1_code, 1, none)
theorem gy_X6_init : goodY m_X6_init 0 := ⟨w_91, ⟨nc_X6.1, nc_X6.2, pd_7, Nat.le_of_ble_eq_true rfl⟩, pn_X6 rfl⟩
def m_X6_askedOf : MI := (⟨RX6, "askedOf", "(I)I"⟩, prog_8_method_2_code, 2, some .int)
theorem gy_X6_askedOf : goodY m_X6_askedOf 1 := ⟨w_552, ⟨nc_X6.1, nc_X6.2, pd_6, Nat.le_of_ble_eq_true rfl⟩, pn_X6 rfl⟩
def m_X6_setAsked : MI := (⟨RX6, "setAsked", "(II)V"⟩, prog_8_method_3_code, 3, none)
theorem gy_X6_setAsked : goodY m_X6_setAsked 2 := ⟨w_556, ⟨nc_X6.1, nc_X6.2, pd_16, Nat.le_of_ble_eq_true rfl⟩, pn_X6 rfl⟩
def m_X6_draw : MI := (⟨RX6, "draw", "(I)I"⟩, prog_8_method_4_code, 2, some .int)
theorem gy_X6_draw : goodY m_X6_draw 1 := ⟨w_1093, ⟨nc_X6.1, nc_X6.2, pd_6, Nat.le_of_ble_eq_true rfl⟩, pn_X6 rfl⟩
def m_X6_become : MI := (⟨RX6, "become", "(LMoonOverTheHill$State;)V"⟩, prog_8_method_5_code, 2, none)
theorem gy_X6_become : goodY m_X6_become 1 := ⟨w_637, ⟨nc_X6.1, nc_X6.2, pd_23, Nat.le_of_ble_eq_true rfl⟩, pn_X6 rfl⟩
def m_J6_bitCount_0f7a4 : MI := (⟨RJ6, "bitCount", "(I)I"⟩, prog_12_method_49_code, 1, some .int)
theorem gy_J6_bitCount_0f7a4 : goodY m_J6_bitCount_0f7a4 1 := ⟨w_1073, by decide +kernel, plainFor_of_name (by decide +kernel)⟩
def m_J9_floorDiv_7cf53 : MI := (⟨RJ9, "floorDiv", "(II)I"⟩, prog_13_method_47_code, 3, some .int)
theorem gy_J9_floorDiv_7cf53 : goodY m_J9_floorDiv_7cf53 2 := ⟨w_928, by decide +kernel, jm_plain rfl (by decide +kernel)⟩
def m_J9_floorMod_7cf53 : MI := (⟨RJ9, "floorMod", "(II)I"⟩, prog_13_method_50_code, 3, some .int)
theorem gy_J9_floorMod_7cf53 : goodY m_J9_floorMod_7cf53 2 := ⟨w_425, by decide +kernel, jm_plain rfl (by decide +kernel)⟩
def m_J9_abs_0f7a4 : MI := (⟨RJ9, "abs", "(I)I"⟩, prog_13_method_59_code, 1, some .int)
theorem gy_J9_abs_0f7a4 : goodY m_J9_abs_0f7a4 1 := ⟨w_403, by decide +kernel, jm_plain rfl (by decide +kernel)⟩
def m_X5_take_same : MI := (⟨RX5, "take", "(LMoonOverTheHill$Shelf;III)V"⟩, prog_7_method_16_code, 5, none)
theorem gy_X5_take_same : goodY m_X5_take_same 4 := ⟨w_342, ⟨nc_X5.1, nc_X5.2, pd_20, Nat.le_of_ble_eq_true rfl⟩, pn_X5 rfl⟩
def m_X2_init : MI := (⟨RX2, "<init>", "(LMoonOverTheHill$State;)V"⟩, prog_4_method_1_code, 2, none)
theorem gy_X2_init : goodY m_X2_init 1 := ⟨w_182, ⟨nc_X2.1, nc_X2.2, pd_23, Nat.le_of_ble_eq_true rfl⟩, pn_X2 rfl⟩
def m_X2_lastOf : MI := (⟨RX2, "lastOf", "(II)I"⟩, prog_4_method_2_code, 2, some .int)
theorem gy_X2_lastOf : goodY m_X2_lastOf 2 := ⟨w_845, ⟨nc_X2.1, nc_X2.2, pd_10, Nat.le_of_ble_eq_true rfl⟩, pn_X2 rfl⟩
def m_X2_ageOf : MI := (⟨RX2, "ageOf", "(I)I"⟩, prog_4_method_3_code, 2, some .int)
theorem gy_X2_ageOf : goodY m_X2_ageOf 1 := ⟨w_400, ⟨nc_X2.1, nc_X2.2, pd_6, Nat.le_of_ble_eq_true rfl⟩, pn_X2 rfl⟩
def m_X2_litOf : MI := (⟨RX2, "litOf", "(I)I"⟩, prog_4_method_4_code, 3, some .int)
theorem gy_X2_litOf : goodY m_X2_litOf 1 := ⟨w_539, ⟨nc_X2.1, nc_X2.2, pd_6, Nat.le_of_ble_eq_true rfl⟩, pn_X2 rfl⟩
def m_X2_outOf : MI := (⟨RX2, "outOf", "(I)I"⟩, prog_4_method_5_code, 3, some .int)
theorem gy_X2_outOf : goodY m_X2_outOf 1 := ⟨w_419, ⟨nc_X2.1, nc_X2.2, pd_6, Nat.le_of_ble_eq_true rfl⟩, pn_X2 rfl⟩
def m_X2_slantOf : MI := (⟨RX2, "slantOf", "(I)I"⟩, prog_4_method_6_code, 4, some .int)
theorem gy_X2_slantOf : goodY m_X2_slantOf 1 := ⟨w_415, ⟨nc_X2.1, nc_X2.2, pd_6, Nat.le_of_ble_eq_true rfl⟩, pn_X2 rfl⟩
def m_X2_riseBy : MI := (⟨RX2, "riseBy", "(II)I"⟩, prog_4_method_7_code, 2, some .int)
theorem gy_X2_riseBy : goodY m_X2_riseBy 2 := ⟨w_422, ⟨nc_X2.1, nc_X2.2, pd_10, Nat.le_of_ble_eq_true rfl⟩, pn_X2 rfl⟩
def m_X2_wayBy : MI := (⟨RX2, "wayBy", "(I)I"⟩, prog_4_method_8_code, 1, some .int)
theorem gy_X2_wayBy : goodY m_X2_wayBy 1 := ⟨w_428, ⟨nc_X2.1, nc_X2.2, pd_6, Nat.le_of_ble_eq_true rfl⟩, pn_X2 rfl⟩
def m_X2_riseOf : MI := (⟨RX2, "riseOf", "(I)I"⟩, prog_4_method_9_code, 2, some .int)
theorem gy_X2_riseOf : goodY m_X2_riseOf 1 := ⟨w_791, ⟨nc_X2.1, nc_X2.2, pd_6, Nat.le_of_ble_eq_true rfl⟩, pn_X2 rfl⟩
def m_X2_wayOf : MI := (⟨RX2, "wayOf", "(I)I"⟩, prog_4_method_10_code, 2, some .int)
theorem gy_X2_wayOf : goodY m_X2_wayOf 1 := ⟨w_497, ⟨nc_X2.1, nc_X2.2, pd_6, Nat.le_of_ble_eq_true rfl⟩, pn_X2 rfl⟩
def m_X2_overOf : MI := (⟨RX2, "overOf", "(I)I"⟩, prog_4_method_11_code, 2, some .int)
theorem gy_X2_overOf : goodY m_X2_overOf 1 := ⟨w_796, ⟨nc_X2.1, nc_X2.2, pd_6, Nat.le_of_ble_eq_true rfl⟩, pn_X2 rfl⟩
def m_X2_upOf : MI := (⟨RX2, "upOf", "(I)I"⟩, prog_4_method_12_code, 3, some .int)
theorem gy_X2_upOf : goodY m_X2_upOf 1 := ⟨w_411, ⟨nc_X2.1, nc_X2.2, pd_6, Nat.le_of_ble_eq_true rfl⟩, pn_X2 rfl⟩
def m_X2_laterOf : MI := (⟨RX2, "laterOf", "(I)I"⟩, prog_4_method_13_code, 2, some .int)
theorem gy_X2_laterOf : goodY m_X2_laterOf 1 := ⟨w_407, ⟨nc_X2.1, nc_X2.2, pd_6, Nat.le_of_ble_eq_true rfl⟩, pn_X2 rfl⟩
def m_X2_degreeOf : MI := (⟨RX2, "degreeOf", "(I)I"⟩, prog_4_method_14_code, 3, some .int)
theorem gy_X2_degreeOf : goodY m_X2_degreeOf 1 := ⟨w_493, ⟨nc_X2.1, nc_X2.2, pd_6, Nat.le_of_ble_eq_true rfl⟩, pn_X2 rfl⟩
def m_X2_behindOf : MI := (⟨RX2, "behindOf", "(I)I"⟩, prog_4_method_15_code, 4, some .int)
theorem gy_X2_behindOf : goodY m_X2_behindOf 1 := ⟨w_501, ⟨nc_X2.1, nc_X2.2, pd_6, Nat.le_of_ble_eq_true rfl⟩, pn_X2 rfl⟩
def m_X2_shinesFrom : MI := (⟨RX2, "shinesFrom", "(III)I"⟩, prog_4_method_16_code, 6, some .int)
theorem gy_X2_shinesFrom : goodY m_X2_shinesFrom 3 := ⟨w_444, ⟨nc_X2.1, nc_X2.2, pd_24, Nat.le_of_ble_eq_true rfl⟩, pn_X2 rfl⟩
def m_X2_shinesOf : MI := (⟨RX2, "shinesOf", "(III)I"⟩, prog_4_method_17_code, 4, some .int)
theorem gy_X2_shinesOf : goodY m_X2_shinesOf 3 := ⟨w_441, ⟨nc_X2.1, nc_X2.2, pd_24, Nat.le_of_ble_eq_true rfl⟩, pn_X2 rfl⟩
def m_X2_lightOf : MI := (⟨RX2, "lightOf", "(III)I"⟩, prog_4_method_18_code, 4, some .int)
theorem gy_X2_lightOf : goodY m_X2_lightOf 3 := ⟨w_834, ⟨nc_X2.1, nc_X2.2, pd_24, Nat.le_of_ble_eq_true rfl⟩, pn_X2 rfl⟩
def m_X2_isFull : MI := (⟨RX2, "isFull", "(I)Z"⟩, prog_4_method_19_code, 2, some .boolean)
theorem gy_X2_isFull : goodY m_X2_isFull 1 := ⟨w_488, ⟨nc_X2.1, nc_X2.2, pd_1, Nat.le_of_ble_eq_true rfl⟩, pn_X2 rfl⟩
def m_X2_saysOf : MI := (⟨RX2, "saysOf", "(II)I"⟩, prog_4_method_20_code, 3, some .int)
theorem gy_X2_saysOf : goodY m_X2_saysOf 2 := ⟨w_396, ⟨nc_X2.1, nc_X2.2, pd_10, Nat.le_of_ble_eq_true rfl⟩, pn_X2 rfl⟩
def m_X2_isAtNode : MI := (⟨RX2, "isAtNode", "(I)Z"⟩, prog_4_method_26_code, 3, some .boolean)
theorem gy_X2_isAtNode : goodY m_X2_isAtNode 1 := ⟨w_522, ⟨nc_X2.1, nc_X2.2, pd_1, Nat.le_of_ble_eq_true rfl⟩, pn_X2 rfl⟩
def m_X2_minutesUp : MI := (⟨RX2, "minutesUp", "(II)I"⟩, prog_4_method_27_code, 3, some .int)
theorem gy_X2_minutesUp : goodY m_X2_minutesUp 2 := ⟨w_535, ⟨nc_X2.1, nc_X2.2, pd_10, Nat.le_of_ble_eq_true rfl⟩, pn_X2 rfl⟩
def m_X2_isAsPictured : MI := (⟨RX2, "isAsPictured", "(LMoonOverTheHill$Shelf;I)Z"⟩, prog_4_method_30_code, 6, some .boolean)
theorem gy_X2_isAsPictured : goodY m_X2_isAsPictured 2 := ⟨w_531, ⟨nc_X2.1, nc_X2.2, pd_25, Nat.le_of_ble_eq_true rfl⟩, pn_X2 rfl⟩
def m_X2_fits : MI := (⟨RX2, "fits", "(LMoonOverTheHill$Question;I)Z"⟩, prog_4_method_21_code, 3, some .boolean)
theorem gy_X2_fits : goodY m_X2_fits 2 := ⟨w_484, ⟨nc_X2.1, nc_X2.2, pd_26, Nat.le_of_ble_eq_true rfl⟩, pn_X2 rfl⟩
def m_X2_pick : MI := (⟨RX2, "pick", "(IIILMoonOverTheHill$Question;)I"⟩, prog_4_method_22_code, 8, some .int)
theorem gy_X2_pick : goodY m_X2_pick 4 := ⟨w_842, ⟨nc_X2.1, nc_X2.2, pd_27, Nat.le_of_ble_eq_true rfl⟩, pn_X2 rfl⟩
def m_X2_meritOf : MI := (⟨RX2, "meritOf", "(II)I"⟩, prog_4_method_24_code, 3, some .int)
theorem gy_X2_meritOf : goodY m_X2_meritOf 2 := ⟨w_876, ⟨nc_X2.1, nc_X2.2, pd_10, Nat.le_of_ble_eq_true rfl⟩, pn_X2 rfl⟩
def m_X2_bestOf : MI := (⟨RX2, "bestOf", "(III)I"⟩, prog_4_method_23_code, 9, some .int)
theorem gy_X2_bestOf : goodY m_X2_bestOf 3 := ⟨w_872, ⟨nc_X2.1, nc_X2.2, pd_24, Nat.le_of_ble_eq_true rfl⟩, pn_X2 rfl⟩
def m_X2_newDaysTill : MI := (⟨RX2, "newDaysTill", "(I)I"⟩, prog_4_method_25_code, 3, some .int)
theorem gy_X2_newDaysTill : goodY m_X2_newDaysTill 1 := ⟨w_925, ⟨nc_X2.1, nc_X2.2, pd_6, Nat.le_of_ble_eq_true rfl⟩, pn_X2 rfl⟩
def m_X2_heightAt : MI := (⟨RX2, "heightAt", "(II)I"⟩, prog_4_method_28_code, 4, some .int)
theorem gy_X2_heightAt : goodY m_X2_heightAt 2 := ⟨w_940, ⟨nc_X2.1, nc_X2.2, pd_10, Nat.le_of_ble_eq_true rfl⟩, pn_X2 rfl⟩
def m_X2_degreeAt : MI := (⟨RX2, "degreeAt", "(II)I"⟩, prog_4_method_29_code, 5, some .int)
theorem gy_X2_degreeAt : goodY m_X2_degreeAt 2 := ⟨w_945, ⟨nc_X2.1, nc_X2.2, pd_10, Nat.le_of_ble_eq_true rfl⟩, pn_X2 rfl⟩
def m_X2_couldBegin : MI := (⟨RX2, "couldBegin", "(J)Z"⟩, prog_4_method_31_code, 3, some .boolean)
theorem gy_X2_couldBegin : goodY m_X2_couldBegin 1 := ⟨w_970, ⟨nc_X2.1, nc_X2.2, pd_28, Nat.le_of_ble_eq_true rfl⟩, pn_X2 rfl⟩
def m_X2_highWaterOf : MI := (⟨RX2, "highWaterOf", "(I)I"⟩, prog_4_method_32_code, 2, some .int)
theorem gy_X2_highWaterOf : goodY m_X2_highWaterOf 1 := ⟨w_991, ⟨nc_X2.1, nc_X2.2, pd_6, Nat.le_of_ble_eq_true rfl⟩, pn_X2 rfl⟩
def m_X2_tideAt : MI := (⟨RX2, "tideAt", "(II)I"⟩, prog_4_method_33_code, 5, some .int)
theorem gy_X2_tideAt : goodY m_X2_tideAt 2 := ⟨w_987, ⟨nc_X2.1, nc_X2.2, pd_10, Nat.le_of_ble_eq_true rfl⟩, pn_X2 rfl⟩
def m_X3_init : MI := (⟨RX3, "<init>", "()V"⟩, prog_5_method_1_code, 1, none)
theorem gy_X3_init : goodY m_X3_init 0 := ⟨w_217, ⟨nc_X3.1, nc_X3.2, pd_7, Nat.le_of_ble_eq_true rfl⟩, pn_X3 rfl⟩
def m_X3_gather : MI := (⟨RX3, "gather", "(LMoonOverTheHill$Moon;II)V"⟩, prog_5_method_2_code, 7, none)
theorem gy_X3_gather : goodY m_X3_gather 3 := ⟨w_1033, ⟨nc_X3.1, nc_X3.2, pd_29, Nat.le_of_ble_eq_true rfl⟩, pn_X3 rfl⟩
def m_X3_near : MI := (⟨RX3, "near", "(II)I"⟩, prog_5_method_3_code, 5, some .int)
theorem gy_X3_near : goodY m_X3_near 2 := ⟨w_1044, ⟨nc_X3.1, nc_X3.2, pd_10, Nat.le_of_ble_eq_true rfl⟩, pn_X3 rfl⟩
def m_X3_degreesThatHit : MI := (⟨RX3, "degreesThatHit", "(I)I"⟩, prog_5_method_4_code, 4, some .int)
theorem gy_X3_degreesThatHit : goodY m_X3_degreesThatHit 1 := ⟨w_1053, ⟨nc_X3.1, nc_X3.2, pd_6, Nat.le_of_ble_eq_true rfl⟩, pn_X3 rfl⟩
def m_X3_fullest : MI := (⟨RX3, "fullest", "(I)I"⟩, prog_5_method_5_code, 6, some .int)
theorem gy_X3_fullest : goodY m_X3_fullest 1 := ⟨w_1066, ⟨nc_X3.1, nc_X3.2, pd_6, Nat.le_of_ble_eq_true rfl⟩, pn_X3 rfl⟩
def m_X9_init : MI := (⟨RX9, "<init>", "()V"⟩, prog_11_method_1_code, 1, none)
theorem gy_X9_init : goodY m_X9_init 0 := ⟨w_1127, ⟨nc_X9.1, nc_X9.2, pd_7, Nat.le_of_ble_eq_true rfl⟩, pn_X9 rfl⟩
def m_X9_refuse : MI := (⟨RX9, "refuse", "(I)I"⟩, prog_11_method_2_code, 2, some .int)
theorem gy_X9_refuse : goodY m_X9_refuse 1 := ⟨w_1234, ⟨nc_X9.1, nc_X9.2, pd_6, Nat.le_of_ble_eq_true rfl⟩, pn_X9 rfl⟩
def m_X9_in : MI := (⟨RX9, "in", "(JJJ)Z"⟩, prog_11_method_3_code, 6, some .boolean)
theorem gy_X9_in : goodY m_X9_in 3 := ⟨w_1228, ⟨nc_X9.1, nc_X9.2, pd_22, Nat.le_of_ble_eq_true rfl⟩, pn_X9 rfl⟩
def m_X9_isDay : MI := (⟨RX9, "isDay", "(J)Z"⟩, prog_11_method_4_code, 2, some .boolean)
theorem gy_X9_isDay : goodY m_X9_isDay 1 := ⟨w_1265, ⟨nc_X9.1, nc_X9.2, pd_28, Nat.le_of_ble_eq_true rfl⟩, pn_X9 rfl⟩
def m_X9_areDays : MI := (⟨RX9, "areDays", "(II)Z"⟩, prog_11_method_5_code, 2, some .boolean)
theorem gy_X9_areDays : goodY m_X9_areDays 2 := ⟨w_1508, ⟨nc_X9.1, nc_X9.2, pd_2, Nat.le_of_ble_eq_true rfl⟩, pn_X9 rfl⟩
def m_X9_lastOf : MI := (⟨RX9, "lastOf", "(II)I"⟩, prog_11_method_6_code, 2, some .int)
theorem gy_X9_lastOf : goodY m_X9_lastOf 2 := ⟨w_1501, ⟨nc_X9.1, nc_X9.2, pd_10, Nat.le_of_ble_eq_true rfl⟩, pn_X9 rfl⟩
def m_X9_row : MI := (⟨RX9, "row", "(III)I"⟩, prog_11_method_7_code, 5, some .int)
theorem gy_X9_row : goodY m_X9_row 3 := ⟨w_1224, ⟨nc_X9.1, nc_X9.2, pd_24, Nat.le_of_ble_eq_true rfl⟩, pn_X9 rfl⟩
def m_X9_fit : MI := (⟨RX9, "fit", "(IJ)J"⟩, prog_11_method_8_code, 3, some .long)
theorem gy_X9_fit : goodY m_X9_fit 2 := ⟨w_1245, ⟨nc_X9.1, nc_X9.2, pd_30, Nat.le_of_ble_eq_true rfl⟩, pn_X9 rfl⟩
def m_X9_noRow : MI := (⟨RX9, "noRow", "(I)I"⟩, prog_11_method_9_code, 2, some .int)
theorem gy_X9_noRow : goodY m_X9_noRow 1 := ⟨w_1242, ⟨nc_X9.1, nc_X9.2, pd_6, Nat.le_of_ble_eq_true rfl⟩, pn_X9 rfl⟩
def m_X9_set : MI := (⟨RX9, "set", "(IIJ)I"⟩, prog_11_method_10_code, 6, some .int)
theorem gy_X9_set : goodY m_X9_set 3 := ⟨w_1238, ⟨nc_X9.1, nc_X9.2, pd_31, Nat.le_of_ble_eq_true rfl⟩, pn_X9 rfl⟩
def m_X9_copy : MI := (⟨RX9, "copy", "(IIIII)I"⟩, prog_11_method_11_code, 7, some .int)
theorem gy_X9_copy : goodY m_X9_copy 5 := ⟨w_1249, ⟨nc_X9.1, nc_X9.2, pd_32, Nat.le_of_ble_eq_true rfl⟩, pn_X9 rfl⟩
def m_X9_element : MI := (⟨RX9, "element", "(II)J"⟩, prog_11_method_12_code, 3, some .long)
theorem gy_X9_element : goodY m_X9_element 2 := ⟨w_1253, ⟨nc_X9.1, nc_X9.2, pd_33, Nat.le_of_ble_eq_true rfl⟩, pn_X9 rfl⟩
def m_X9_holds : MI := (⟨RX9, "holds", "(I)I"⟩, prog_11_method_13_code, 2, some .int)
theorem gy_X9_holds : goodY m_X9_holds 1 := ⟨w_1257, ⟨nc_X9.1, nc_X9.2, pd_6, Nat.le_of_ble_eq_true rfl⟩, pn_X9 rfl⟩
def m_X9_evening : MI := (⟨RX9, "evening", "(III)I"⟩, prog_11_method_14_code, 4, some .int)
theorem gy_X9_evening : goodY m_X9_evening 3 := ⟨w_1261, ⟨nc_X9.1, nc_X9.2, pd_24, Nat.le_of_ble_eq_true rfl⟩, pn_X9 rfl⟩
def m_X9_isUnder : MI := (⟨RX9, "isUnder", "(II)Z"⟩, prog_11_method_15_code, 2, some .boolean)
theorem gy_X9_isUnder : goodY m_X9_isUnder 2 := ⟨w_1273, ⟨nc_X9.1, nc_X9.2, pd_2, Nat.le_of_ble_eq_true rfl⟩, pn_X9 rfl⟩
def m_X9_age : MI := (⟨RX9, "age", "(I)I"⟩, prog_11_method_42_code, 2, some .int)
theorem gy_X9_age : goodY m_X9_age 1 := ⟨w_1277, ⟨nc_X9.1, nc_X9.2, pd_6, Nat.le_of_ble_eq_true rfl⟩, pn_X9 rfl⟩
def m_X9_out : MI := (⟨RX9, "out", "(I)I"⟩, prog_11_method_44_code, 3, some .int)
theorem gy_X9_out : goodY m_X9_out 1 := ⟨w_1297, ⟨nc_X9.1, nc_X9.2, pd_6, Nat.le_of_ble_eq_true rfl⟩, pn_X9 rfl⟩
def m_X9_slantOf : MI := (⟨RX9, "slantOf", "(I)I"⟩, prog_11_method_45_code, 4, some .int)
theorem gy_X9_slantOf : goodY m_X9_slantOf 1 := ⟨w_1293, ⟨nc_X9.1, nc_X9.2, pd_6, Nat.le_of_ble_eq_true rfl⟩, pn_X9 rfl⟩
def m_X9_mod : MI := (⟨RX9, "mod", "(II)I"⟩, prog_11_method_41_code, 3, some .int)
theorem gy_X9_mod : goodY m_X9_mod 2 := ⟨w_1300, ⟨nc_X9.1, nc_X9.2, pd_10, Nat.le_of_ble_eq_true rfl⟩, pn_X9 rfl⟩
def m_X9_rise : MI := (⟨RX9, "rise", "(I)I"⟩, prog_11_method_46_code, 2, some .int)
theorem gy_X9_rise : goodY m_X9_rise 1 := ⟨w_1289, ⟨nc_X9.1, nc_X9.2, pd_6, Nat.le_of_ble_eq_true rfl⟩, pn_X9 rfl⟩
def m_X9_way : MI := (⟨RX9, "way", "(I)I"⟩, prog_11_method_47_code, 2, some .int)
theorem gy_X9_way : goodY m_X9_way 1 := ⟨w_1308, ⟨nc_X9.1, nc_X9.2, pd_6, Nat.le_of_ble_eq_true rfl⟩, pn_X9 rfl⟩
def m_X9_lineAt : MI := (⟨RX9, "lineAt", "(I)I"⟩, prog_11_method_48_code, 5, some .int)
theorem gy_X9_lineAt : goodY m_X9_lineAt 1 := ⟨w_1312, ⟨nc_X9.1, nc_X9.2, pd_6, Nat.le_of_ble_eq_true rfl⟩, pn_X9 rfl⟩
def m_X9_over : MI := (⟨RX9, "over", "(I)I"⟩, prog_11_method_50_code, 4, some .int)
theorem gy_X9_over : goodY m_X9_over 1 := ⟨w_1304, ⟨nc_X9.1, nc_X9.2, pd_6, Nat.le_of_ble_eq_true rfl⟩, pn_X9 rfl⟩
def m_X9_up : MI := (⟨RX9, "up", "(I)I"⟩, prog_11_method_51_code, 2, some .int)
theorem gy_X9_up : goodY m_X9_up 1 := ⟨w_1285, ⟨nc_X9.1, nc_X9.2, pd_6, Nat.le_of_ble_eq_true rfl⟩, pn_X9 rfl⟩
def m_X9_later : MI := (⟨RX9, "later", "(I)I"⟩, prog_11_method_53_code, 2, some .int)
theorem gy_X9_later : goodY m_X9_later 1 := ⟨w_1281, ⟨nc_X9.1, nc_X9.2, pd_6, Nat.le_of_ble_eq_true rfl⟩, pn_X9 rfl⟩
def m_X9_shinesIn : MI := (⟨RX9, "shinesIn", "(III)I"⟩, prog_11_method_60_code, 7, some .int)
theorem gy_X9_shinesIn : goodY m_X9_shinesIn 3 := ⟨w_1316, ⟨nc_X9.1, nc_X9.2, pd_24, Nat.le_of_ble_eq_true rfl⟩, pn_X9 rfl⟩
def m_X9_says : MI := (⟨RX9, "says", "(II)I"⟩, prog_11_method_16_code, 5, some .int)
theorem gy_X9_says : goodY m_X9_says 2 := ⟨w_1270, ⟨nc_X9.1, nc_X9.2, pd_10, Nat.le_of_ble_eq_true rfl⟩, pn_X9 rfl⟩
def m_X9_isOf : MI := (⟨RX9, "isOf", "(II)Z"⟩, prog_11_method_58_code, 3, some .boolean)
theorem gy_X9_isOf : goodY m_X9_isOf 2 := ⟨w_1324, ⟨nc_X9.1, nc_X9.2, pd_2, Nat.le_of_ble_eq_true rfl⟩, pn_X9 rfl⟩
def m_X9_isSo : MI := (⟨RX9, "isSo", "(I)I"⟩, prog_11_method_17_code, 2, some .int)
theorem gy_X9_isSo : goodY m_X9_isSo 1 := ⟨w_1320, ⟨nc_X9.1, nc_X9.2, pd_6, Nat.le_of_ble_eq_true rfl⟩, pn_X9 rfl⟩
def m_X9_ask : MI := (⟨RX9, "ask", "(II)I"⟩, prog_11_method_18_code, 4, some .int)
theorem gy_X9_ask : goodY m_X9_ask 2 := ⟨w_1330, ⟨nc_X9.1, nc_X9.2, pd_10, Nat.le_of_ble_eq_true rfl⟩, pn_X9 rfl⟩
def m_X9_addNotch : MI := (⟨RX9, "addNotch", "(III)V"⟩, prog_11_method_19_code, 4, none)
theorem gy_X9_addNotch : goodY m_X9_addNotch 3 := ⟨w_1342, ⟨nc_X9.1, nc_X9.2, pd_9, Nat.le_of_ble_eq_true rfl⟩, pn_X9 rfl⟩
def m_X9_notch : MI := (⟨RX9, "notch", "(III)I"⟩, prog_11_method_20_code, 4, some .int)
theorem gy_X9_notch : goodY m_X9_notch 3 := ⟨w_1336, ⟨nc_X9.1, nc_X9.2, pd_24, Nat.le_of_ble_eq_true rfl⟩, pn_X9 rfl⟩
def m_X9_stone : MI := (⟨RX9, "stone", "(I)I"⟩, prog_11_method_21_code, 2, some .int)
theorem gy_X9_stone : goodY m_X9_stone 1 := ⟨w_1346, ⟨nc_X9.1, nc_X9.2, pd_6, Nat.le_of_ble_eq_true rfl⟩, pn_X9 rfl⟩
def m_X9_isCloud : MI := (⟨RX9, "isCloud", "(I)Z"⟩, prog_11_method_22_code, 3, some .boolean)
theorem gy_X9_isCloud : goodY m_X9_isCloud 1 := ⟨w_1354, ⟨nc_X9.1, nc_X9.2, pd_1, Nat.le_of_ble_eq_true rfl⟩, pn_X9 rfl⟩
def m_X9_cloud : MI := (⟨RX9, "cloud", "(I)I"⟩, prog_11_method_23_code, 2, some .int)
theorem gy_X9_cloud : goodY m_X9_cloud 1 := ⟨w_1350, ⟨nc_X9.1, nc_X9.2, pd_6, Nat.le_of_ble_eq_true rfl⟩, pn_X9 rfl⟩
def m_X9_clear : MI := (⟨RX9, "clear", "(I)I"⟩, prog_11_method_24_code, 3, some .int)
theorem gy_X9_clear : goodY m_X9_clear 1 := ⟨w_1358, ⟨nc_X9.1, nc_X9.2, pd_6, Nat.le_of_ble_eq_true rfl⟩, pn_X9 rfl⟩
def m_X9_feed : MI := (⟨RX9, "feed", "(I)I"⟩, prog_11_method_25_code, 2, some .int)
theorem gy_X9_feed : goodY m_X9_feed 1 := ⟨w_1363, ⟨nc_X9.1, nc_X9.2, pd_6, Nat.le_of_ble_eq_true rfl⟩, pn_X9 rfl⟩
def m_X9_wipe : MI := (⟨RX9, "wipe", "()I"⟩, prog_11_method_26_code, 2, some .int)
theorem gy_X9_wipe : goodY m_X9_wipe 0 := ⟨w_1368, ⟨nc_X9.1, nc_X9.2, pd_4, Nat.le_of_ble_eq_true rfl⟩, pn_X9 rfl⟩
def m_X9_isLetter : MI := (⟨RX9, "isLetter", "(I)Z"⟩, prog_11_method_27_code, 1, some .boolean)
theorem gy_X9_isLetter : goodY m_X9_isLetter 1 := ⟨w_1392, ⟨nc_X9.1, nc_X9.2, pd_1, Nat.le_of_ble_eq_true rfl⟩, pn_X9 rfl⟩
def m_X9_isDigit : MI := (⟨RX9, "isDigit", "(I)Z"⟩, prog_11_method_28_code, 1, some .boolean)
theorem gy_X9_isDigit : goodY m_X9_isDigit 1 := ⟨w_1395, ⟨nc_X9.1, nc_X9.2, pd_1, Nat.le_of_ble_eq_true rfl⟩, pn_X9 rfl⟩
def m_X9_look : MI := (⟨RX9, "look", "()V"⟩, prog_11_method_29_code, 1, none)
theorem gy_X9_look : goodY m_X9_look 0 := ⟨w_1389, ⟨nc_X9.1, nc_X9.2, pd_7, Nat.le_of_ble_eq_true rfl⟩, pn_X9 rfl⟩
def m_X9_wrong : MI := (⟨RX9, "wrong", "()Z"⟩, prog_11_method_30_code, 1, some .boolean)
theorem gy_X9_wrong : goodY m_X9_wrong 0 := ⟨w_1423, ⟨nc_X9.1, nc_X9.2, pd_5, Nat.le_of_ble_eq_true rfl⟩, pn_X9 rfl⟩
def m_J0_coder_7d493 : MI := (⟨RJ0, "coder", "()B"⟩, prog_14_method_152_code, 1, some .byte)
theorem gy_J0_coder_7d493 : goodY m_J0_coder_7d493 0 := ⟨w_681, by decide +kernel, plainFor_of_name (by decide +kernel)⟩
def m_J0_length_8abf5 : MI := (⟨RJ0, "length", "()I"⟩, prog_14_method_54_code, 1, some .int)
theorem gy_J0_length_8abf5 : goodY m_J0_length_8abf5 0 := ⟨w_677, by decide +kernel, plainFor_of_name (by decide +kernel)⟩
def m_J0_isLatin1_aae02 : MI := (⟨RJ0, "isLatin1", "()Z"⟩, prog_14_method_154_code, 1, some .boolean)
theorem gy_J0_isLatin1_aae02 : goodY m_J0_isLatin1_aae02 0 := ⟨w_691, by decide +kernel, plainFor_of_name (by decide +kernel)⟩
def m_J3_checkIndex_8e157 : MI := (⟨RJ3, "checkIndex", "(IILjava/util/function/BiFunction;)I"⟩, prog_19_method_11_code, 3, some .int)
theorem gy_J3_checkIndex_8e157 : goodY m_J3_checkIndex_8e157 3 := ⟨w_702, by decide +kernel, plainFor_of_name (by decide +kernel)⟩
def m_J0_checkIndex_df160 : MI := (⟨RJ0, "checkIndex", "(II)V"⟩, prog_14_method_155_code, 2, none)
theorem gy_J0_checkIndex_df160 : goodY m_J0_checkIndex_df160 2 := ⟨w_697, by decide +kernel, plainFor_of_name (by decide +kernel)⟩
def m_J1_charAt_3b067 : MI := (⟨RJ1, "charAt", "([BI)C"⟩, prog_15_method_2_code, 2, some .char)
theorem gy_J1_charAt_3b067 : goodY m_J1_charAt_3b067 2 := ⟨w_694, by decide +kernel, plainFor_of_name (by decide +kernel)⟩
def m_J2_length_9d52b : MI := (⟨RJ2, "length", "([B)I"⟩, prog_16_method_6_code, 1, some .int)
theorem gy_J2_length_9d52b : goodY m_J2_length_9d52b 1 := ⟨w_711, by decide +kernel, plainFor_of_name (by decide +kernel)⟩
def m_J2_checkIndex_2214a : MI := (⟨RJ2, "checkIndex", "(I[B)V"⟩, prog_16_method_91_code, 2, none)
theorem gy_J2_checkIndex_2214a : goodY m_J2_checkIndex_2214a 2 := ⟨w_708, by decide +kernel, plainFor_of_name (by decide +kernel)⟩
def m_J2_getChar_3b067 : MI := (⟨RJ2, "getChar", "([BI)C"⟩, prog_16_method_5_code, 2, some .char)
theorem gy_J2_getChar_3b067 : goodY m_J2_getChar_3b067 2 := ⟨w_715, by decide +kernel, plainFor_of_name (by decide +kernel)⟩
def m_J2_charAt_3b067 : MI := (⟨RJ2, "charAt", "([BI)C"⟩, prog_16_method_83_code, 2, some .char)
theorem gy_J2_charAt_3b067 : goodY m_J2_charAt_3b067 2 := ⟨w_705, by decide +kernel, plainFor_of_name (by decide +kernel)⟩
def m_J0_charAt_5068e : MI := (⟨RJ0, "charAt", "(I)C"⟩, prog_14_method_56_code, 2, some .char)
theorem gy_J0_charAt_5068e : goodY m_J0_charAt_5068e 1 := ⟨w_687, by decide +kernel, plainFor_of_name (by decide +kernel)⟩
def m_X9_isWord : MI := (⟨RX9, "isWord", "(Ljava/lang/String;)Z"⟩, prog_11_method_31_code, 3, some .boolean)
theorem gy_X9_isWord : goodY m_X9_isWord 1 := ⟨w_1405, ⟨nc_X9.1, nc_X9.2, pd_34, Nat.le_of_ble_eq_true rfl⟩, pn_X9 rfl⟩
def m_X9_number : MI := (⟨RX9, "number", "(III)Z"⟩, prog_11_method_32_code, 4, some .boolean)
theorem gy_X9_number : goodY m_X9_number 3 := ⟨w_1419, ⟨nc_X9.1, nc_X9.2, pd_0, Nat.le_of_ble_eq_true rfl⟩, pn_X9 rfl⟩
def m_X9_tells : MI := (⟨RX9, "tells", "(I)Z"⟩, prog_11_method_33_code, 2, some .boolean)
theorem gy_X9_tells : goodY m_X9_tells 1 := ⟨w_1415, ⟨nc_X9.1, nc_X9.2, pd_1, Nat.le_of_ble_eq_true rfl⟩, pn_X9 rfl⟩
def m_X9_askedTold : MI := (⟨RX9, "askedTold", "(I)Z"⟩, prog_11_method_34_code, 3, some .boolean)
theorem gy_X9_askedTold : goodY m_X9_askedTold 1 := ⟨w_1411, ⟨nc_X9.1, nc_X9.2, pd_1, Nat.le_of_ble_eq_true rfl⟩, pn_X9 rfl⟩
def m_X9_cloudTold : MI := (⟨RX9, "cloudTold", "()Z"⟩, prog_11_method_35_code, 1, some .boolean)
theorem gy_X9_cloudTold : goodY m_X9_cloudTold 0 := ⟨w_1432, ⟨nc_X9.1, nc_X9.2, pd_5, Nat.le_of_ble_eq_true rfl⟩, pn_X9 rfl⟩
def m_X9_statement : MI := (⟨RX9, "statement", "()Z"⟩, prog_11_method_36_code, 2, some .boolean)
theorem gy_X9_statement : goodY m_X9_statement 0 := ⟨w_1400, ⟨nc_X9.1, nc_X9.2, pd_5, Nat.le_of_ble_eq_true rfl⟩, pn_X9 rfl⟩
def m_X9_readAll : MI := (⟨RX9, "readAll", "()Z"⟩, prog_11_method_37_code, 1, some .boolean)
theorem gy_X9_readAll : goodY m_X9_readAll 0 := ⟨w_1385, ⟨nc_X9.1, nc_X9.2, pd_5, Nat.le_of_ble_eq_true rfl⟩, pn_X9 rfl⟩
def m_X9_copyAll : MI := (⟨RX9, "copyAll", "([I[I)V"⟩, prog_11_method_108_code, 3, none)
theorem gy_X9_copyAll : goodY m_X9_copyAll 2 := ⟨w_1381, ⟨nc_X9.1, nc_X9.2, pd_35, Nat.le_of_ble_eq_true rfl⟩, pn_X9 rfl⟩
def m_X9_takeFrom : MI := (⟨RX9, "takeFrom", "(LMoonOverTheHillModel;)V"⟩, prog_11_method_109_code, 3, none)
theorem gy_X9_takeFrom : goodY m_X9_takeFrom 1 := ⟨w_1378, ⟨nc_X9.1, nc_X9.2, pd_36, Nat.le_of_ble_eq_true rfl⟩, pn_X9 rfl⟩
def m_X9_sky : MI := (⟨RX9, "sky", "()I"⟩, prog_11_method_38_code, 2, some .int)
theorem gy_X9_sky : goodY m_X9_sky 0 := ⟨w_1372, ⟨nc_X9.1, nc_X9.2, pd_4, Nat.le_of_ble_eq_true rfl⟩, pn_X9 rfl⟩
def m_X9_notchOf : MI := (⟨RX9, "notchOf", "(II)I"⟩, prog_11_method_39_code, 3, some .int)
theorem gy_X9_notchOf : goodY m_X9_notchOf 2 := ⟨w_1436, ⟨nc_X9.1, nc_X9.2, pd_10, Nat.le_of_ble_eq_true rfl⟩, pn_X9 rfl⟩
def m_X9_stoneOf : MI := (⟨RX9, "stoneOf", "(I)I"⟩, prog_11_method_40_code, 2, some .int)
theorem gy_X9_stoneOf : goodY m_X9_stoneOf 1 := ⟨w_1440, ⟨nc_X9.1, nc_X9.2, pd_6, Nat.le_of_ble_eq_true rfl⟩, pn_X9 rfl⟩
def m_X9_lit : MI := (⟨RX9, "lit", "(I)I"⟩, prog_11_method_43_code, 3, some .int)
theorem gy_X9_lit : goodY m_X9_lit 1 := ⟨w_1454, ⟨nc_X9.1, nc_X9.2, pd_6, Nat.le_of_ble_eq_true rfl⟩, pn_X9 rfl⟩
def m_X9_line : MI := (⟨RX9, "line", "(I)I"⟩, prog_11_method_49_code, 2, some .int)
theorem gy_X9_line : goodY m_X9_line 1 := ⟨w_1444, ⟨nc_X9.1, nc_X9.2, pd_6, Nat.le_of_ble_eq_true rfl⟩, pn_X9 rfl⟩
def m_X9_degreeUp : MI := (⟨RX9, "degreeUp", "(I)I"⟩, prog_11_method_52_code, 2, some .int)
theorem gy_X9_degreeUp : goodY m_X9_degreeUp 1 := ⟨w_1458, ⟨nc_X9.1, nc_X9.2, pd_6, Nat.le_of_ble_eq_true rfl⟩, pn_X9 rfl⟩
def m_X9_moon : MI := (⟨RX9, "moon", "(II)I"⟩, prog_11_method_54_code, 3, some .int)
theorem gy_X9_moon : goodY m_X9_moon 2 := ⟨w_1449, ⟨nc_X9.1, nc_X9.2, pd_10, Nat.le_of_ble_eq_true rfl⟩, pn_X9 rfl⟩
def m_X9_slant : MI := (⟨RX9, "slant", "(I)I"⟩, prog_11_method_55_code, 2, some .int)
theorem gy_X9_slant : goodY m_X9_slant 1 := ⟨w_1462, ⟨nc_X9.1, nc_X9.2, pd_6, Nat.le_of_ble_eq_true rfl⟩, pn_X9 rfl⟩
def m_X9_behindOf : MI := (⟨RX9, "behindOf", "(I)I"⟩, prog_11_method_56_code, 6, some .int)
theorem gy_X9_behindOf : goodY m_X9_behindOf 1 := ⟨w_1471, ⟨nc_X9.1, nc_X9.2, pd_6, Nat.le_of_ble_eq_true rfl⟩, pn_X9 rfl⟩
def m_X9_behind : MI := (⟨RX9, "behind", "(I)I"⟩, prog_11_method_57_code, 2, some .int)
theorem gy_X9_behind : goodY m_X9_behind 1 := ⟨w_1467, ⟨nc_X9.1, nc_X9.2, pd_6, Nat.le_of_ble_eq_true rfl⟩, pn_X9 rfl⟩
def m_X9_is : MI := (⟨RX9, "is", "(II)I"⟩, prog_11_method_59_code, 3, some .int)
theorem gy_X9_is : goodY m_X9_is 2 := ⟨w_1475, ⟨nc_X9.1, nc_X9.2, pd_10, Nat.le_of_ble_eq_true rfl⟩, pn_X9 rfl⟩
def m_X9_areMinutes : MI := (⟨RX9, "areMinutes", "(II)Z"⟩, prog_11_method_61_code, 2, some .boolean)
theorem gy_X9_areMinutes : goodY m_X9_areMinutes 2 := ⟨w_1482, ⟨nc_X9.1, nc_X9.2, pd_2, Nat.le_of_ble_eq_true rfl⟩, pn_X9 rfl⟩
def m_X9_shines : MI := (⟨RX9, "shines", "(III)I"⟩, prog_11_method_62_code, 4, some .int)
theorem gy_X9_shines : goodY m_X9_shines 3 := ⟨w_1479, ⟨nc_X9.1, nc_X9.2, pd_24, Nat.le_of_ble_eq_true rfl⟩, pn_X9 rfl⟩
def m_X9_lightIn : MI := (⟨RX9, "lightIn", "(III)I"⟩, prog_11_method_63_code, 4, some .int)
theorem gy_X9_lightIn : goodY m_X9_lightIn 3 := ⟨w_1490, ⟨nc_X9.1, nc_X9.2, pd_24, Nat.le_of_ble_eq_true rfl⟩, pn_X9 rfl⟩
def m_X9_light : MI := (⟨RX9, "light", "(III)I"⟩, prog_11_method_64_code, 4, some .int)
theorem gy_X9_light : goodY m_X9_light 3 := ⟨w_1486, ⟨nc_X9.1, nc_X9.2, pd_24, Nat.le_of_ble_eq_true rfl⟩, pn_X9 rfl⟩
def m_X9_grows : MI := (⟨RX9, "grows", "(I)I"⟩, prog_11_method_65_code, 2, some .int)
theorem gy_X9_grows : goodY m_X9_grows 1 := ⟨w_1494, ⟨nc_X9.1, nc_X9.2, pd_6, Nat.le_of_ble_eq_true rfl⟩, pn_X9 rfl⟩
def m_X9_lights : MI := (⟨RX9, "lights", "(IIII)I"⟩, prog_11_method_66_code, 7, some .int)
theorem gy_X9_lights : goodY m_X9_lights 4 := ⟨w_1498, ⟨nc_X9.1, nc_X9.2, pd_37, Nat.le_of_ble_eq_true rfl⟩, pn_X9 rfl⟩
def m_X9_soonest : MI := (⟨RX9, "soonest", "(II)I"⟩, prog_11_method_67_code, 7, some .int)
theorem gy_X9_soonest : goodY m_X9_soonest 2 := ⟨w_1505, ⟨nc_X9.1, nc_X9.2, pd_10, Nat.le_of_ble_eq_true rfl⟩, pn_X9 rfl⟩
def m_X9_next : MI := (⟨RX9, "next", "(II)I"⟩, prog_11_method_68_code, 4, some .int)
theorem gy_X9_next : goodY m_X9_next 2 := ⟨w_1513, ⟨nc_X9.1, nc_X9.2, pd_10, Nat.le_of_ble_eq_true rfl⟩, pn_X9 rfl⟩
def m_X9_many : MI := (⟨RX9, "many", "(III)I"⟩, prog_11_method_69_code, 6, some .int)
theorem gy_X9_many : goodY m_X9_many 3 := ⟨w_1517, ⟨nc_X9.1, nc_X9.2, pd_24, Nat.le_of_ble_eq_true rfl⟩, pn_X9 rfl⟩
def m_X9_tellsOf : MI := (⟨RX9, "tellsOf", "(III)I"⟩, prog_11_method_70_code, 4, some .int)
theorem gy_X9_tellsOf : goodY m_X9_tellsOf 3 := ⟨w_1525, ⟨nc_X9.1, nc_X9.2, pd_24, Nat.le_of_ble_eq_true rfl⟩, pn_X9 rfl⟩
def m_X9_between : MI := (⟨RX9, "between", "(IIIII)I"⟩, prog_11_method_71_code, 9, some .int)
theorem gy_X9_between : goodY m_X9_between 5 := ⟨w_1521, ⟨nc_X9.1, nc_X9.2, pd_32, Nat.le_of_ble_eq_true rfl⟩, pn_X9 rfl⟩
def m_X9_walks : MI := (⟨RX9, "walks", "(IIIIII)I"⟩, prog_11_method_72_code, 10, some .int)
theorem gy_X9_walks : goodY m_X9_walks 6 := ⟨w_1529, ⟨nc_X9.1, nc_X9.2, pd_38, Nat.le_of_ble_eq_true rfl⟩, pn_X9 rfl⟩
def m_X9_overs : MI := (⟨RX9, "overs", "(IIII)I"⟩, prog_11_method_73_code, 8, some .int)
theorem gy_X9_overs : goodY m_X9_overs 4 := ⟨w_1534, ⟨nc_X9.1, nc_X9.2, pd_37, Nat.le_of_ble_eq_true rfl⟩, pn_X9 rfl⟩
def m_X9_alike : MI := (⟨RX9, "alike", "(I)I"⟩, prog_11_method_74_code, 4, some .int)
theorem gy_X9_alike : goodY m_X9_alike 1 := ⟨w_1538, ⟨nc_X9.1, nc_X9.2, pd_6, Nat.le_of_ble_eq_true rfl⟩, pn_X9 rfl⟩
def m_X9_lates : MI := (⟨RX9, "lates", "(III)I"⟩, prog_11_method_75_code, 9, some .int)
theorem gy_X9_lates : goodY m_X9_lates 3 := ⟨w_1543, ⟨nc_X9.1, nc_X9.2, pd_24, Nat.le_of_ble_eq_true rfl⟩, pn_X9 rfl⟩
def m_X9_sizeOf : MI := (⟨RX9, "sizeOf", "(I)I"⟩, prog_11_method_76_code, 3, some .int)
theorem gy_X9_sizeOf : goodY m_X9_sizeOf 1 := ⟨w_1551, ⟨nc_X9.1, nc_X9.2, pd_6, Nat.le_of_ble_eq_true rfl⟩, pn_X9 rfl⟩
def m_X9_farthest : MI := (⟨RX9, "farthest", "(II)I"⟩, prog_11_method_77_code, 5, some .int)
theorem gy_X9_farthest : goodY m_X9_farthest 2 := ⟨w_1547, ⟨nc_X9.1, nc_X9.2, pd_10, Nat.le_of_ble_eq_true rfl⟩, pn_X9 rfl⟩
def m_X9_brightest : MI := (⟨RX9, "brightest", "(II)I"⟩, prog_11_method_78_code, 7, some .int)
theorem gy_X9_brightest : goodY m_X9_brightest 2 := ⟨w_1555, ⟨nc_X9.1, nc_X9.2, pd_10, Nat.le_of_ble_eq_true rfl⟩, pn_X9 rfl⟩
def m_X9_sees : MI := (⟨RX9, "sees", "(III)I"⟩, prog_11_method_79_code, 5, some .int)
theorem gy_X9_sees : goodY m_X9_sees 3 := ⟨w_1559, ⟨nc_X9.1, nc_X9.2, pd_24, Nat.le_of_ble_eq_true rfl⟩, pn_X9 rfl⟩
def m_X9_isPicture : MI := (⟨RX9, "isPicture", "([JI)Z"⟩, prog_11_method_80_code, 5, some .boolean)
theorem gy_X9_isPicture : goodY m_X9_isPicture 2 := ⟨w_1568, ⟨nc_X9.1, nc_X9.2, pd_39, Nat.le_of_ble_eq_true rfl⟩, pn_X9 rfl⟩
def m_X9_picture : MI := (⟨RX9, "picture", "(III)I"⟩, prog_11_method_81_code, 9, some .int)
theorem gy_X9_picture : goodY m_X9_picture 3 := ⟨w_1564, ⟨nc_X9.1, nc_X9.2, pd_24, Nat.le_of_ble_eq_true rfl⟩, pn_X9 rfl⟩
def m_X9_seen : MI := (⟨RX9, "seen", "(II)I"⟩, prog_11_method_82_code, 4, some .int)
theorem gy_X9_seen : goodY m_X9_seen 2 := ⟨w_1572, ⟨nc_X9.1, nc_X9.2, pd_10, Nat.le_of_ble_eq_true rfl⟩, pn_X9 rfl⟩
def m_X9_canBe : MI := (⟨RX9, "canBe", "(J)Z"⟩, prog_11_method_83_code, 3, some .boolean)
theorem gy_X9_canBe : goodY m_X9_canBe 1 := ⟨w_1586, ⟨nc_X9.1, nc_X9.2, pd_28, Nat.le_of_ble_eq_true rfl⟩, pn_X9 rfl⟩
def m_X9_noWitnesses : MI := (⟨RX9, "noWitnesses", "(II)I"⟩, prog_11_method_84_code, 4, some .int)
theorem gy_X9_noWitnesses : goodY m_X9_noWitnesses 2 := ⟨w_1582, ⟨nc_X9.1, nc_X9.2, pd_10, Nat.le_of_ble_eq_true rfl⟩, pn_X9 rfl⟩
def m_X9_court : MI := (⟨RX9, "court", "(II)I"⟩, prog_11_method_85_code, 9, some .int)
theorem gy_X9_court : goodY m_X9_court 2 := ⟨w_1578, ⟨nc_X9.1, nc_X9.2, pd_10, Nat.le_of_ble_eq_true rfl⟩, pn_X9 rfl⟩
def m_X9_eager : MI := (⟨RX9, "eager", "(II)I"⟩, prog_11_method_86_code, 6, some .int)
theorem gy_X9_eager : goodY m_X9_eager 2 := ⟨w_1592, ⟨nc_X9.1, nc_X9.2, pd_10, Nat.le_of_ble_eq_true rfl⟩, pn_X9 rfl⟩
def m_X9_date : MI := (⟨RX9, "date", "(I)I"⟩, prog_11_method_87_code, 3, some .int)
theorem gy_X9_date : goodY m_X9_date 1 := ⟨w_1596, ⟨nc_X9.1, nc_X9.2, pd_6, Nat.le_of_ble_eq_true rfl⟩, pn_X9 rfl⟩
def m_X9_months : MI := (⟨RX9, "months", "(I)I"⟩, prog_11_method_88_code, 4, some .int)
theorem gy_X9_months : goodY m_X9_months 1 := ⟨w_1600, ⟨nc_X9.1, nc_X9.2, pd_6, Nat.le_of_ble_eq_true rfl⟩, pn_X9 rfl⟩
def m_X9_eclipse : MI := (⟨RX9, "eclipse", "(I)I"⟩, prog_11_method_89_code, 4, some .int)
theorem gy_X9_eclipse : goodY m_X9_eclipse 1 := ⟨w_1604, ⟨nc_X9.1, nc_X9.2, pd_6, Nat.le_of_ble_eq_true rfl⟩, pn_X9 rfl⟩
def m_X9_highOf : MI := (⟨RX9, "highOf", "(I)I"⟩, prog_11_method_90_code, 2, some .int)
theorem gy_X9_highOf : goodY m_X9_highOf 1 := ⟨w_1612, ⟨nc_X9.1, nc_X9.2, pd_6, Nat.le_of_ble_eq_true rfl⟩, pn_X9 rfl⟩
def m_X9_tide : MI := (⟨RX9, "tide", "(II)I"⟩, prog_11_method_91_code, 5, some .int)
theorem gy_X9_tide : goodY m_X9_tide 2 := ⟨w_1608, ⟨nc_X9.1, nc_X9.2, pd_10, Nat.le_of_ble_eq_true rfl⟩, pn_X9 rfl⟩
def m_X9_high : MI := (⟨RX9, "high", "(I)I"⟩, prog_11_method_92_code, 2, some .int)
theorem gy_X9_high : goodY m_X9_high 1 := ⟨w_1616, ⟨nc_X9.1, nc_X9.2, pd_6, Nat.le_of_ble_eq_true rfl⟩, pn_X9 rfl⟩
def m_X9_bone : MI := (⟨RX9, "bone", "(III)I"⟩, prog_11_method_93_code, 12, some .int)
theorem gy_X9_bone : goodY m_X9_bone 3 := ⟨w_1620, ⟨nc_X9.1, nc_X9.2, pd_24, Nat.le_of_ble_eq_true rfl⟩, pn_X9 rfl⟩
def m_X9_isHit : MI := (⟨RX9, "isHit", "(IIII)Z"⟩, prog_11_method_94_code, 7, some .boolean)
theorem gy_X9_isHit : goodY m_X9_isHit 4 := ⟨w_1635, ⟨nc_X9.1, nc_X9.2, pd_40, Nat.le_of_ble_eq_true rfl⟩, pn_X9 rfl⟩
def m_X9_isNear : MI := (⟨RX9, "isNear", "(I)Z"⟩, prog_11_method_95_code, 1, some .boolean)
theorem gy_X9_isNear : goodY m_X9_isNear 1 := ⟨w_1630, ⟨nc_X9.1, nc_X9.2, pd_1, Nat.le_of_ble_eq_true rfl⟩, pn_X9 rfl⟩
def m_X9_hits : MI := (⟨RX9, "hits", "(III)I"⟩, prog_11_method_96_code, 6, some .int)
theorem gy_X9_hits : goodY m_X9_hits 3 := ⟨w_1627, ⟨nc_X9.1, nc_X9.2, pd_24, Nat.le_of_ble_eq_true rfl⟩, pn_X9 rfl⟩
def m_X9_chanceOf : MI := (⟨RX9, "chanceOf", "(III)I"⟩, prog_11_method_97_code, 8, some .int)
theorem gy_X9_chanceOf : goodY m_X9_chanceOf 3 := ⟨w_1643, ⟨nc_X9.1, nc_X9.2, pd_24, Nat.le_of_ble_eq_true rfl⟩, pn_X9 rfl⟩
def m_X9_chance : MI := (⟨RX9, "chance", "(III)I"⟩, prog_11_method_98_code, 4, some .int)
theorem gy_X9_chance : goodY m_X9_chance 3 := ⟨w_1639, ⟨nc_X9.1, nc_X9.2, pd_24, Nat.le_of_ble_eq_true rfl⟩, pn_X9 rfl⟩
def m_X9_meant : MI := (⟨RX9, "meant", "(III)I"⟩, prog_11_method_99_code, 6, some .int)
theorem gy_X9_meant : goodY m_X9_meant 3 := ⟨w_1648, ⟨nc_X9.1, nc_X9.2, pd_24, Nat.le_of_ble_eq_true rfl⟩, pn_X9 rfl⟩
def m_X9_meets : MI := (⟨RX9, "meets", "(III)I"⟩, prog_11_method_100_code, 5, some .int)
theorem gy_X9_meets : goodY m_X9_meets 3 := ⟨w_1652, ⟨nc_X9.1, nc_X9.2, pd_24, Nat.le_of_ble_eq_true rfl⟩, pn_X9 rfl⟩
def m_X9_place : MI := (⟨RX9, "place", "(III)I"⟩, prog_11_method_101_code, 11, some .int)
theorem gy_X9_place : goodY m_X9_place 3 := ⟨w_1656, ⟨nc_X9.1, nc_X9.2, pd_24, Nat.le_of_ble_eq_true rfl⟩, pn_X9 rfl⟩
def m_X9_told : MI := (⟨RX9, "told", "(II)I"⟩, prog_11_method_102_code, 3, some .int)
theorem gy_X9_told : goodY m_X9_told 2 := ⟨w_1660, ⟨nc_X9.1, nc_X9.2, pd_10, Nat.le_of_ble_eq_true rfl⟩, pn_X9 rfl⟩
def m_X9_below : MI := (⟨RX9, "below", "(I)I"⟩, prog_11_method_103_code, 2, some .int)
theorem gy_X9_below : goodY m_X9_below 1 := ⟨w_1673, ⟨nc_X9.1, nc_X9.2, pd_6, Nat.le_of_ble_eq_true rfl⟩, pn_X9 rfl⟩
def m_X9_goesBy : MI := (⟨RX9, "goesBy", "()I"⟩, prog_11_method_104_code, 2, some .int)
theorem gy_X9_goesBy : goodY m_X9_goesBy 0 := ⟨w_1669, ⟨nc_X9.1, nc_X9.2, pd_4, Nat.le_of_ble_eq_true rfl⟩, pn_X9 rfl⟩
def m_X9_goes : MI := (⟨RX9, "goes", "()I"⟩, prog_11_method_105_code, 1, some .int)
theorem gy_X9_goes : goodY m_X9_goes 0 := ⟨w_1665, ⟨nc_X9.1, nc_X9.2, pd_4, Nat.le_of_ble_eq_true rfl⟩, pn_X9 rfl⟩
def m_X9_looks : MI := (⟨RX9, "looks", "(I)I"⟩, prog_11_method_106_code, 3, some .int)
theorem gy_X9_looks : goodY m_X9_looks 1 := ⟨w_1678, ⟨nc_X9.1, nc_X9.2, pd_6, Nat.le_of_ble_eq_true rfl⟩, pn_X9 rfl⟩
def m_X9_seed : MI := (⟨RX9, "seed", "(I)I"⟩, prog_11_method_107_code, 3, some .int)
theorem gy_X9_seed : goodY m_X9_seed 1 := ⟨w_1682, ⟨nc_X9.1, nc_X9.2, pd_6, Nat.le_of_ble_eq_true rfl⟩, pn_X9 rfl⟩
def m_X9_image : MI := (⟨RX9, "image", "()I"⟩, prog_11_method_110_code, 1, some .int)
theorem gy_X9_image : goodY m_X9_image 0 := ⟨w_1686, ⟨nc_X9.1, nc_X9.2, pd_4, Nat.le_of_ble_eq_true rfl⟩, pn_X9 rfl⟩
def m_X9_back : MI := (⟨RX9, "back", "()I"⟩, prog_11_method_111_code, 1, some .int)
theorem gy_X9_back : goodY m_X9_back 0 := ⟨w_1690, ⟨nc_X9.1, nc_X9.2, pd_4, Nat.le_of_ble_eq_true rfl⟩, pn_X9 rfl⟩
def m_X9_status : MI := (⟨RX9, "status", "(I)I"⟩, prog_11_method_112_code, 4, some .int)
theorem gy_X9_status : goodY m_X9_status 1 := ⟨w_1694, ⟨nc_X9.1, nc_X9.2, pd_6, Nat.le_of_ble_eq_true rfl⟩, pn_X9 rfl⟩
def m_X7_init : MI := (⟨RX7, "<init>", "()V"⟩, prog_9_method_1_code, 1, none)
theorem gy_X7_init : goodY m_X7_init 0 := ⟨w_192, ⟨nc_X7.1, nc_X7.2, pd_7, Nat.le_of_ble_eq_true rfl⟩, pn_X7 rfl⟩
def m_X7_size : MI := (⟨RX7, "size", "()I"⟩, prog_9_method_2_code, 1, some .int)
theorem gy_X7_size : goodY m_X7_size 0 := ⟨w_621, ⟨nc_X7.1, nc_X7.2, pd_4, Nat.le_of_ble_eq_true rfl⟩, pn_X7 rfl⟩
def m_X7_isFull : MI := (⟨RX7, "isFull", "()Z"⟩, prog_9_method_3_code, 1, some .boolean)
theorem gy_X7_isFull : goodY m_X7_isFull 0 := ⟨w_613, ⟨nc_X7.1, nc_X7.2, pd_5, Nat.le_of_ble_eq_true rfl⟩, pn_X7 rfl⟩
def m_X7_add : MI := (⟨RX7, "add", "(I)V"⟩, prog_9_method_4_code, 2, none)
theorem gy_X7_add : goodY m_X7_add 1 := ⟨w_617, ⟨nc_X7.1, nc_X7.2, pd_3, Nat.le_of_ble_eq_true rfl⟩, pn_X7 rfl⟩
def m_X7_empty : MI := (⟨RX7, "empty", "()V"⟩, prog_9_method_5_code, 1, none)
theorem gy_X7_empty : goodY m_X7_empty 0 := ⟨w_629, ⟨nc_X7.1, nc_X7.2, pd_7, Nat.le_of_ble_eq_true rfl⟩, pn_X7 rfl⟩
def m_X7_fault : MI := (⟨RX7, "fault", "()I"⟩, prog_9_method_6_code, 1, some .int)
theorem gy_X7_fault : goodY m_X7_fault 0 := ⟨w_757, ⟨nc_X7.1, nc_X7.2, pd_4, Nat.le_of_ble_eq_true rfl⟩, pn_X7 rfl⟩
def m_X7_byteAt : MI := (⟨RX7, "byteAt", "(I)I"⟩, prog_9_method_8_code, 2, some .int)
theorem gy_X7_byteAt : goodY m_X7_byteAt 1 := ⟨w_660, ⟨nc_X7.1, nc_X7.2, pd_6, Nat.le_of_ble_eq_true rfl⟩, pn_X7 rfl⟩
def m_X7_tokenOf : MI := (⟨RX7, "tokenOf", "(I)I"⟩, prog_9_method_9_code, 1, some .int)
theorem gy_X7_tokenOf : goodY m_X7_tokenOf 1 := ⟨w_663, ⟨nc_X7.1, nc_X7.2, pd_6, Nat.le_of_ble_eq_true rfl⟩, pn_X7 rfl⟩
def m_X7_step : MI := (⟨RX7, "step", "()V"⟩, prog_9_method_10_code, 2, none)
theorem gy_X7_step : goodY m_X7_step 0 := ⟨w_656, ⟨nc_X7.1, nc_X7.2, pd_7, Nat.le_of_ble_eq_true rfl⟩, pn_X7 rfl⟩
def m_X7_isWord : MI := (⟨RX7, "isWord", "(Ljava/lang/String;)Z"⟩, prog_9_method_11_code, 3, some .boolean)
theorem gy_X7_isWord : goodY m_X7_isWord 1 := ⟨w_673, ⟨nc_X7.1, nc_X7.2, pd_34, Nat.le_of_ble_eq_true rfl⟩, pn_X7 rfl⟩
def m_X7_takeNumber : MI := (⟨RX7, "takeNumber", "(II)Z"⟩, prog_9_method_13_code, 4, some .boolean)
theorem gy_X7_takeNumber : goodY m_X7_takeNumber 2 := ⟨w_729, ⟨nc_X7.1, nc_X7.2, pd_2, Nat.le_of_ble_eq_true rfl⟩, pn_X7 rfl⟩
def m_X7_takeAsked : MI := (⟨RX7, "takeAsked", "(LMoonOverTheHill$State;I)Z"⟩, prog_9_method_14_code, 3, some .boolean)
theorem gy_X7_takeAsked : goodY m_X7_takeAsked 2 := ⟨w_725, ⟨nc_X7.1, nc_X7.2, pd_41, Nat.le_of_ble_eq_true rfl⟩, pn_X7 rfl⟩
def m_X7_takeNotch : MI := (⟨RX7, "takeNotch", "(LMoonOverTheHill$Hill;)Z"⟩, prog_9_method_15_code, 4, some .boolean)
theorem gy_X7_takeNotch : goodY m_X7_takeNotch 1 := ⟨w_738, ⟨nc_X7.1, nc_X7.2, pd_42, Nat.le_of_ble_eq_true rfl⟩, pn_X7 rfl⟩
def m_X7_takeStone : MI := (⟨RX7, "takeStone", "(LMoonOverTheHill$Few;)Z"⟩, prog_9_method_16_code, 2, some .boolean)
theorem gy_X7_takeStone : goodY m_X7_takeStone 1 := ⟨w_745, ⟨nc_X7.1, nc_X7.2, pd_43, Nat.le_of_ble_eq_true rfl⟩, pn_X7 rfl⟩
def m_X7_takeCloud : MI := (⟨RX7, "takeCloud", "(LMoonOverTheHill$Few;)Z"⟩, prog_9_method_17_code, 2, some .boolean)
theorem gy_X7_takeCloud : goodY m_X7_takeCloud 1 := ⟨w_752, ⟨nc_X7.1, nc_X7.2, pd_43, Nat.le_of_ble_eq_true rfl⟩, pn_X7 rfl⟩
def m_X7_takeStatement : MI := (⟨RX7, "takeStatement", "(LMoonOverTheHill$State;)Z"⟩, prog_9_method_12_code, 2, some .boolean)
theorem gy_X7_takeStatement : goodY m_X7_takeStatement 1 := ⟨w_668, ⟨nc_X7.1, nc_X7.2, pd_44, Nat.le_of_ble_eq_true rfl⟩, pn_X7 rfl⟩
def m_X7_read : MI := (⟨RX7, "read", "(LMoonOverTheHill$State;)I"⟩, prog_9_method_7_code, 3, some .int)
theorem gy_X7_read : goodY m_X7_read 1 := ⟨w_652, ⟨nc_X7.1, nc_X7.2, pd_45, Nat.le_of_ble_eq_true rfl⟩, pn_X7 rfl⟩
def m_X8_init : MI := (⟨RX8, "<init>", "()V"⟩, prog_1_method_1_code, 2, none)
theorem gy_X8_init : goodY m_X8_init 0 := ⟨w_83, ⟨nc_X8.1, nc_X8.2, pd_7, Nat.le_of_ble_eq_true rfl⟩, pn_X8 rfl⟩
def m_X8_shelfAt : MI := (⟨RX8, "shelfAt", "(I)LMoonOverTheHill$Shelf;"⟩, prog_1_method_69_code, 2, some (.object "MoonOverTheHill$Shelf"))
theorem gy_X8_shelfAt : goodY m_X8_shelfAt 1 := ⟨w_279, ⟨nc_X8.1, nc_X8.2, pd_46, Nat.le_of_ble_eq_true rfl⟩, pn_X8 rfl⟩
def m_X8_refuse : MI := (⟨RX8, "refuse", "(I)I"⟩, prog_1_method_70_code, 3, some .int)
theorem gy_X8_refuse : goodY m_X8_refuse 1 := ⟨w_286, ⟨nc_X8.1, nc_X8.2, pd_6, Nat.le_of_ble_eq_true rfl⟩, pn_X8 rfl⟩
def m_X8_row : MI := (⟨RX8, "row", "(III)I"⟩, prog_1_method_2_code, 5, some .int)
theorem gy_X8_row : goodY m_X8_row 3 := ⟨w_275, ⟨nc_X8.1, nc_X8.2, pd_24, Nat.le_of_ble_eq_true rfl⟩, pn_X8 rfl⟩
def m_X8_set : MI := (⟨RX8, "set", "(IIJ)I"⟩, prog_1_method_3_code, 7, some .int)
theorem gy_X8_set : goodY m_X8_set 3 := ⟨w_300, ⟨nc_X8.1, nc_X8.2, pd_31, Nat.le_of_ble_eq_true rfl⟩, pn_X8 rfl⟩
def m_X8_copy : MI := (⟨RX8, "copy", "(IIIII)I"⟩, prog_1_method_4_code, 8, some .int)
theorem gy_X8_copy : goodY m_X8_copy 5 := ⟨w_328, ⟨nc_X8.1, nc_X8.2, pd_32, Nat.le_of_ble_eq_true rfl⟩, pn_X8 rfl⟩
def m_X8_element : MI := (⟨RX8, "element", "(II)J"⟩, prog_1_method_5_code, 4, some .long)
theorem gy_X8_element : goodY m_X8_element 2 := ⟨w_350, ⟨nc_X8.1, nc_X8.2, pd_33, Nat.le_of_ble_eq_true rfl⟩, pn_X8 rfl⟩
def m_X8_holds : MI := (⟨RX8, "holds", "(I)I"⟩, prog_1_method_6_code, 3, some .int)
theorem gy_X8_holds : goodY m_X8_holds 1 := ⟨w_359, ⟨nc_X8.1, nc_X8.2, pd_6, Nat.le_of_ble_eq_true rfl⟩, pn_X8 rfl⟩
def m_X8_evening : MI := (⟨RX8, "evening", "(III)I"⟩, prog_1_method_7_code, 5, some .int)
theorem gy_X8_evening : goodY m_X8_evening 3 := ⟨w_367, ⟨nc_X8.1, nc_X8.2, pd_24, Nat.le_of_ble_eq_true rfl⟩, pn_X8 rfl⟩
def m_X8_says : MI := (⟨RX8, "says", "(II)I"⟩, prog_1_method_8_code, 4, some .int)
theorem gy_X8_says : goodY m_X8_says 2 := ⟨w_381, ⟨nc_X8.1, nc_X8.2, pd_10, Nat.le_of_ble_eq_true rfl⟩, pn_X8 rfl⟩
def m_X8_isSo : MI := (⟨RX8, "isSo", "(I)I"⟩, prog_1_method_9_code, 3, some .int)
theorem gy_X8_isSo : goodY m_X8_isSo 1 := ⟨w_450, ⟨nc_X8.1, nc_X8.2, pd_6, Nat.le_of_ble_eq_true rfl⟩, pn_X8 rfl⟩
def m_X8_ask : MI := (⟨RX8, "ask", "(II)I"⟩, prog_1_method_10_code, 4, some .int)
theorem gy_X8_ask : goodY m_X8_ask 2 := ⟨w_548, ⟨nc_X8.1, nc_X8.2, pd_10, Nat.le_of_ble_eq_true rfl⟩, pn_X8 rfl⟩
def m_X8_notch : MI := (⟨RX8, "notch", "(III)I"⟩, prog_1_method_11_code, 4, some .int)
theorem gy_X8_notch : goodY m_X8_notch 3 := ⟨w_560, ⟨nc_X8.1, nc_X8.2, pd_24, Nat.le_of_ble_eq_true rfl⟩, pn_X8 rfl⟩
def m_X8_stone : MI := (⟨RX8, "stone", "(I)I"⟩, prog_1_method_12_code, 2, some .int)
theorem gy_X8_stone : goodY m_X8_stone 1 := ⟨w_581, ⟨nc_X8.1, nc_X8.2, pd_6, Nat.le_of_ble_eq_true rfl⟩, pn_X8 rfl⟩
def m_X8_cloud : MI := (⟨RX8, "cloud", "(I)I"⟩, prog_1_method_13_code, 2, some .int)
theorem gy_X8_cloud : goodY m_X8_cloud 1 := ⟨w_588, ⟨nc_X8.1, nc_X8.2, pd_6, Nat.le_of_ble_eq_true rfl⟩, pn_X8 rfl⟩
def m_X8_clear : MI := (⟨RX8, "clear", "(I)I"⟩, prog_1_method_14_code, 3, some .int)
theorem gy_X8_clear : goodY m_X8_clear 1 := ⟨w_593, ⟨nc_X8.1, nc_X8.2, pd_6, Nat.le_of_ble_eq_true rfl⟩, pn_X8 rfl⟩
def m_X8_feed : MI := (⟨RX8, "feed", "(I)I"⟩, prog_1_method_15_code, 2, some .int)
theorem gy_X8_feed : goodY m_X8_feed 1 := ⟨w_609, ⟨nc_X8.1, nc_X8.2, pd_6, Nat.le_of_ble_eq_true rfl⟩, pn_X8 rfl⟩
def m_X8_wipe : MI := (⟨RX8, "wipe", "()I"⟩, prog_1_method_16_code, 2, some .int)
theorem gy_X8_wipe : goodY m_X8_wipe 0 := ⟨w_625, ⟨nc_X8.1, nc_X8.2, pd_4, Nat.le_of_ble_eq_true rfl⟩, pn_X8 rfl⟩
def m_X8_sky : MI := (⟨RX8, "sky", "()I"⟩, prog_1_method_17_code, 3, some .int)
theorem gy_X8_sky : goodY m_X8_sky 0 := ⟨w_633, ⟨nc_X8.1, nc_X8.2, pd_4, Nat.le_of_ble_eq_true rfl⟩, pn_X8 rfl⟩
def m_X8_notchOf : MI := (⟨RX8, "notchOf", "(II)I"⟩, prog_1_method_18_code, 3, some .int)
theorem gy_X8_notchOf : goodY m_X8_notchOf 2 := ⟨w_762, ⟨nc_X8.1, nc_X8.2, pd_10, Nat.le_of_ble_eq_true rfl⟩, pn_X8 rfl⟩
def m_X8_isStone : MI := (⟨RX8, "isStone", "(I)Z"⟩, prog_1_method_68_code, 2, some .boolean)
theorem gy_X8_isStone : goodY m_X8_isStone 1 := ⟨w_774, ⟨nc_X8.1, nc_X8.2, pd_1, Nat.le_of_ble_eq_true rfl⟩, pn_X8 rfl⟩
def m_X8_stoneOf : MI := (⟨RX8, "stoneOf", "(I)I"⟩, prog_1_method_19_code, 2, some .int)
theorem gy_X8_stoneOf : goodY m_X8_stoneOf 1 := ⟨w_770, ⟨nc_X8.1, nc_X8.2, pd_6, Nat.le_of_ble_eq_true rfl⟩, pn_X8 rfl⟩
def m_X8_line : MI := (⟨RX8, "line", "(I)I"⟩, prog_1_method_20_code, 2, some .int)
theorem gy_X8_line : goodY m_X8_line 1 := ⟨w_779, ⟨nc_X8.1, nc_X8.2, pd_6, Nat.le_of_ble_eq_true rfl⟩, pn_X8 rfl⟩
def m_X8_moon : MI := (⟨RX8, "moon", "(II)I"⟩, prog_1_method_21_code, 3, some .int)
theorem gy_X8_moon : goodY m_X8_moon 2 := ⟨w_784, ⟨nc_X8.1, nc_X8.2, pd_10, Nat.le_of_ble_eq_true rfl⟩, pn_X8 rfl⟩
def m_X8_refuseFarBelow : MI := (⟨RX8, "refuseFarBelow", "(I)I"⟩, prog_1_method_71_code, 2, some .int)
theorem gy_X8_refuseFarBelow : goodY m_X8_refuseFarBelow 1 := ⟨w_808, ⟨nc_X8.1, nc_X8.2, pd_6, Nat.le_of_ble_eq_true rfl⟩, pn_X8 rfl⟩
def m_X8_slant : MI := (⟨RX8, "slant", "(I)I"⟩, prog_1_method_22_code, 2, some .int)
theorem gy_X8_slant : goodY m_X8_slant 1 := ⟨w_803, ⟨nc_X8.1, nc_X8.2, pd_6, Nat.le_of_ble_eq_true rfl⟩, pn_X8 rfl⟩
def m_X8_behind : MI := (⟨RX8, "behind", "(I)I"⟩, prog_1_method_23_code, 2, some .int)
theorem gy_X8_behind : goodY m_X8_behind 1 := ⟨w_813, ⟨nc_X8.1, nc_X8.2, pd_6, Nat.le_of_ble_eq_true rfl⟩, pn_X8 rfl⟩
def m_X8_is : MI := (⟨RX8, "is", "(II)I"⟩, prog_1_method_24_code, 3, some .int)
theorem gy_X8_is : goodY m_X8_is 2 := ⟨w_818, ⟨nc_X8.1, nc_X8.2, pd_10, Nat.le_of_ble_eq_true rfl⟩, pn_X8 rfl⟩
def m_X8_shines : MI := (⟨RX8, "shines", "(III)I"⟩, prog_1_method_25_code, 4, some .int)
theorem gy_X8_shines : goodY m_X8_shines 3 := ⟨w_822, ⟨nc_X8.1, nc_X8.2, pd_24, Nat.le_of_ble_eq_true rfl⟩, pn_X8 rfl⟩
def m_X8_light : MI := (⟨RX8, "light", "(III)I"⟩, prog_1_method_26_code, 4, some .int)
theorem gy_X8_light : goodY m_X8_light 3 := ⟨w_830, ⟨nc_X8.1, nc_X8.2, pd_24, Nat.le_of_ble_eq_true rfl⟩, pn_X8 rfl⟩
def m_X8_next : MI := (⟨RX8, "next", "(II)I"⟩, prog_1_method_27_code, 3, some .int)
theorem gy_X8_next : goodY m_X8_next 2 := ⟨w_838, ⟨nc_X8.1, nc_X8.2, pd_10, Nat.le_of_ble_eq_true rfl⟩, pn_X8 rfl⟩
def m_X8_many : MI := (⟨RX8, "many", "(III)I"⟩, prog_1_method_28_code, 4, some .int)
theorem gy_X8_many : goodY m_X8_many 3 := ⟨w_850, ⟨nc_X8.1, nc_X8.2, pd_24, Nat.le_of_ble_eq_true rfl⟩, pn_X8 rfl⟩
def m_X8_orStuck : MI := (⟨RX8, "orStuck", "(I)I"⟩, prog_1_method_72_code, 2, some .int)
theorem gy_X8_orStuck : goodY m_X8_orStuck 1 := ⟨w_864, ⟨nc_X8.1, nc_X8.2, pd_6, Nat.le_of_ble_eq_true rfl⟩, pn_X8 rfl⟩
def m_X8_between : MI := (⟨RX8, "between", "(IIIII)I"⟩, prog_1_method_29_code, 6, some .int)
theorem gy_X8_between : goodY m_X8_between 5 := ⟨w_857, ⟨nc_X8.1, nc_X8.2, pd_32, Nat.le_of_ble_eq_true rfl⟩, pn_X8 rfl⟩
def m_X8_alike : MI := (⟨RX8, "alike", "(I)I"⟩, prog_1_method_30_code, 2, some .int)
theorem gy_X8_alike : goodY m_X8_alike 1 := ⟨w_868, ⟨nc_X8.1, nc_X8.2, pd_6, Nat.le_of_ble_eq_true rfl⟩, pn_X8 rfl⟩
def m_X8_farthest : MI := (⟨RX8, "farthest", "(II)I"⟩, prog_1_method_31_code, 3, some .int)
theorem gy_X8_farthest : goodY m_X8_farthest 2 := ⟨w_882, ⟨nc_X8.1, nc_X8.2, pd_10, Nat.le_of_ble_eq_true rfl⟩, pn_X8 rfl⟩
def m_X8_grows : MI := (⟨RX8, "grows", "(I)I"⟩, prog_1_method_32_code, 2, some .int)
theorem gy_X8_grows : goodY m_X8_grows 1 := ⟨w_886, ⟨nc_X8.1, nc_X8.2, pd_6, Nat.le_of_ble_eq_true rfl⟩, pn_X8 rfl⟩
def m_X8_lights : MI := (⟨RX8, "lights", "(IIII)I"⟩, prog_1_method_33_code, 8, some .int)
theorem gy_X8_lights : goodY m_X8_lights 4 := ⟨w_890, ⟨nc_X8.1, nc_X8.2, pd_37, Nat.le_of_ble_eq_true rfl⟩, pn_X8 rfl⟩
def m_X8_soonest : MI := (⟨RX8, "soonest", "(II)I"⟩, prog_1_method_34_code, 3, some .int)
theorem gy_X8_soonest : goodY m_X8_soonest 2 := ⟨w_895, ⟨nc_X8.1, nc_X8.2, pd_10, Nat.le_of_ble_eq_true rfl⟩, pn_X8 rfl⟩
def m_X8_brightest : MI := (⟨RX8, "brightest", "(II)I"⟩, prog_1_method_35_code, 3, some .int)
theorem gy_X8_brightest : goodY m_X8_brightest 2 := ⟨w_899, ⟨nc_X8.1, nc_X8.2, pd_10, Nat.le_of_ble_eq_true rfl⟩, pn_X8 rfl⟩
def m_X8_walks : MI := (⟨RX8, "walks", "(IIIIII)I"⟩, prog_1_method_36_code, 7, some .int)
theorem gy_X8_walks : goodY m_X8_walks 6 := ⟨w_903, ⟨nc_X8.1, nc_X8.2, pd_38, Nat.le_of_ble_eq_true rfl⟩, pn_X8 rfl⟩
def m_X8_overs : MI := (⟨RX8, "overs", "(IIII)I"⟩, prog_1_method_37_code, 5, some .int)
theorem gy_X8_overs : goodY m_X8_overs 4 := ⟨w_907, ⟨nc_X8.1, nc_X8.2, pd_37, Nat.le_of_ble_eq_true rfl⟩, pn_X8 rfl⟩
def m_X8_lates : MI := (⟨RX8, "lates", "(III)I"⟩, prog_1_method_38_code, 10, some .int)
theorem gy_X8_lates : goodY m_X8_lates 3 := ⟨w_911, ⟨nc_X8.1, nc_X8.2, pd_24, Nat.le_of_ble_eq_true rfl⟩, pn_X8 rfl⟩
def m_X8_date : MI := (⟨RX8, "date", "(I)I"⟩, prog_1_method_39_code, 3, some .int)
theorem gy_X8_date : goodY m_X8_date 1 := ⟨w_917, ⟨nc_X8.1, nc_X8.2, pd_6, Nat.le_of_ble_eq_true rfl⟩, pn_X8 rfl⟩
def m_X8_months : MI := (⟨RX8, "months", "(I)I"⟩, prog_1_method_40_code, 2, some .int)
theorem gy_X8_months : goodY m_X8_months 1 := ⟨w_921, ⟨nc_X8.1, nc_X8.2, pd_6, Nat.le_of_ble_eq_true rfl⟩, pn_X8 rfl⟩
def m_X8_eclipse : MI := (⟨RX8, "eclipse", "(I)I"⟩, prog_1_method_41_code, 2, some .int)
theorem gy_X8_eclipse : goodY m_X8_eclipse 1 := ⟨w_932, ⟨nc_X8.1, nc_X8.2, pd_6, Nat.le_of_ble_eq_true rfl⟩, pn_X8 rfl⟩
def m_X8_sees : MI := (⟨RX8, "sees", "(III)I"⟩, prog_1_method_42_code, 4, some .int)
theorem gy_X8_sees : goodY m_X8_sees 3 := ⟨w_936, ⟨nc_X8.1, nc_X8.2, pd_24, Nat.le_of_ble_eq_true rfl⟩, pn_X8 rfl⟩
def m_X8_picture : MI := (⟨RX8, "picture", "(III)I"⟩, prog_1_method_43_code, 10, some .int)
theorem gy_X8_picture : goodY m_X8_picture 3 := ⟨w_949, ⟨nc_X8.1, nc_X8.2, pd_24, Nat.le_of_ble_eq_true rfl⟩, pn_X8 rfl⟩
def m_X8_seen : MI := (⟨RX8, "seen", "(II)I"⟩, prog_1_method_44_code, 3, some .int)
theorem gy_X8_seen : goodY m_X8_seen 2 := ⟨w_958, ⟨nc_X8.1, nc_X8.2, pd_10, Nat.le_of_ble_eq_true rfl⟩, pn_X8 rfl⟩
def m_X8_toldByMost : MI := (⟨RX8, "toldByMost", "(LMoonOverTheHill$Shelf;I)I"⟩, prog_1_method_75_code, 9, some .int)
theorem gy_X8_toldByMost : goodY m_X8_toldByMost 2 := ⟨w_966, ⟨nc_X8.1, nc_X8.2, pd_47, Nat.le_of_ble_eq_true rfl⟩, pn_X8 rfl⟩
def m_X8_court : MI := (⟨RX8, "court", "(II)I"⟩, prog_1_method_45_code, 5, some .int)
theorem gy_X8_court : goodY m_X8_court 2 := ⟨w_962, ⟨nc_X8.1, nc_X8.2, pd_10, Nat.le_of_ble_eq_true rfl⟩, pn_X8 rfl⟩
def m_X8_eager : MI := (⟨RX8, "eager", "(II)I"⟩, prog_1_method_46_code, 7, some .int)
theorem gy_X8_eager : goodY m_X8_eager 2 := ⟨w_979, ⟨nc_X8.1, nc_X8.2, pd_10, Nat.le_of_ble_eq_true rfl⟩, pn_X8 rfl⟩
def m_X8_tide : MI := (⟨RX8, "tide", "(II)I"⟩, prog_1_method_47_code, 3, some .int)
theorem gy_X8_tide : goodY m_X8_tide 2 := ⟨w_983, ⟨nc_X8.1, nc_X8.2, pd_10, Nat.le_of_ble_eq_true rfl⟩, pn_X8 rfl⟩
def m_X8_high : MI := (⟨RX8, "high", "(I)I"⟩, prog_1_method_48_code, 2, some .int)
theorem gy_X8_high : goodY m_X8_high 1 := ⟨w_995, ⟨nc_X8.1, nc_X8.2, pd_6, Nat.le_of_ble_eq_true rfl⟩, pn_X8 rfl⟩
def m_X8_bone : MI := (⟨RX8, "bone", "(III)I"⟩, prog_1_method_49_code, 6, some .int)
theorem gy_X8_bone : goodY m_X8_bone 3 := ⟨w_1000, ⟨nc_X8.1, nc_X8.2, pd_24, Nat.le_of_ble_eq_true rfl⟩, pn_X8 rfl⟩
def m_X8_stonesThatHit : MI := (⟨RX8, "stonesThatHit", "(I)I"⟩, prog_1_method_76_code, 4, some .int)
theorem gy_X8_stonesThatHit : goodY m_X8_stonesThatHit 1 := ⟨w_1040, ⟨nc_X8.1, nc_X8.2, pd_6, Nat.le_of_ble_eq_true rfl⟩, pn_X8 rfl⟩
def m_X8_hits : MI := (⟨RX8, "hits", "(III)I"⟩, prog_1_method_50_code, 4, some .int)
theorem gy_X8_hits : goodY m_X8_hits 3 := ⟨w_1029, ⟨nc_X8.1, nc_X8.2, pd_24, Nat.le_of_ble_eq_true rfl⟩, pn_X8 rfl⟩
def m_X8_chance : MI := (⟨RX8, "chance", "(III)I"⟩, prog_1_method_51_code, 4, some .int)
theorem gy_X8_chance : goodY m_X8_chance 3 := ⟨w_1049, ⟨nc_X8.1, nc_X8.2, pd_24, Nat.le_of_ble_eq_true rfl⟩, pn_X8 rfl⟩
def m_X8_meets : MI := (⟨RX8, "meets", "(III)I"⟩, prog_1_method_52_code, 5, some .int)
theorem gy_X8_meets : goodY m_X8_meets 3 := ⟨w_1058, ⟨nc_X8.1, nc_X8.2, pd_24, Nat.le_of_ble_eq_true rfl⟩, pn_X8 rfl⟩
def m_X8_place : MI := (⟨RX8, "place", "(III)I"⟩, prog_1_method_53_code, 4, some .int)
theorem gy_X8_place : goodY m_X8_place 3 := ⟨w_1062, ⟨nc_X8.1, nc_X8.2, pd_24, Nat.le_of_ble_eq_true rfl⟩, pn_X8 rfl⟩
def m_X8_meant : MI := (⟨RX8, "meant", "(III)I"⟩, prog_1_method_54_code, 6, some .int)
theorem gy_X8_meant : goodY m_X8_meant 3 := ⟨w_1070, ⟨nc_X8.1, nc_X8.2, pd_24, Nat.le_of_ble_eq_true rfl⟩, pn_X8 rfl⟩
def m_X8_told : MI := (⟨RX8, "told", "(II)I"⟩, prog_1_method_55_code, 4, some .int)
theorem gy_X8_told : goodY m_X8_told 2 := ⟨w_1080, ⟨nc_X8.1, nc_X8.2, pd_10, Nat.le_of_ble_eq_true rfl⟩, pn_X8 rfl⟩
def m_X8_letEveningPass : MI := (⟨RX8, "letEveningPass", "()Z"⟩, prog_1_method_77_code, 2, some .boolean)
theorem gy_X8_letEveningPass : goodY m_X8_letEveningPass 0 := ⟨w_1089, ⟨nc_X8.1, nc_X8.2, pd_5, Nat.le_of_ble_eq_true rfl⟩, pn_X8 rfl⟩
def m_X8_goes : MI := (⟨RX8, "goes", "()I"⟩, prog_1_method_56_code, 1, some .int)
theorem gy_X8_goes : goodY m_X8_goes 0 := ⟨w_1085, ⟨nc_X8.1, nc_X8.2, pd_4, Nat.le_of_ble_eq_true rfl⟩, pn_X8 rfl⟩
def m_X8_looks : MI := (⟨RX8, "looks", "(I)I"⟩, prog_1_method_57_code, 3, some .int)
theorem gy_X8_looks : goodY m_X8_looks 1 := ⟨w_1098, ⟨nc_X8.1, nc_X8.2, pd_6, Nat.le_of_ble_eq_true rfl⟩, pn_X8 rfl⟩
def m_X8_seed : MI := (⟨RX8, "seed", "(I)I"⟩, prog_1_method_58_code, 3, some .int)
theorem gy_X8_seed : goodY m_X8_seed 1 := ⟨w_1102, ⟨nc_X8.1, nc_X8.2, pd_6, Nat.le_of_ble_eq_true rfl⟩, pn_X8 rfl⟩
def m_X8_image : MI := (⟨RX8, "image", "()I"⟩, prog_1_method_59_code, 1, some .int)
theorem gy_X8_image : goodY m_X8_image 0 := ⟨w_1106, ⟨nc_X8.1, nc_X8.2, pd_4, Nat.le_of_ble_eq_true rfl⟩, pn_X8 rfl⟩
def m_X8_back : MI := (⟨RX8, "back", "()I"⟩, prog_1_method_60_code, 1, some .int)
theorem gy_X8_back : goodY m_X8_back 0 := ⟨w_1110, ⟨nc_X8.1, nc_X8.2, pd_4, Nat.le_of_ble_eq_true rfl⟩, pn_X8 rfl⟩
def m_X8_shelvesInUse : MI := (⟨RX8, "shelvesInUse", "()I"⟩, prog_1_method_74_code, 4, some .int)
theorem gy_X8_shelvesInUse : goodY m_X8_shelvesInUse 0 := ⟨w_1118, ⟨nc_X8.1, nc_X8.2, pd_4, Nat.le_of_ble_eq_true rfl⟩, pn_X8 rfl⟩
def m_X8_refusalsAt : MI := (⟨RX8, "refusalsAt", "(I)I"⟩, prog_1_method_73_code, 2, some .int)
theorem gy_X8_refusalsAt : goodY m_X8_refusalsAt 1 := ⟨w_1122, ⟨nc_X8.1, nc_X8.2, pd_6, Nat.le_of_ble_eq_true rfl⟩, pn_X8 rfl⟩
def m_X8_status : MI := (⟨RX8, "status", "(I)I"⟩, prog_1_method_61_code, 2, some .int)
theorem gy_X8_status : goodY m_X8_status 1 := ⟨w_1114, ⟨nc_X8.1, nc_X8.2, pd_6, Nat.le_of_ble_eq_true rfl⟩, pn_X8 rfl⟩
theorem ki_1 : Int32.ofInt (1) = (1 : Int32) := by decide
theorem lk_J0_335 : LkV RJ0 335 m_J0_coder_7d493 0 := ⟨(List.forall_mem_cons.mpr ⟨w_678, (List.forall_mem_cons.mpr ⟨w_679, (List.forall_mem_cons.mpr ⟨w_680, (List.forall_mem_cons.mpr ⟨w_74, (List.forall_mem_nil _)⟩)⟩)⟩)⟩), gy_J0_coder_7d493⟩
theorem lk_J0_1059 : LkS RJ0 1059 m_J3_checkIndex_8e157 3 := ⟨(List.forall_mem_cons.mpr ⟨w_700, (List.forall_mem_cons.mpr ⟨w_701, (List.forall_mem_cons.mpr ⟨w_76, (List.forall_mem_nil _)⟩)⟩)⟩), gy_J3_checkIndex_8e157⟩
theorem lk_J1_9 : LkS RJ1 9 m_J0_checkIndex_df160 2 := ⟨(List.forall_mem_cons.mpr ⟨w_695, (List.forall_mem_cons.mpr ⟨w_696, (List.forall_mem_cons.mpr ⟨w_74, (List.forall_mem_nil _)⟩)⟩)⟩), gy_J0_checkIndex_df160⟩
theorem ks_255 : (Int16.ofInt (255)).toInt32 = (255 : Int32) := by decide
theorem lk_J0_492 : LkV RJ0 492 m_J0_isLatin1_aae02 0 := ⟨(List.forall_mem_cons.mpr ⟨w_688, (List.forall_mem_cons.mpr ⟨w_689, (List.forall_mem_cons.mpr ⟨w_690, (List.forall_mem_cons.mpr ⟨w_74, (List.forall_mem_nil _)⟩)⟩)⟩)⟩), gy_J0_isLatin1_aae02⟩
theorem lk_J0_495 : LkS RJ0 495 m_J1_charAt_3b067 2 := ⟨(List.forall_mem_cons.mpr ⟨w_692, (List.forall_mem_cons.mpr ⟨w_693, (List.forall_mem_cons.mpr ⟨w_75, (List.forall_mem_nil _)⟩)⟩)⟩), gy_J1_charAt_3b067⟩
theorem ki_0 : Int32.ofInt (0) = (0 : Int32) := by decide
theorem ks_9999 : (Int16.ofInt (9999)).toInt32 = (9999 : Int32) := by decide
theorem lk_X8_60 : LkS RX8 60 m_X8_isIn 3 := ⟨(List.forall_mem_cons.mpr ⟨w_280, (List.forall_mem_cons.mpr ⟨w_281, (List.forall_mem_cons.mpr ⟨w_61, (List.forall_mem_nil _)⟩)⟩)⟩), gy_X8_isIn⟩
theorem lk_X8_113 : LkS RX8 113 m_X8_isDay 1 := ⟨(List.forall_mem_cons.mpr ⟨w_371, (List.forall_mem_cons.mpr ⟨w_372, (List.forall_mem_cons.mpr ⟨w_61, (List.forall_mem_nil _)⟩)⟩)⟩), gy_X8_isDay⟩
theorem ks_1000 : (Int16.ofInt (1000)).toInt32 = (1000 : Int32) := by decide
theorem ks_1439 : (Int16.ofInt (1439)).toInt32 = (1439 : Int32) := by decide
theorem ki_5 : Int32.ofInt (5) = (5 : Int32) := by decide
theorem ki_2 : Int32.ofInt (2) = (2 : Int32) := by decide
theorem lf_X0_21 : LkF RX0 21 0 1 := ⟨RX0, TX0, 2, rfl, wsin_X0, Nat.le_of_ble_eq_true rfl, w_109⟩
theorem lf_X0_15 : LkF RX0 15 0 0 := ⟨RX0, TX0, 2, rfl, wsin_X0, Nat.le_of_ble_eq_true rfl, w_108⟩
theorem lp_X0_21 : LkP RX0 21 0 1 false .int := ⟨RX0, TX0, 2, tyX0, rfl, wsin_X0, Nat.le_of_ble_eq_true rfl, w_109, tyX0_ok, nmX0, rfl, by decide +kernel, fun h => Bool.noConfusion h⟩
theorem ki_m1 : Int32.ofInt (-1) = (-1 : Int32) := by decide
theorem lk_X0_25 : LkV RX0 25 m_X0_at 1 := ⟨(List.forall_mem_cons.mpr ⟨w_527, (List.forall_mem_cons.mpr ⟨w_515, (List.forall_mem_cons.mpr ⟨w_516, (List.forall_mem_cons.mpr ⟨w_64, (List.forall_mem_nil _)⟩)⟩)⟩)⟩), gy_X0_at⟩
theorem lk_X0_29 : LkV RX0 29 m_X0_add 1 := ⟨(List.forall_mem_cons.mpr ⟨w_646, (List.forall_mem_cons.mpr ⟨w_574, (List.forall_mem_cons.mpr ⟨w_575, (List.forall_mem_cons.mpr ⟨w_64, (List.forall_mem_nil _)⟩)⟩)⟩)⟩), gy_X0_add⟩
theorem lf_X1_16 : LkF RX1 16 1 0 := ⟨RX1, TX1, 4, rfl, wsin_X1, Nat.le_of_ble_eq_true rfl, w_116⟩
theorem lk_X1_30 : LkV RX1 30 m_X0_count 0 := ⟨(List.forall_mem_cons.mpr ⟨w_510, (List.forall_mem_cons.mpr ⟨w_511, (List.forall_mem_cons.mpr ⟨w_512, (List.forall_mem_cons.mpr ⟨w_64, (List.forall_mem_nil _)⟩)⟩)⟩)⟩), gy_X0_count⟩
theorem lk_X1_34 : LkV RX1 34 m_X0_isFull 0 := ⟨(List.forall_mem_cons.mpr ⟨w_565, (List.forall_mem_cons.mpr ⟨w_566, (List.forall_mem_cons.mpr ⟨w_567, (List.forall_mem_cons.mpr ⟨w_64, (List.forall_mem_nil _)⟩)⟩)⟩)⟩), gy_X0_isFull⟩
theorem lk_X1_38 : LkV RX1 38 m_X0_add 1 := ⟨(List.forall_mem_cons.mpr ⟨w_573, (List.forall_mem_cons.mpr ⟨w_574, (List.forall_mem_cons.mpr ⟨w_575, (List.forall_mem_cons.mpr ⟨w_64, (List.forall_mem_nil _)⟩)⟩)⟩)⟩), gy_X0_add⟩
theorem lf_X1_20 : LkF RX1 20 1 1 := ⟨RX1, TX1, 4, rfl, wsin_X1, Nat.le_of_ble_eq_true rfl, w_117⟩
theorem lf_X1_23 : LkF RX1 23 1 2 := ⟨RX1, TX1, 4, rfl, wsin_X1, Nat.le_of_ble_eq_true rfl, w_118⟩
theorem lk_X1_41 : LkS RX1 41 m_J9_max_7cf53 2 := ⟨(List.forall_mem_cons.mpr ⟨w_437, (List.forall_mem_cons.mpr ⟨w_106, (List.forall_mem_cons.mpr ⟨w_65, (List.forall_mem_nil _)⟩)⟩)⟩), gy_J9_max_7cf53⟩
theorem lf_X1_26 : LkF RX1 26 1 3 := ⟨RX1, TX1, 4, rfl, wsin_X1, Nat.le_of_ble_eq_true rfl, w_119⟩
theorem kn_180 : Int32.ofNat 180 = (180 : Int32) := by decide
theorem lk_X1_47 : LkV RX1 47 m_X0_at 1 := ⟨(List.forall_mem_cons.mpr ⟨w_514, (List.forall_mem_cons.mpr ⟨w_515, (List.forall_mem_cons.mpr ⟨w_516, (List.forall_mem_cons.mpr ⟨w_64, (List.forall_mem_nil _)⟩)⟩)⟩)⟩), gy_X0_at⟩
theorem ks_150 : (Int16.ofInt (150)).toInt32 = (150 : Int32) := by decide
theorem ki_4 : Int32.ofInt (4) = (4 : Int32) := by decide
theorem kd_4 : ¬ (4 : Int32) = 0 := by decide
theorem lk_X1_51 : LkV RX1 51 m_X1_lineAt 1 := ⟨(List.forall_mem_cons.mpr ⟨w_433, (List.forall_mem_cons.mpr ⟨w_434, (List.forall_mem_cons.mpr ⟨w_435, (List.forall_mem_cons.mpr ⟨w_63, (List.forall_mem_nil _)⟩)⟩)⟩)⟩), gy_X1_lineAt⟩
theorem lk_X1_54 : LkV RX1 54 m_X1_count 0 := ⟨(List.forall_mem_cons.mpr ⟨w_506, (List.forall_mem_cons.mpr ⟨w_507, (List.forall_mem_cons.mpr ⟨w_508, (List.forall_mem_cons.mpr ⟨w_63, (List.forall_mem_nil _)⟩)⟩)⟩)⟩), gy_X1_count⟩
theorem lk_X1_55 : LkSN RX1 55 m_X8_isIn 3 "MoonOverTheHill" := ⟨⟨by decide +kernel, (List.forall_mem_cons.mpr ⟨w_281, (List.forall_mem_cons.mpr ⟨w_61, (List.forall_mem_nil _)⟩)⟩)⟩, gy_X8_isIn⟩
theorem lk_X1_59 : LkV RX1 59 m_X0_empty 0 := ⟨(List.forall_mem_cons.mpr ⟨w_598, (List.forall_mem_cons.mpr ⟨w_599, (List.forall_mem_cons.mpr ⟨w_600, (List.forall_mem_cons.mpr ⟨w_64, (List.forall_mem_nil _)⟩)⟩)⟩)⟩), gy_X0_empty⟩
theorem lk_X1_62 : LkS RX1 62 m_J7_fill_53178 2 := ⟨(List.forall_mem_cons.mpr ⟨w_602, (List.forall_mem_cons.mpr ⟨w_603, (List.forall_mem_cons.mpr ⟨w_71, (List.forall_mem_nil _)⟩)⟩)⟩), gy_J7_fill_53178⟩
theorem lk_X1_68 : LkV RX1 68 m_X0_become 1 := ⟨(List.forall_mem_cons.mpr ⟨w_642, (List.forall_mem_cons.mpr ⟨w_643, (List.forall_mem_cons.mpr ⟨w_644, (List.forall_mem_cons.mpr ⟨w_64, (List.forall_mem_nil _)⟩)⟩)⟩)⟩), gy_X0_become⟩
theorem ks_180 : (Int16.ofInt (180)).toInt32 = (180 : Int32) := by decide
theorem la_X1_72 : LkA RX1 72 := ⟨w_647, w_346, w_345, w_72⟩
theorem lo_X4_3 : LkO RX4 3 := ⟨w_459, w_85, w_86⟩
theorem lp_X4_9 : LkP RX4 9 4 0 true .int := ⟨RX4, TX4, 5, tyX4, rfl, wsin_X4, Nat.le_of_ble_eq_true rfl, w_460, tyX4_ok, nmX4, rfl, by decide +kernel, fun _ => rfl⟩
theorem lp_X4_15 : LkP RX4 15 4 1 true .int := ⟨RX4, TX4, 5, tyX4, rfl, wsin_X4, Nat.le_of_ble_eq_true rfl, w_462, tyX4_ok, nmX4, rfl, by decide +kernel, fun _ => rfl⟩
theorem lp_X4_18 : LkP RX4 18 4 2 true .int := ⟨RX4, TX4, 5, tyX4, rfl, wsin_X4, Nat.le_of_ble_eq_true rfl, w_464, tyX4_ok, nmX4, rfl, by decide +kernel, fun _ => rfl⟩
theorem lp_X4_21 : LkP RX4 21 4 3 true .int := ⟨RX4, TX4, 5, tyX4, rfl, wsin_X4, Nat.le_of_ble_eq_true rfl, w_466, tyX4_ok, nmX4, rfl, by decide +kernel, fun _ => rfl⟩
theorem lp_X4_24 : LkP RX4 24 4 4 true (.object "MoonOverTheHill$Shelf") := ⟨RX4, TX4, 5, tyX4, rfl, wsin_X4, Nat.le_of_ble_eq_true rfl, w_468, tyX4_ok, nmX4, rfl, by decide +kernel, fun _ => rfl⟩
theorem lk_X4_28 : LkI RX4 28 m_X4_init 5 := ⟨(List.forall_mem_cons.mpr ⟨w_456, (List.forall_mem_cons.mpr ⟨w_457, (List.forall_mem_cons.mpr ⟨w_73, (List.forall_mem_nil _)⟩)⟩)⟩), gy_X4_init, rfl, rfl⟩
theorem kb_11 : (Int8.ofInt (11)).toInt32 = (11 : Int32) := by decide
theorem lf_X5_15 : LkF RX5 15 5 1 := ⟨RX5, TX5, 4, rfl, wsin_X5, Nat.le_of_ble_eq_true rfl, w_231⟩
theorem kb_10 : (Int8.ofInt (10)).toInt32 = (10 : Int32) := by decide
theorem lk_X5_19 : LkV RX5 19 m_X5_isRow 0 := ⟨(List.forall_mem_cons.mpr ⟨w_334, (List.forall_mem_cons.mpr ⟨w_335, (List.forall_mem_cons.mpr ⟨w_336, (List.forall_mem_cons.mpr ⟨w_69, (List.forall_mem_nil _)⟩)⟩)⟩)⟩), gy_X5_isRow⟩
theorem lf_X5_23 : LkF RX5 23 5 3 := ⟨RX5, TX5, 4, rfl, wsin_X5, Nat.le_of_ble_eq_true rfl, w_233⟩
theorem lk_X5_26 : LkV RX5 26 m_X5_isEvening 0 := ⟨(List.forall_mem_cons.mpr ⟨w_305, (List.forall_mem_cons.mpr ⟨w_306, (List.forall_mem_cons.mpr ⟨w_307, (List.forall_mem_cons.mpr ⟨w_69, (List.forall_mem_nil _)⟩)⟩)⟩)⟩), gy_X5_isEvening⟩
theorem lk_X5_29 : LkV RX5 29 m_X5_isBare 0 := ⟨(List.forall_mem_cons.mpr ⟨w_309, (List.forall_mem_cons.mpr ⟨w_310, (List.forall_mem_cons.mpr ⟨w_311, (List.forall_mem_cons.mpr ⟨w_69, (List.forall_mem_nil _)⟩)⟩)⟩)⟩), gy_X5_isBare⟩
theorem lf_X5_32 : LkF RX5 32 5 2 := ⟨RX5, TX5, 4, rfl, wsin_X5, Nat.le_of_ble_eq_true rfl, w_232⟩
theorem kb_m2 : (Int8.ofInt (-2)).toInt32 = (-2 : Int32) := by decide
theorem kb_m4 : (Int8.ofInt (-4)).toInt32 = (-4 : Int32) := by decide
theorem kb_m3 : (Int8.ofInt (-3)).toInt32 = (-3 : Int32) := by decide
theorem lp_X5_15 : LkP RX5 15 5 1 false .int := ⟨RX5, TX5, 4, tyX5, rfl, wsin_X5, Nat.le_of_ble_eq_true rfl, w_231, tyX5_ok, nmX5, rfl, by decide +kernel, fun h => Bool.noConfusion h⟩
theorem lf_X5_11 : LkF RX5 11 5 0 := ⟨RX5, TX5, 4, rfl, wsin_X5, Nat.le_of_ble_eq_true rfl, w_230⟩
theorem kn_40 : Int32.ofNat 40 = (40 : Int32) := by decide
theorem lk_X5_35 : LkS RX5 35 m_J9_min_7cf53 2 := ⟨(List.forall_mem_cons.mpr ⟨w_291, (List.forall_mem_cons.mpr ⟨w_292, (List.forall_mem_cons.mpr ⟨w_65, (List.forall_mem_nil _)⟩)⟩)⟩), gy_J9_min_7cf53⟩
theorem lp_X5_32 : LkP RX5 32 5 2 false .int := ⟨RX5, TX5, 4, tyX5, rfl, wsin_X5, Nat.le_of_ble_eq_true rfl, w_232, tyX5_ok, nmX5, rfl, by decide +kernel, fun h => Bool.noConfusion h⟩
theorem kl_0 : Int64.ofNat (((0 : Fin 2) : Fin 2) : Nat) = (0 : Int64) := by decide
theorem lk_X5_41 : LkS RX5 41 m_J7_fill_d0a16 2 := ⟨(List.forall_mem_cons.mpr ⟨w_294, (List.forall_mem_cons.mpr ⟨w_295, (List.forall_mem_cons.mpr ⟨w_71, (List.forall_mem_nil _)⟩)⟩)⟩), gy_J7_fill_d0a16⟩
theorem lp_X5_23 : LkP RX5 23 5 3 false .int := ⟨RX5, TX5, 4, tyX5, rfl, wsin_X5, Nat.le_of_ble_eq_true rfl, w_233, tyX5_ok, nmX5, rfl, by decide +kernel, fun h => Bool.noConfusion h⟩
theorem kl_1 : Int64.ofNat (((1 : Fin 2) : Fin 2) : Nat) = (1 : Int64) := by decide
theorem tsv_0_5 : ∀ i, i < ([(0 : Int32), (1 : Int32), (2 : Int32), (3 : Int32), (4 : Int32)] : List Int32).length → (([(0 : Int32), (1 : Int32), (2 : Int32), (3 : Int32), (4 : Int32)] : List Int32).getD i 0).toInt = (0 : Int) + i := by decide +kernel
theorem lk_X5_47 : LkV RX5 47 m_X5_cut 1 := ⟨(List.forall_mem_cons.mpr ⟨w_321, (List.forall_mem_cons.mpr ⟨w_323, (List.forall_mem_cons.mpr ⟨w_2, (List.forall_mem_cons.mpr ⟨w_69, (List.forall_mem_nil _)⟩)⟩)⟩)⟩), gy_X5_cut⟩
theorem lk_X5_51 : LkV RX5 51 m_X5_hasPlaces 2 := ⟨(List.forall_mem_cons.mpr ⟨w_343, (List.forall_mem_cons.mpr ⟨w_314, (List.forall_mem_cons.mpr ⟨w_315, (List.forall_mem_cons.mpr ⟨w_69, (List.forall_mem_nil _)⟩)⟩)⟩)⟩), gy_X5_hasPlaces⟩
theorem la_X5_55 : LkA RX5 55 := ⟨w_344, w_346, w_345, w_72⟩
theorem lk_X5_61 : LkV RX5 61 m_X5_at 1 := ⟨(List.forall_mem_cons.mpr ⟨w_544, (List.forall_mem_cons.mpr ⟨w_353, (List.forall_mem_cons.mpr ⟨w_354, (List.forall_mem_cons.mpr ⟨w_69, (List.forall_mem_nil _)⟩)⟩)⟩)⟩), gy_X5_at⟩
theorem kL_X5_65 : Cond.constantLong RX5 65 (29 : Int64) ∈ ALL := w_1009
theorem kL_X5_67 : Cond.constantLong RX5 67 (30 : Int64) ∈ ALL := w_1010
theorem lk_X5_69 : LkV RX5 69 m_X5_isMonthCount 1 := ⟨(List.forall_mem_cons.mpr ⟨w_1005, (List.forall_mem_cons.mpr ⟨w_1007, (List.forall_mem_cons.mpr ⟨w_16, (List.forall_mem_cons.mpr ⟨w_69, (List.forall_mem_nil _)⟩)⟩)⟩)⟩), gy_X5_isMonthCount⟩
theorem lk_X5_73 : LkS RX5 73 m_J9_max_7cf53 2 := ⟨(List.forall_mem_cons.mpr ⟨w_1015, (List.forall_mem_cons.mpr ⟨w_106, (List.forall_mem_cons.mpr ⟨w_65, (List.forall_mem_nil _)⟩)⟩)⟩), gy_J9_max_7cf53⟩
theorem kL_X5_80 : Cond.constantLong RX5 80 (88 : Int64) ∈ ALL := w_1023
theorem kL_X5_84 : Cond.constantLong RX5 84 (22 : Int64) ∈ ALL := w_1025
theorem kL_X5_82 : Cond.constantLong RX5 82 (89 : Int64) ∈ ALL := w_1024
theorem lk_X5_76 : LkS RX5 76 m_X5_isThreeMonths 3 := ⟨(List.forall_mem_cons.mpr ⟨w_1020, (List.forall_mem_cons.mpr ⟨w_1021, (List.forall_mem_cons.mpr ⟨w_69, (List.forall_mem_nil _)⟩)⟩)⟩), gy_X5_isThreeMonths⟩
theorem lf_X6_37 : LkF RX6 37 6 0 := ⟨RX6, TX6, 10, rfl, wsin_X6, Nat.le_of_ble_eq_true rfl, w_131⟩
theorem lf_X6_40 : LkF RX6 40 6 1 := ⟨RX6, TX6, 10, rfl, wsin_X6, Nat.le_of_ble_eq_true rfl, w_134⟩
theorem lf_X6_43 : LkF RX6 43 6 2 := ⟨RX6, TX6, 10, rfl, wsin_X6, Nat.le_of_ble_eq_true rfl, w_136⟩
theorem lf_X6_9 : LkF RX6 9 6 3 := ⟨RX6, TX6, 10, rfl, wsin_X6, Nat.le_of_ble_eq_true rfl, w_138⟩
theorem tsv_0_4 : ∀ i, i < ([(0 : Int32), (1 : Int32), (2 : Int32), (3 : Int32)] : List Int32).length → (([(0 : Int32), (1 : Int32), (2 : Int32), (3 : Int32)] : List Int32).getD i 0).toInt = (0 : Int) + i := by decide +kernel
theorem lp_X6_37 : LkP RX6 37 6 0 false .int := ⟨RX6, TX6, 10, tyX6, rfl, wsin_X6, Nat.le_of_ble_eq_true rfl, w_131, tyX6_ok, nmX6, rfl, by decide +kernel, fun h => Bool.noConfusion h⟩
theorem lp_X6_40 : LkP RX6 40 6 1 false .int := ⟨RX6, TX6, 10, tyX6, rfl, wsin_X6, Nat.le_of_ble_eq_true rfl, w_134, tyX6_ok, nmX6, rfl, by decide +kernel, fun h => Bool.noConfusion h⟩
theorem lp_X6_43 : LkP RX6 43 6 2 false .int := ⟨RX6, TX6, 10, tyX6, rfl, wsin_X6, Nat.le_of_ble_eq_true rfl, w_136, tyX6_ok, nmX6, rfl, by decide +kernel, fun h => Bool.noConfusion h⟩
theorem lp_X6_9 : LkP RX6 9 6 3 false .int := ⟨RX6, TX6, 10, tyX6, rfl, wsin_X6, Nat.le_of_ble_eq_true rfl, w_138, tyX6_ok, nmX6, rfl, by decide +kernel, fun h => Bool.noConfusion h⟩
theorem lf_X6_34 : LkF RX6 34 6 9 := ⟨RX6, TX6, 10, rfl, wsin_X6, Nat.le_of_ble_eq_true rfl, w_155⟩
theorem ks_12345 : (Int16.ofInt (12345)).toInt32 = (12345 : Int32) := by decide
theorem lp_X6_34 : LkP RX6 34 6 9 false .int := ⟨RX6, TX6, 10, tyX6, rfl, wsin_X6, Nat.le_of_ble_eq_true rfl, w_155, tyX6_ok, nmX6, rfl, by decide +kernel, fun h => Bool.noConfusion h⟩
theorem kb_16 : (Int8.ofInt (16)).toInt32 = (16 : Int32) := by decide
theorem lf_X6_18 : LkF RX6 18 6 4 := ⟨RX6, TX6, 10, rfl, wsin_X6, Nat.le_of_ble_eq_true rfl, w_140⟩
theorem lk_X6_47 : LkV RX6 47 m_X1_become 1 := ⟨(List.forall_mem_cons.mpr ⟨w_638, (List.forall_mem_cons.mpr ⟨w_639, (List.forall_mem_cons.mpr ⟨w_640, (List.forall_mem_cons.mpr ⟨w_63, (List.forall_mem_nil _)⟩)⟩)⟩)⟩), gy_X1_become⟩
theorem lf_X6_27 : LkF RX6 27 6 5 := ⟨RX6, TX6, 10, rfl, wsin_X6, Nat.le_of_ble_eq_true rfl, w_144⟩
theorem lk_X6_51 : LkV RX6 51 m_X0_become 1 := ⟨(List.forall_mem_cons.mpr ⟨w_648, (List.forall_mem_cons.mpr ⟨w_643, (List.forall_mem_cons.mpr ⟨w_644, (List.forall_mem_cons.mpr ⟨w_64, (List.forall_mem_nil _)⟩)⟩)⟩)⟩), gy_X0_become⟩
theorem lf_X6_31 : LkF RX6 31 6 6 := ⟨RX6, TX6, 10, rfl, wsin_X6, Nat.le_of_ble_eq_true rfl, w_147⟩
theorem lf_X6_54 : LkF RX6 54 6 7 := ⟨RX6, TX6, 10, rfl, wsin_X6, Nat.le_of_ble_eq_true rfl, w_151⟩
theorem lp_X6_54 : LkP RX6 54 6 7 false .int := ⟨RX6, TX6, 10, tyX6, rfl, wsin_X6, Nat.le_of_ble_eq_true rfl, w_151, tyX6_ok, nmX6, rfl, by decide +kernel, fun h => Bool.noConfusion h⟩
theorem lf_X6_57 : LkF RX6 57 6 8 := ⟨RX6, TX6, 10, rfl, wsin_X6, Nat.le_of_ble_eq_true rfl, w_153⟩
theorem lp_X6_57 : LkP RX6 57 6 8 false .int := ⟨RX6, TX6, 10, tyX6, rfl, wsin_X6, Nat.le_of_ble_eq_true rfl, w_153, tyX6_ok, nmX6, rfl, by decide +kernel, fun h => Bool.noConfusion h⟩
theorem kb_8 : (Int8.ofInt (8)).toInt32 = (8 : Int32) := by decide
theorem kb_63 : (Int8.ofInt (63)).toInt32 = (63 : Int32) := by decide
theorem lk_X2_15 : LkS RX2 15 m_J9_min_7cf53 2 := ⟨(List.forall_mem_cons.mpr ⟨w_445, (List.forall_mem_cons.mpr ⟨w_292, (List.forall_mem_cons.mpr ⟨w_65, (List.forall_mem_nil _)⟩)⟩)⟩), gy_J9_min_7cf53⟩
theorem kb_100 : (Int8.ofInt (100)).toInt32 = (100 : Int32) := by decide
theorem lf_X2_9 : LkF RX2 9 2 0 := ⟨RX2, TX2, 1, rfl, wsin_X2, Nat.le_of_ble_eq_true rfl, w_184⟩
theorem lf_X2_21 : LkF RX2 21 6 0 := ⟨RX6, TX6, 10, rfl, wsin_X6, Nat.le_of_ble_eq_true rfl, w_132⟩
theorem ks_2953 : (Int16.ofInt (2953)).toInt32 = (2953 : Int32) := by decide
theorem kd_2953 : ¬ (2953 : Int32) = 0 := by decide
theorem lk_X2_27 : LkV RX2 27 m_X2_ageOf 1 := ⟨(List.forall_mem_cons.mpr ⟨w_397, (List.forall_mem_cons.mpr ⟨w_398, (List.forall_mem_cons.mpr ⟨w_399, (List.forall_mem_cons.mpr ⟨w_66, (List.forall_mem_nil _)⟩)⟩)⟩)⟩), gy_X2_ageOf⟩
theorem ks_1476 : (Int16.ofInt (1476)).toInt32 = (1476 : Int32) := by decide
theorem ks_1477 : (Int16.ofInt (1477)).toInt32 = (1477 : Int32) := by decide
theorem kd_1477 : ¬ (1477 : Int32) = 0 := by decide
theorem kd_1476 : ¬ (1476 : Int32) = 0 := by decide
theorem lf_X2_31 : LkF RX2 31 6 2 := ⟨RX6, TX6, 10, rfl, wsin_X6, Nat.le_of_ble_eq_true rfl, w_137⟩
theorem ks_6793 : (Int16.ofInt (6793)).toInt32 = (6793 : Int32) := by decide
theorem kd_6793 : ¬ (6793 : Int32) = 0 := by decide
theorem ks_3396 : (Int16.ofInt (3396)).toInt32 = (3396 : Int32) := by decide
theorem kb_18 : (Int8.ofInt (18)).toInt32 = (18 : Int32) := by decide
theorem ks_3397 : (Int16.ofInt (3397)).toInt32 = (3397 : Int32) := by decide
theorem kd_3397 : ¬ (3397 : Int32) = 0 := by decide
theorem kd_3396 : ¬ (3396 : Int32) = 0 := by decide
theorem lk_X2_34 : LkV RX2 34 m_X2_outOf 1 := ⟨(List.forall_mem_cons.mpr ⟨w_416, (List.forall_mem_cons.mpr ⟨w_417, (List.forall_mem_cons.mpr ⟨w_418, (List.forall_mem_cons.mpr ⟨w_66, (List.forall_mem_nil _)⟩)⟩)⟩)⟩), gy_X2_outOf⟩
theorem lf_X2_37 : LkF RX2 37 6 1 := ⟨RX6, TX6, 10, rfl, wsin_X6, Nat.le_of_ble_eq_true rfl, w_135⟩
theorem ks_2732 : (Int16.ofInt (2732)).toInt32 = (2732 : Int32) := by decide
theorem kd_2732 : ¬ (2732 : Int32) = 0 := by decide
theorem ks_683 : (Int16.ofInt (683)).toInt32 = (683 : Int32) := by decide
theorem ks_2049 : (Int16.ofInt (2049)).toInt32 = (2049 : Int32) := by decide
theorem kd_683 : ¬ (683 : Int32) = 0 := by decide
theorem ks_1366 : (Int16.ofInt (1366)).toInt32 = (1366 : Int32) := by decide
theorem ks_360 : (Int16.ofInt (360)).toInt32 = (360 : Int32) := by decide
theorem ks_1440 : (Int16.ofInt (1440)).toInt32 = (1440 : Int32) := by decide
theorem ki_3 : Int32.ofInt (3) = (3 : Int32) := by decide
theorem kd_1440 : ¬ (1440 : Int32) = 0 := by decide
theorem lk_X2_40 : LkS RX2 40 m_J9_floorMod_7cf53 2 := ⟨(List.forall_mem_cons.mpr ⟨w_423, (List.forall_mem_cons.mpr ⟨w_424, (List.forall_mem_cons.mpr ⟨w_65, (List.forall_mem_nil _)⟩)⟩)⟩), gy_J9_floorMod_7cf53⟩
theorem kb_90 : (Int8.ofInt (90)).toInt32 = (90 : Int32) := by decide
theorem lk_X2_43 : LkV RX2 43 m_X2_slantOf 1 := ⟨(List.forall_mem_cons.mpr ⟨w_412, (List.forall_mem_cons.mpr ⟨w_413, (List.forall_mem_cons.mpr ⟨w_414, (List.forall_mem_cons.mpr ⟨w_66, (List.forall_mem_nil _)⟩)⟩)⟩)⟩), gy_X2_slantOf⟩
theorem lk_X2_46 : LkS RX2 46 m_X2_riseBy 2 := ⟨(List.forall_mem_cons.mpr ⟨w_420, (List.forall_mem_cons.mpr ⟨w_421, (List.forall_mem_cons.mpr ⟨w_66, (List.forall_mem_nil _)⟩)⟩)⟩), gy_X2_riseBy⟩
theorem lk_X2_49 : LkS RX2 49 m_X2_wayBy 1 := ⟨(List.forall_mem_cons.mpr ⟨w_426, (List.forall_mem_cons.mpr ⟨w_427, (List.forall_mem_cons.mpr ⟨w_66, (List.forall_mem_nil _)⟩)⟩)⟩), gy_X2_wayBy⟩
theorem lf_X2_52 : LkF RX2 52 6 4 := ⟨RX6, TX6, 10, rfl, wsin_X6, Nat.le_of_ble_eq_true rfl, w_141⟩
theorem lk_X2_56 : LkV RX2 56 m_X2_wayOf 1 := ⟨(List.forall_mem_cons.mpr ⟨w_494, (List.forall_mem_cons.mpr ⟨w_495, (List.forall_mem_cons.mpr ⟨w_496, (List.forall_mem_cons.mpr ⟨w_66, (List.forall_mem_nil _)⟩)⟩)⟩)⟩), gy_X2_wayOf⟩
theorem lk_X2_59 : LkV RX2 59 m_X1_overFrom 1 := ⟨(List.forall_mem_cons.mpr ⟨w_429, (List.forall_mem_cons.mpr ⟨w_430, (List.forall_mem_cons.mpr ⟨w_431, (List.forall_mem_cons.mpr ⟨w_63, (List.forall_mem_nil _)⟩)⟩)⟩)⟩), gy_X1_overFrom⟩
theorem lk_X2_64 : LkV RX2 64 m_X2_upOf 1 := ⟨(List.forall_mem_cons.mpr ⟨w_408, (List.forall_mem_cons.mpr ⟨w_409, (List.forall_mem_cons.mpr ⟨w_410, (List.forall_mem_cons.mpr ⟨w_66, (List.forall_mem_nil _)⟩)⟩)⟩)⟩), gy_X2_upOf⟩
theorem lk_X2_67 : LkV RX2 67 m_X1_makerOf 1 := ⟨(List.forall_mem_cons.mpr ⟨w_502, (List.forall_mem_cons.mpr ⟨w_503, (List.forall_mem_cons.mpr ⟨w_504, (List.forall_mem_cons.mpr ⟨w_63, (List.forall_mem_nil _)⟩)⟩)⟩)⟩), gy_X1_makerOf⟩
theorem ks_600 : (Int16.ofInt (600)).toInt32 = (600 : Int32) := by decide
theorem lk_X2_70 : LkS RX2 70 m_J9_max_7cf53 2 := ⟨(List.forall_mem_cons.mpr ⟨w_446, (List.forall_mem_cons.mpr ⟨w_106, (List.forall_mem_cons.mpr ⟨w_65, (List.forall_mem_nil _)⟩)⟩)⟩), gy_J9_max_7cf53⟩
theorem lk_X2_73 : LkS RX2 73 m_X2_shinesFrom 3 := ⟨(List.forall_mem_cons.mpr ⟨w_442, (List.forall_mem_cons.mpr ⟨w_443, (List.forall_mem_cons.mpr ⟨w_66, (List.forall_mem_nil _)⟩)⟩)⟩), gy_X2_shinesFrom⟩
theorem lk_X2_77 : LkV RX2 77 m_X2_litOf 1 := ⟨(List.forall_mem_cons.mpr ⟨w_536, (List.forall_mem_cons.mpr ⟨w_537, (List.forall_mem_cons.mpr ⟨w_538, (List.forall_mem_cons.mpr ⟨w_66, (List.forall_mem_nil _)⟩)⟩)⟩)⟩), gy_X2_litOf⟩
theorem kd_100 : ¬ (100 : Int32) = 0 := by decide
theorem ks_1427 : (Int16.ofInt (1427)).toInt32 = (1427 : Int32) := by decide
theorem ks_1526 : (Int16.ofInt (1526)).toInt32 = (1526 : Int32) := by decide
theorem lk_X2_80 : LkSN RX2 80 m_X8_isIn 3 "MoonOverTheHill" := ⟨⟨by decide +kernel, (List.forall_mem_cons.mpr ⟨w_281, (List.forall_mem_cons.mpr ⟨w_61, (List.forall_mem_nil _)⟩)⟩)⟩, gy_X8_isIn⟩
theorem lk_X2_84 : LkS RX2 84 m_J9_abs_0f7a4 1 := ⟨(List.forall_mem_cons.mpr ⟨w_401, (List.forall_mem_cons.mpr ⟨w_402, (List.forall_mem_cons.mpr ⟨w_65, (List.forall_mem_nil _)⟩)⟩)⟩), gy_J9_abs_0f7a4⟩
theorem lk_X2_87 : LkV RX2 87 m_X2_laterOf 1 := ⟨(List.forall_mem_cons.mpr ⟨w_404, (List.forall_mem_cons.mpr ⟨w_405, (List.forall_mem_cons.mpr ⟨w_406, (List.forall_mem_cons.mpr ⟨w_66, (List.forall_mem_nil _)⟩)⟩)⟩)⟩), gy_X2_laterOf⟩
theorem kb_28 : (Int8.ofInt (28)).toInt32 = (28 : Int32) := by decide
theorem ks_1320 : (Int16.ofInt (1320)).toInt32 = (1320 : Int32) := by decide
theorem lk_X2_90 : LkV RX2 90 m_X2_shinesOf 3 := ⟨(List.forall_mem_cons.mpr ⟨w_438, (List.forall_mem_cons.mpr ⟨w_439, (List.forall_mem_cons.mpr ⟨w_440, (List.forall_mem_cons.mpr ⟨w_66, (List.forall_mem_nil _)⟩)⟩)⟩)⟩), gy_X2_shinesOf⟩
theorem tsv_1_5 : ∀ i, i < ([(1 : Int32), (2 : Int32), (3 : Int32), (4 : Int32), (5 : Int32)] : List Int32).length → (([(1 : Int32), (2 : Int32), (3 : Int32), (4 : Int32), (5 : Int32)] : List Int32).getD i 0).toInt = (1 : Int) + i := by decide +kernel
theorem kd_1366 : ¬ (1366 : Int32) = 0 := by decide
theorem kb_80 : (Int8.ofInt (80)).toInt32 = (80 : Int32) := by decide
theorem ks_1286 : (Int16.ofInt (1286)).toInt32 = (1286 : Int32) := by decide
theorem kb_6 : (Int8.ofInt (6)).toInt32 = (6 : Int32) := by decide
theorem lk_X2_162 : LkV RX2 162 m_X5_at 1 := ⟨(List.forall_mem_cons.mpr ⟨w_532, (List.forall_mem_cons.mpr ⟨w_353, (List.forall_mem_cons.mpr ⟨w_354, (List.forall_mem_cons.mpr ⟨w_69, (List.forall_mem_nil _)⟩)⟩)⟩)⟩), gy_X5_at⟩
theorem lk_X2_159 : LkS RX2 159 m_X2_minutesUp 2 := ⟨(List.forall_mem_cons.mpr ⟨w_533, (List.forall_mem_cons.mpr ⟨w_534, (List.forall_mem_cons.mpr ⟨w_66, (List.forall_mem_nil _)⟩)⟩)⟩), gy_X2_minutesUp⟩
theorem lk_X2_168 : LkV RX2 168 m_X5_isSpan 2 := ⟨(List.forall_mem_cons.mpr ⟨w_540, (List.forall_mem_cons.mpr ⟨w_541, (List.forall_mem_cons.mpr ⟨w_542, (List.forall_mem_cons.mpr ⟨w_69, (List.forall_mem_nil _)⟩)⟩)⟩)⟩), gy_X5_isSpan⟩
theorem kd_5 : ¬ (5 : Int32) = 0 := by decide
theorem lf_X2_93 : LkF RX2 93 4 0 := ⟨RX4, TX4, 5, rfl, wsin_X4, Nat.le_of_ble_eq_true rfl, w_461⟩
theorem lk_X2_98 : LkV RX2 98 m_X2_isFull 1 := ⟨(List.forall_mem_cons.mpr ⟨w_485, (List.forall_mem_cons.mpr ⟨w_486, (List.forall_mem_cons.mpr ⟨w_487, (List.forall_mem_cons.mpr ⟨w_66, (List.forall_mem_nil _)⟩)⟩)⟩)⟩), gy_X2_isFull⟩
theorem kb_30 : (Int8.ofInt (30)).toInt32 = (30 : Int32) := by decide
theorem lk_X2_102 : LkV RX2 102 m_X2_degreeOf 1 := ⟨(List.forall_mem_cons.mpr ⟨w_490, (List.forall_mem_cons.mpr ⟨w_491, (List.forall_mem_cons.mpr ⟨w_492, (List.forall_mem_cons.mpr ⟨w_66, (List.forall_mem_nil _)⟩)⟩)⟩)⟩), gy_X2_degreeOf⟩
theorem lf_X2_105 : LkF RX2 105 4 1 := ⟨RX4, TX4, 5, rfl, wsin_X4, Nat.le_of_ble_eq_true rfl, w_463⟩
theorem lf_X2_108 : LkF RX2 108 4 2 := ⟨RX4, TX4, 5, rfl, wsin_X4, Nat.le_of_ble_eq_true rfl, w_465⟩
theorem lf_X2_111 : LkF RX2 111 4 3 := ⟨RX4, TX4, 5, rfl, wsin_X4, Nat.le_of_ble_eq_true rfl, w_467⟩
theorem lk_X2_114 : LkV RX2 114 m_X2_behindOf 1 := ⟨(List.forall_mem_cons.mpr ⟨w_498, (List.forall_mem_cons.mpr ⟨w_499, (List.forall_mem_cons.mpr ⟨w_500, (List.forall_mem_cons.mpr ⟨w_66, (List.forall_mem_nil _)⟩)⟩)⟩)⟩), gy_X2_behindOf⟩
theorem lk_X2_117 : LkV RX2 117 m_X2_isAtNode 1 := ⟨(List.forall_mem_cons.mpr ⟨w_519, (List.forall_mem_cons.mpr ⟨w_520, (List.forall_mem_cons.mpr ⟨w_521, (List.forall_mem_cons.mpr ⟨w_66, (List.forall_mem_nil _)⟩)⟩)⟩)⟩), gy_X2_isAtNode⟩
theorem lf_X2_120 : LkF RX2 120 6 6 := ⟨RX6, TX6, 10, rfl, wsin_X6, Nat.le_of_ble_eq_true rfl, w_150⟩
theorem lk_X2_124 : LkV RX2 124 m_X0_contains 1 := ⟨(List.forall_mem_cons.mpr ⟨w_523, (List.forall_mem_cons.mpr ⟨w_524, (List.forall_mem_cons.mpr ⟨w_525, (List.forall_mem_cons.mpr ⟨w_64, (List.forall_mem_nil _)⟩)⟩)⟩)⟩), gy_X0_contains⟩
theorem lf_X2_129 : LkF RX2 129 4 4 := ⟨RX4, TX4, 5, rfl, wsin_X4, Nat.le_of_ble_eq_true rfl, w_469⟩
theorem lk_X2_133 : LkV RX2 133 m_X2_isAsPictured 2 := ⟨(List.forall_mem_cons.mpr ⟨w_528, (List.forall_mem_cons.mpr ⟨w_529, (List.forall_mem_cons.mpr ⟨w_530, (List.forall_mem_cons.mpr ⟨w_66, (List.forall_mem_nil _)⟩)⟩)⟩)⟩), gy_X2_isAsPictured⟩
theorem tsv_0_12 : ∀ i, i < ([(0 : Int32), (1 : Int32), (2 : Int32), (3 : Int32), (4 : Int32), (5 : Int32), (6 : Int32), (7 : Int32), (8 : Int32), (9 : Int32), (10 : Int32), (11 : Int32)] : List Int32).length → (([(0 : Int32), (1 : Int32), (2 : Int32), (3 : Int32), (4 : Int32), (5 : Int32), (6 : Int32), (7 : Int32), (8 : Int32), (9 : Int32), (10 : Int32), (11 : Int32)] : List Int32).getD i 0).toInt = (0 : Int) + i := by decide +kernel
theorem lk_X2_137 : LkS RX2 137 m_X2_lastOf 2 := ⟨(List.forall_mem_cons.mpr ⟨w_843, (List.forall_mem_cons.mpr ⟨w_844, (List.forall_mem_cons.mpr ⟨w_66, (List.forall_mem_nil _)⟩)⟩)⟩), gy_X2_lastOf⟩
theorem lk_X2_140 : LkV RX2 140 m_X2_fits 2 := ⟨(List.forall_mem_cons.mpr ⟨w_846, (List.forall_mem_cons.mpr ⟨w_482, (List.forall_mem_cons.mpr ⟨w_483, (List.forall_mem_cons.mpr ⟨w_66, (List.forall_mem_nil _)⟩)⟩)⟩)⟩), gy_X2_fits⟩
theorem lk_X2_147 : LkV RX2 147 m_X2_overOf 1 := ⟨(List.forall_mem_cons.mpr ⟨w_877, (List.forall_mem_cons.mpr ⟨w_794, (List.forall_mem_cons.mpr ⟨w_795, (List.forall_mem_cons.mpr ⟨w_66, (List.forall_mem_nil _)⟩)⟩)⟩)⟩), gy_X2_overOf⟩
theorem ks_1200 : (Int16.ofInt (1200)).toInt32 = (1200 : Int32) := by decide
theorem lk_X2_150 : LkV RX2 150 m_X2_lightOf 3 := ⟨(List.forall_mem_cons.mpr ⟨w_878, (List.forall_mem_cons.mpr ⟨w_832, (List.forall_mem_cons.mpr ⟨w_833, (List.forall_mem_cons.mpr ⟨w_66, (List.forall_mem_nil _)⟩)⟩)⟩)⟩), gy_X2_lightOf⟩
theorem lk_X2_144 : LkV RX2 144 m_X2_meritOf 2 := ⟨(List.forall_mem_cons.mpr ⟨w_873, (List.forall_mem_cons.mpr ⟨w_874, (List.forall_mem_cons.mpr ⟨w_875, (List.forall_mem_cons.mpr ⟨w_66, (List.forall_mem_nil _)⟩)⟩)⟩)⟩), gy_X2_meritOf⟩
theorem lk_X2_153 : LkS RX2 153 m_J9_floorDiv_7cf53 2 := ⟨(List.forall_mem_cons.mpr ⟨w_926, (List.forall_mem_cons.mpr ⟨w_927, (List.forall_mem_cons.mpr ⟨w_65, (List.forall_mem_nil _)⟩)⟩)⟩), gy_J9_floorDiv_7cf53⟩
theorem lk_X2_156 : LkV RX2 156 m_X2_riseOf 1 := ⟨(List.forall_mem_cons.mpr ⟨w_941, (List.forall_mem_cons.mpr ⟨w_789, (List.forall_mem_cons.mpr ⟨w_790, (List.forall_mem_cons.mpr ⟨w_66, (List.forall_mem_nil _)⟩)⟩)⟩)⟩), gy_X2_riseOf⟩
theorem kL_X2_172 : Cond.constantLong RX2 172 (9999 : Int64) ∈ ALL := w_971
theorem ks_400 : (Int16.ofInt (400)).toInt32 = (400 : Int32) := by decide
theorem ks_720 : (Int16.ofInt (720)).toInt32 = (720 : Int32) := by decide
theorem kd_720 : ¬ (720 : Int32) = 0 := by decide
theorem lk_X2_174 : LkV RX2 174 m_X2_highWaterOf 1 := ⟨(List.forall_mem_cons.mpr ⟨w_988, (List.forall_mem_cons.mpr ⟨w_989, (List.forall_mem_cons.mpr ⟨w_990, (List.forall_mem_cons.mpr ⟨w_66, (List.forall_mem_nil _)⟩)⟩)⟩)⟩), gy_X2_highWaterOf⟩
theorem kb_50 : (Int8.ofInt (50)).toInt32 = (50 : Int32) := by decide
theorem kd_180 : ¬ (180 : Int32) = 0 := by decide
theorem lf_X3_9 : LkF RX3 9 3 0 := ⟨RX3, TX3, 1, rfl, wsin_X3, Nat.le_of_ble_eq_true rfl, w_219⟩
theorem lk_X3_15 : LkS RX3 15 m_J7_fill_53178 2 := ⟨(List.forall_mem_cons.mpr ⟨w_1034, (List.forall_mem_cons.mpr ⟨w_603, (List.forall_mem_cons.mpr ⟨w_71, (List.forall_mem_nil _)⟩)⟩)⟩), gy_J7_fill_53178⟩
theorem lk_X3_21 : LkS RX3 21 m_X2_lastOf 2 := ⟨(List.forall_mem_cons.mpr ⟨w_1035, (List.forall_mem_cons.mpr ⟨w_844, (List.forall_mem_cons.mpr ⟨w_66, (List.forall_mem_nil _)⟩)⟩)⟩), gy_X2_lastOf⟩
theorem lk_X3_27 : LkV RX3 27 m_X2_degreeOf 1 := ⟨(List.forall_mem_cons.mpr ⟨w_1036, (List.forall_mem_cons.mpr ⟨w_491, (List.forall_mem_cons.mpr ⟨w_492, (List.forall_mem_cons.mpr ⟨w_66, (List.forall_mem_nil _)⟩)⟩)⟩)⟩), gy_X2_degreeOf⟩
theorem kn_181 : Int32.ofNat 181 = (181 : Int32) := by decide
theorem lk_X3_31 : LkS RX3 31 m_J9_max_7cf53 2 := ⟨(List.forall_mem_cons.mpr ⟨w_1045, (List.forall_mem_cons.mpr ⟨w_106, (List.forall_mem_cons.mpr ⟨w_65, (List.forall_mem_nil _)⟩)⟩)⟩), gy_J9_max_7cf53⟩
theorem lk_X3_36 : LkV RX3 36 m_X3_near 2 := ⟨(List.forall_mem_cons.mpr ⟨w_1054, (List.forall_mem_cons.mpr ⟨w_1042, (List.forall_mem_cons.mpr ⟨w_1043, (List.forall_mem_cons.mpr ⟨w_68, (List.forall_mem_nil _)⟩)⟩)⟩)⟩), gy_X3_near⟩
theorem lf_X9_37 : LkF RX9 37 9 9 := ⟨RX9, TX9, 29, rfl, wsin_X9, Nat.le_of_ble_eq_true rfl, w_1142⟩
theorem kL_X9_61 : Cond.constantLong RX9 61 (9999 : Int64) ∈ ALL := w_1266
theorem lk_X9_63 : LkS RX9 63 m_X9_in 3 := ⟨(List.forall_mem_cons.mpr ⟨w_1226, (List.forall_mem_cons.mpr ⟨w_1227, (List.forall_mem_cons.mpr ⟨w_70, (List.forall_mem_nil _)⟩)⟩)⟩), gy_X9_in⟩
theorem lk_X9_67 : LkS RX9 67 m_X9_isDay 1 := ⟨(List.forall_mem_cons.mpr ⟨w_1263, (List.forall_mem_cons.mpr ⟨w_1264, (List.forall_mem_cons.mpr ⟨w_70, (List.forall_mem_nil _)⟩)⟩)⟩), gy_X9_isDay⟩
theorem kL_X9_71 : Cond.constantLong RX9 71 (1000 : Int64) ∈ ALL := w_1509
theorem kL_X9_73 : Cond.constantLong RX9 73 (7 : Int64) ∈ ALL := w_1225
theorem lk_X9_79 : LkV RX9 79 m_X9_refuse 1 := ⟨(List.forall_mem_cons.mpr ⟨w_1231, (List.forall_mem_cons.mpr ⟨w_1233, (List.forall_mem_cons.mpr ⟨w_21, (List.forall_mem_cons.mpr ⟨w_70, (List.forall_mem_nil _)⟩)⟩)⟩)⟩), gy_X9_refuse⟩
theorem kL_X9_75 : Cond.constantLong RX9 75 (4 : Int64) ∈ ALL := w_1229
theorem kL_X9_77 : Cond.constantLong RX9 77 (40 : Int64) ∈ ALL := w_1230
theorem lf_X9_7 : LkF RX9 7 9 0 := ⟨RX9, TX9, 29, rfl, wsin_X9, Nat.le_of_ble_eq_true rfl, w_1133⟩
theorem lf_X9_13 : LkF RX9 13 9 1 := ⟨RX9, TX9, 29, rfl, wsin_X9, Nat.le_of_ble_eq_true rfl, w_1134⟩
theorem lf_X9_16 : LkF RX9 16 9 2 := ⟨RX9, TX9, 29, rfl, wsin_X9, Nat.le_of_ble_eq_true rfl, w_1135⟩
theorem kb_40 : (Int8.ofInt (40)).toInt32 = (40 : Int32) := by decide
theorem lf_X9_21 : LkF RX9 21 9 3 := ⟨RX9, TX9, 29, rfl, wsin_X9, Nat.le_of_ble_eq_true rfl, w_1136⟩
theorem lk_X9_83 : LkV RX9 83 m_X9_noRow 1 := ⟨(List.forall_mem_cons.mpr ⟨w_1239, (List.forall_mem_cons.mpr ⟨w_1241, (List.forall_mem_cons.mpr ⟨w_22, (List.forall_mem_cons.mpr ⟨w_70, (List.forall_mem_nil _)⟩)⟩)⟩)⟩), gy_X9_noRow⟩
theorem lk_X9_86 : LkS RX9 86 m_X9_fit 2 := ⟨(List.forall_mem_cons.mpr ⟨w_1243, (List.forall_mem_cons.mpr ⟨w_1244, (List.forall_mem_cons.mpr ⟨w_70, (List.forall_mem_nil _)⟩)⟩)⟩), gy_X9_fit⟩
theorem lf_X9_24 : LkF RX9 24 9 4 := ⟨RX9, TX9, 29, rfl, wsin_X9, Nat.le_of_ble_eq_true rfl, w_1137⟩
theorem lf_X9_28 : LkF RX9 28 9 5 := ⟨RX9, TX9, 29, rfl, wsin_X9, Nat.le_of_ble_eq_true rfl, w_1138⟩
theorem kL_X9_90 : Cond.constantLong RX9 90 (5 : Int64) ∈ ALL := w_1262
theorem lf_X9_31 : LkF RX9 31 9 6 := ⟨RX9, TX9, 29, rfl, wsin_X9, Nat.le_of_ble_eq_true rfl, w_1139⟩
theorem lf_X9_40 : LkF RX9 40 9 10 := ⟨RX9, TX9, 29, rfl, wsin_X9, Nat.le_of_ble_eq_true rfl, w_1143⟩
theorem lk_X9_102 : LkV RX9 102 m_X9_out 1 := ⟨(List.forall_mem_cons.mpr ⟨w_1294, (List.forall_mem_cons.mpr ⟨w_1296, (List.forall_mem_cons.mpr ⟨w_28, (List.forall_mem_cons.mpr ⟨w_70, (List.forall_mem_nil _)⟩)⟩)⟩)⟩), gy_X9_out⟩
theorem lk_X9_96 : LkV RX9 96 m_X9_age 1 := ⟨(List.forall_mem_cons.mpr ⟨w_1274, (List.forall_mem_cons.mpr ⟨w_1276, (List.forall_mem_cons.mpr ⟨w_23, (List.forall_mem_cons.mpr ⟨w_70, (List.forall_mem_nil _)⟩)⟩)⟩)⟩), gy_X9_age⟩
theorem lk_X9_227 : LkV RX9 227 m_X9_slantOf 1 := ⟨(List.forall_mem_cons.mpr ⟨w_1290, (List.forall_mem_cons.mpr ⟨w_1292, (List.forall_mem_cons.mpr ⟨w_27, (List.forall_mem_cons.mpr ⟨w_70, (List.forall_mem_nil _)⟩)⟩)⟩)⟩), gy_X9_slantOf⟩
theorem lk_X9_230 : LkS RX9 230 m_X9_mod 2 := ⟨(List.forall_mem_cons.mpr ⟨w_1298, (List.forall_mem_cons.mpr ⟨w_1299, (List.forall_mem_cons.mpr ⟨w_70, (List.forall_mem_nil _)⟩)⟩)⟩), gy_X9_mod⟩
theorem lf_X9_116 : LkF RX9 116 9 11 := ⟨RX9, TX9, 29, rfl, wsin_X9, Nat.le_of_ble_eq_true rfl, w_1144⟩
theorem lf_X9_45 : LkF RX9 45 9 12 := ⟨RX9, TX9, 29, rfl, wsin_X9, Nat.le_of_ble_eq_true rfl, w_1145⟩
theorem lk_X9_239 : LkV RX9 239 m_X9_way 1 := ⟨(List.forall_mem_cons.mpr ⟨w_1305, (List.forall_mem_cons.mpr ⟨w_1307, (List.forall_mem_cons.mpr ⟨w_30, (List.forall_mem_cons.mpr ⟨w_70, (List.forall_mem_nil _)⟩)⟩)⟩)⟩), gy_X9_way⟩
theorem lk_X9_236 : LkV RX9 236 m_X9_lineAt 1 := ⟨(List.forall_mem_cons.mpr ⟨w_1309, (List.forall_mem_cons.mpr ⟨w_1311, (List.forall_mem_cons.mpr ⟨w_31, (List.forall_mem_cons.mpr ⟨w_70, (List.forall_mem_nil _)⟩)⟩)⟩)⟩), gy_X9_lineAt⟩
theorem lk_X9_242 : LkV RX9 242 m_X9_rise 1 := ⟨(List.forall_mem_cons.mpr ⟨w_1286, (List.forall_mem_cons.mpr ⟨w_1288, (List.forall_mem_cons.mpr ⟨w_26, (List.forall_mem_cons.mpr ⟨w_70, (List.forall_mem_nil _)⟩)⟩)⟩)⟩), gy_X9_rise⟩
theorem lk_X9_245 : LkV RX9 245 m_X9_over 1 := ⟨(List.forall_mem_cons.mpr ⟨w_1301, (List.forall_mem_cons.mpr ⟨w_1303, (List.forall_mem_cons.mpr ⟨w_29, (List.forall_mem_cons.mpr ⟨w_70, (List.forall_mem_nil _)⟩)⟩)⟩)⟩), gy_X9_over⟩
theorem lk_X9_248 : LkV RX9 248 m_X9_up 1 := ⟨(List.forall_mem_cons.mpr ⟨w_1282, (List.forall_mem_cons.mpr ⟨w_1284, (List.forall_mem_cons.mpr ⟨w_25, (List.forall_mem_cons.mpr ⟨w_70, (List.forall_mem_nil _)⟩)⟩)⟩)⟩), gy_X9_up⟩
theorem lk_X9_99 : LkV RX9 99 m_X9_later 1 := ⟨(List.forall_mem_cons.mpr ⟨w_1278, (List.forall_mem_cons.mpr ⟨w_1280, (List.forall_mem_cons.mpr ⟨w_24, (List.forall_mem_cons.mpr ⟨w_70, (List.forall_mem_nil _)⟩)⟩)⟩)⟩), gy_X9_later⟩
theorem lk_X9_105 : LkV RX9 105 m_X9_shinesIn 3 := ⟨(List.forall_mem_cons.mpr ⟨w_1313, (List.forall_mem_cons.mpr ⟨w_1315, (List.forall_mem_cons.mpr ⟨w_32, (List.forall_mem_cons.mpr ⟨w_70, (List.forall_mem_nil _)⟩)⟩)⟩)⟩), gy_X9_shinesIn⟩
theorem lk_X9_92 : LkS RX9 92 m_X9_isUnder 2 := ⟨(List.forall_mem_cons.mpr ⟨w_1271, (List.forall_mem_cons.mpr ⟨w_1272, (List.forall_mem_cons.mpr ⟨w_70, (List.forall_mem_nil _)⟩)⟩)⟩), gy_X9_isUnder⟩
theorem kL_X9_263 : Cond.constantLong RX9 263 (1427 : Int64) ∈ ALL := w_1325
theorem kL_X9_265 : Cond.constantLong RX9 265 (1526 : Int64) ∈ ALL := w_1326
theorem kb_99 : (Int8.ofInt (99)).toInt32 = (99 : Int32) := by decide
theorem lk_X9_109 : LkV RX9 109 m_X9_isOf 2 := ⟨(List.forall_mem_cons.mpr ⟨w_1321, (List.forall_mem_cons.mpr ⟨w_1323, (List.forall_mem_cons.mpr ⟨w_33, (List.forall_mem_cons.mpr ⟨w_70, (List.forall_mem_nil _)⟩)⟩)⟩)⟩), gy_X9_isOf⟩
theorem kL_X9_112 : Cond.constantLong RX9 112 (3 : Int64) ∈ ALL := w_1331
theorem kL_X9_114 : Cond.constantLong RX9 114 (9 : Int64) ∈ ALL := w_1332
theorem lp_X9_116 : LkP RX9 116 9 11 false .int := ⟨RX9, TX9, 29, tyX9, rfl, wsin_X9, Nat.le_of_ble_eq_true rfl, w_1144, tyX9_ok, nmX9, rfl, by decide +kernel, fun h => Bool.noConfusion h⟩
theorem kL_X9_119 : Cond.constantLong RX9 119 (179 : Int64) ∈ ALL := w_1337
theorem kL_X9_121 : Cond.constantLong RX9 121 (30 : Int64) ∈ ALL := w_1338
theorem lk_X9_123 : LkV RX9 123 m_X9_addNotch 3 := ⟨(List.forall_mem_cons.mpr ⟨w_1339, (List.forall_mem_cons.mpr ⟨w_1341, (List.forall_mem_cons.mpr ⟨w_34, (List.forall_mem_cons.mpr ⟨w_70, (List.forall_mem_nil _)⟩)⟩)⟩)⟩), gy_X9_addNotch⟩
theorem kb_m6 : (Int8.ofInt (-6)).toInt32 = (-6 : Int32) := by decide
theorem lf_X9_127 : LkF RX9 127 9 13 := ⟨RX9, TX9, 29, rfl, wsin_X9, Nat.le_of_ble_eq_true rfl, w_1146⟩
theorem lf_X9_48 : LkF RX9 48 9 14 := ⟨RX9, TX9, 29, rfl, wsin_X9, Nat.le_of_ble_eq_true rfl, w_1147⟩
theorem lp_X9_127 : LkP RX9 127 9 13 false .int := ⟨RX9, TX9, 29, tyX9, rfl, wsin_X9, Nat.le_of_ble_eq_true rfl, w_1146, tyX9_ok, nmX9, rfl, by decide +kernel, fun h => Bool.noConfusion h⟩
theorem lf_X9_130 : LkF RX9 130 9 15 := ⟨RX9, TX9, 29, rfl, wsin_X9, Nat.le_of_ble_eq_true rfl, w_1148⟩
theorem lf_X9_51 : LkF RX9 51 9 16 := ⟨RX9, TX9, 29, rfl, wsin_X9, Nat.le_of_ble_eq_true rfl, w_1149⟩
theorem lk_X9_133 : LkV RX9 133 m_X9_isCloud 1 := ⟨(List.forall_mem_cons.mpr ⟨w_1351, (List.forall_mem_cons.mpr ⟨w_1353, (List.forall_mem_cons.mpr ⟨w_35, (List.forall_mem_cons.mpr ⟨w_70, (List.forall_mem_nil _)⟩)⟩)⟩)⟩), gy_X9_isCloud⟩
theorem lp_X9_130 : LkP RX9 130 9 15 false .int := ⟨RX9, TX9, 29, tyX9, rfl, wsin_X9, Nat.le_of_ble_eq_true rfl, w_1148, tyX9_ok, nmX9, rfl, by decide +kernel, fun h => Bool.noConfusion h⟩
theorem kb_m5 : (Int8.ofInt (-5)).toInt32 = (-5 : Int32) := by decide
theorem kL_X9_137 : Cond.constantLong RX9 137 (2 : Int64) ∈ ALL := w_1359
theorem kL_X9_139 : Cond.constantLong RX9 139 (255 : Int64) ∈ ALL := w_1364
theorem lf_X9_141 : LkF RX9 141 9 8 := ⟨RX9, TX9, 29, rfl, wsin_X9, Nat.le_of_ble_eq_true rfl, w_1141⟩
theorem ks_250 : (Int16.ofInt (250)).toInt32 = (250 : Int32) := by decide
theorem lf_X9_34 : LkF RX9 34 9 7 := ⟨RX9, TX9, 29, rfl, wsin_X9, Nat.le_of_ble_eq_true rfl, w_1140⟩
theorem lp_X9_141 : LkP RX9 141 9 8 false .int := ⟨RX9, TX9, 29, tyX9, rfl, wsin_X9, Nat.le_of_ble_eq_true rfl, w_1141, tyX9_ok, nmX9, rfl, by decide +kernel, fun h => Bool.noConfusion h⟩
theorem kb_97 : (Int8.ofInt (97)).toInt32 = (97 : Int32) := by decide
theorem kb_122 : (Int8.ofInt (122)).toInt32 = (122 : Int32) := by decide
theorem kb_48 : (Int8.ofInt (48)).toInt32 = (48 : Int32) := by decide
theorem kb_57 : (Int8.ofInt (57)).toInt32 = (57 : Int32) := by decide
theorem lf_X9_144 : LkF RX9 144 9 22 := ⟨RX9, TX9, 29, rfl, wsin_X9, Nat.le_of_ble_eq_true rfl, w_1155⟩
theorem lp_X9_147 : LkP RX9 147 9 24 false .int := ⟨RX9, TX9, 29, tyX9, rfl, wsin_X9, Nat.le_of_ble_eq_true rfl, w_1157, tyX9_ok, nmX9, rfl, by decide +kernel, fun h => Bool.noConfusion h⟩
theorem lp_X9_150 : LkP RX9 150 9 25 false .int := ⟨RX9, TX9, 29, tyX9, rfl, wsin_X9, Nat.le_of_ble_eq_true rfl, w_1158, tyX9_ok, nmX9, rfl, by decide +kernel, fun h => Bool.noConfusion h⟩
theorem lk_X9_156 : LkS RX9 156 m_X9_isLetter 1 := ⟨(List.forall_mem_cons.mpr ⟨w_1390, (List.forall_mem_cons.mpr ⟨w_1391, (List.forall_mem_cons.mpr ⟨w_70, (List.forall_mem_nil _)⟩)⟩)⟩), gy_X9_isLetter⟩
theorem lk_X9_159 : LkS RX9 159 m_X9_isDigit 1 := ⟨(List.forall_mem_cons.mpr ⟨w_1393, (List.forall_mem_cons.mpr ⟨w_1394, (List.forall_mem_cons.mpr ⟨w_70, (List.forall_mem_nil _)⟩)⟩)⟩), gy_X9_isDigit⟩
theorem kb_59 : (Int8.ofInt (59)).toInt32 = (59 : Int32) := by decide
theorem lp_X9_153 : LkP RX9 153 9 23 false .int := ⟨RX9, TX9, 29, tyX9, rfl, wsin_X9, Nat.le_of_ble_eq_true rfl, w_1156, tyX9_ok, nmX9, rfl, by decide +kernel, fun h => Bool.noConfusion h⟩
theorem lp_X9_144 : LkP RX9 144 9 22 false .int := ⟨RX9, TX9, 29, tyX9, rfl, wsin_X9, Nat.le_of_ble_eq_true rfl, w_1155, tyX9_ok, nmX9, rfl, by decide +kernel, fun h => Bool.noConfusion h⟩
theorem lf_X9_147 : LkF RX9 147 9 24 := ⟨RX9, TX9, 29, rfl, wsin_X9, Nat.le_of_ble_eq_true rfl, w_1157⟩
theorem lf_X9_150 : LkF RX9 150 9 25 := ⟨RX9, TX9, 29, rfl, wsin_X9, Nat.le_of_ble_eq_true rfl, w_1158⟩
theorem kb_32 : (Int8.ofInt (32)).toInt32 = (32 : Int32) := by decide
theorem lp_X9_163 : LkP RX9 163 9 26 false .int := ⟨RX9, TX9, 29, tyX9, rfl, wsin_X9, Nat.le_of_ble_eq_true rfl, w_1159, tyX9_ok, nmX9, rfl, by decide +kernel, fun h => Bool.noConfusion h⟩
theorem lf_X9_153 : LkF RX9 153 9 23 := ⟨RX9, TX9, 29, rfl, wsin_X9, Nat.le_of_ble_eq_true rfl, w_1156⟩
theorem lk_X9_166 : LkV RX9 166 m_J0_length_8abf5 0 := ⟨(List.forall_mem_cons.mpr ⟨w_1406, (List.forall_mem_cons.mpr ⟨w_675, (List.forall_mem_cons.mpr ⟨w_676, (List.forall_mem_cons.mpr ⟨w_74, (List.forall_mem_nil _)⟩)⟩)⟩)⟩), gy_J0_length_8abf5⟩
theorem lk_X9_172 : LkV RX9 172 m_J0_charAt_5068e 1 := ⟨(List.forall_mem_cons.mpr ⟨w_1407, (List.forall_mem_cons.mpr ⟨w_685, (List.forall_mem_cons.mpr ⟨w_686, (List.forall_mem_cons.mpr ⟨w_74, (List.forall_mem_nil _)⟩)⟩)⟩)⟩), gy_J0_charAt_5068e⟩
theorem lk_X9_176 : LkV RX9 176 m_X9_wrong 0 := ⟨(List.forall_mem_cons.mpr ⟨w_1420, (List.forall_mem_cons.mpr ⟨w_1422, (List.forall_mem_cons.mpr ⟨w_44, (List.forall_mem_cons.mpr ⟨w_70, (List.forall_mem_nil _)⟩)⟩)⟩)⟩), gy_X9_wrong⟩
theorem lf_X9_58 : LkF RX9 58 9 27 := ⟨RX9, TX9, 29, rfl, wsin_X9, Nat.le_of_ble_eq_true rfl, w_1160⟩
theorem lk_X9_180 : LkV RX9 180 m_X9_look 0 := ⟨(List.forall_mem_cons.mpr ⟨w_1386, (List.forall_mem_cons.mpr ⟨w_1388, (List.forall_mem_cons.mpr ⟨w_38, (List.forall_mem_cons.mpr ⟨w_70, (List.forall_mem_nil _)⟩)⟩)⟩)⟩), gy_X9_look⟩
theorem lk_X9_183 : LkV RX9 183 m_X9_number 3 := ⟨(List.forall_mem_cons.mpr ⟨w_1416, (List.forall_mem_cons.mpr ⟨w_1418, (List.forall_mem_cons.mpr ⟨w_43, (List.forall_mem_cons.mpr ⟨w_70, (List.forall_mem_nil _)⟩)⟩)⟩)⟩), gy_X9_number⟩
theorem lk_X9_187 : LkV RX9 187 m_X9_tells 1 := ⟨(List.forall_mem_cons.mpr ⟨w_1412, (List.forall_mem_cons.mpr ⟨w_1414, (List.forall_mem_cons.mpr ⟨w_42, (List.forall_mem_cons.mpr ⟨w_70, (List.forall_mem_nil _)⟩)⟩)⟩)⟩), gy_X9_tells⟩
theorem site_X9_190 : (RX9, 190, "off", ([111, 102, 102] : List Int32)) ∈ sites := by decide +kernel
theorem lk_X9_192 : LkV RX9 192 m_X9_isWord 1 := ⟨(List.forall_mem_cons.mpr ⟨w_1402, (List.forall_mem_cons.mpr ⟨w_1404, (List.forall_mem_cons.mpr ⟨w_40, (List.forall_mem_cons.mpr ⟨w_70, (List.forall_mem_nil _)⟩)⟩)⟩)⟩), gy_X9_isWord⟩
theorem site_X9_199 : (RX9, 199, "node", ([110, 111, 100, 101] : List Int32)) ∈ sites := by decide +kernel
theorem site_X9_201 : (RX9, 201, "swing", ([115, 119, 105, 110, 103] : List Int32)) ∈ sites := by decide +kernel
theorem site_X9_203 : (RX9, 203, "notch", ([110, 111, 116, 99, 104] : List Int32)) ∈ sites := by decide +kernel
theorem site_X9_204 : (RX9, 204, "stone", ([115, 116, 111, 110, 101] : List Int32)) ∈ sites := by decide +kernel
theorem site_X9_205 : (RX9, 205, "cloud", ([99, 108, 111, 117, 100] : List Int32)) ∈ sites := by decide +kernel
theorem lk_X9_206 : LkV RX9 206 m_X9_cloudTold 0 := ⟨(List.forall_mem_cons.mpr ⟨w_1429, (List.forall_mem_cons.mpr ⟨w_1431, (List.forall_mem_cons.mpr ⟨w_45, (List.forall_mem_cons.mpr ⟨w_70, (List.forall_mem_nil _)⟩)⟩)⟩)⟩), gy_X9_cloudTold⟩
theorem ks_179 : (Int16.ofInt (179)).toInt32 = (179 : Int32) := by decide
theorem lk_X9_196 : LkV RX9 196 m_X9_askedTold 1 := ⟨(List.forall_mem_cons.mpr ⟨w_1408, (List.forall_mem_cons.mpr ⟨w_1410, (List.forall_mem_cons.mpr ⟨w_41, (List.forall_mem_cons.mpr ⟨w_70, (List.forall_mem_nil _)⟩)⟩)⟩)⟩), gy_X9_askedTold⟩
theorem lp_X9_209 : LkP RX9 209 9 28 false .int := ⟨RX9, TX9, 29, tyX9, rfl, wsin_X9, Nat.le_of_ble_eq_true rfl, w_1161, tyX9_ok, nmX9, rfl, by decide +kernel, fun h => Bool.noConfusion h⟩
theorem lk_X9_212 : LkV RX9 212 m_X9_statement 0 := ⟨(List.forall_mem_cons.mpr ⟨w_1397, (List.forall_mem_cons.mpr ⟨w_1399, (List.forall_mem_cons.mpr ⟨w_39, (List.forall_mem_cons.mpr ⟨w_70, (List.forall_mem_nil _)⟩)⟩)⟩)⟩), gy_X9_statement⟩
theorem lf_X9_209 : LkF RX9 209 9 28 := ⟨RX9, TX9, 29, rfl, wsin_X9, Nat.le_of_ble_eq_true rfl, w_1161⟩
theorem lk_X9_345 : LkS RX9 345 m_X9_copyAll 2 := ⟨(List.forall_mem_cons.mpr ⟨w_1379, (List.forall_mem_cons.mpr ⟨w_1380, (List.forall_mem_cons.mpr ⟨w_70, (List.forall_mem_nil _)⟩)⟩)⟩), gy_X9_copyAll⟩
theorem lf_X9_339 : LkF RX9 339 9 17 := ⟨RX9, TX9, 29, rfl, wsin_X9, Nat.le_of_ble_eq_true rfl, w_1150⟩
theorem lp_X9_339 : LkP RX9 339 9 17 false .int := ⟨RX9, TX9, 29, tyX9, rfl, wsin_X9, Nat.le_of_ble_eq_true rfl, w_1150, tyX9_ok, nmX9, rfl, by decide +kernel, fun h => Bool.noConfusion h⟩
theorem lf_X9_336 : LkF RX9 336 9 18 := ⟨RX9, TX9, 29, rfl, wsin_X9, Nat.le_of_ble_eq_true rfl, w_1151⟩
theorem lp_X9_336 : LkP RX9 336 9 18 false .int := ⟨RX9, TX9, 29, tyX9, rfl, wsin_X9, Nat.le_of_ble_eq_true rfl, w_1151, tyX9_ok, nmX9, rfl, by decide +kernel, fun h => Bool.noConfusion h⟩
theorem lf_X9_54 : LkF RX9 54 9 19 := ⟨RX9, TX9, 29, rfl, wsin_X9, Nat.le_of_ble_eq_true rfl, w_1152⟩
theorem lp_X9_54 : LkP RX9 54 9 19 false .int := ⟨RX9, TX9, 29, tyX9, rfl, wsin_X9, Nat.le_of_ble_eq_true rfl, w_1152, tyX9_ok, nmX9, rfl, by decide +kernel, fun h => Bool.noConfusion h⟩
theorem lf_X9_215 : LkF RX9 215 9 21 := ⟨RX9, TX9, 29, rfl, wsin_X9, Nat.le_of_ble_eq_true rfl, w_1154⟩
theorem kL_X9_234 : Cond.constantLong RX9 234 (999 : Int64) ∈ ALL := w_1445
theorem kL_X9_251 : Cond.constantLong RX9 251 (8 : Int64) ∈ ALL := w_1450
theorem kb_7 : (Int8.ofInt (7)).toInt32 = (7 : Int32) := by decide
theorem lk_X9_253 : LkV RX9 253 m_X9_lit 1 := ⟨(List.forall_mem_cons.mpr ⟨w_1451, (List.forall_mem_cons.mpr ⟨w_1453, (List.forall_mem_cons.mpr ⟨w_46, (List.forall_mem_cons.mpr ⟨w_70, (List.forall_mem_nil _)⟩)⟩)⟩)⟩), gy_X9_lit⟩
theorem lk_X9_256 : LkV RX9 256 m_X9_degreeUp 1 := ⟨(List.forall_mem_cons.mpr ⟨w_1455, (List.forall_mem_cons.mpr ⟨w_1457, (List.forall_mem_cons.mpr ⟨w_47, (List.forall_mem_cons.mpr ⟨w_70, (List.forall_mem_nil _)⟩)⟩)⟩)⟩), gy_X9_degreeUp⟩
theorem tsv_0_8 : ∀ i, i < ([(0 : Int32), (1 : Int32), (2 : Int32), (3 : Int32), (4 : Int32), (5 : Int32), (6 : Int32), (7 : Int32)] : List Int32).length → (([(0 : Int32), (1 : Int32), (2 : Int32), (3 : Int32), (4 : Int32), (5 : Int32), (6 : Int32), (7 : Int32)] : List Int32).getD i 0).toInt = (0 : Int) + i := by decide +kernel
theorem lk_X9_260 : LkV RX9 260 m_X9_behindOf 1 := ⟨(List.forall_mem_cons.mpr ⟨w_1468, (List.forall_mem_cons.mpr ⟨w_1470, (List.forall_mem_cons.mpr ⟨w_48, (List.forall_mem_cons.mpr ⟨w_70, (List.forall_mem_nil _)⟩)⟩)⟩)⟩), gy_X9_behindOf⟩
theorem lk_X9_267 : LkS RX9 267 m_X9_areMinutes 2 := ⟨(List.forall_mem_cons.mpr ⟨w_1480, (List.forall_mem_cons.mpr ⟨w_1481, (List.forall_mem_cons.mpr ⟨w_70, (List.forall_mem_nil _)⟩)⟩)⟩), gy_X9_areMinutes⟩
theorem lk_X9_270 : LkV RX9 270 m_X9_lightIn 3 := ⟨(List.forall_mem_cons.mpr ⟨w_1487, (List.forall_mem_cons.mpr ⟨w_1489, (List.forall_mem_cons.mpr ⟨w_49, (List.forall_mem_cons.mpr ⟨w_70, (List.forall_mem_nil _)⟩)⟩)⟩)⟩), gy_X9_lightIn⟩
theorem lk_X9_273 : LkS RX9 273 m_X9_lastOf 2 := ⟨(List.forall_mem_cons.mpr ⟨w_1499, (List.forall_mem_cons.mpr ⟨w_1500, (List.forall_mem_cons.mpr ⟨w_70, (List.forall_mem_nil _)⟩)⟩)⟩), gy_X9_lastOf⟩
theorem lk_X9_276 : LkS RX9 276 m_X9_areDays 2 := ⟨(List.forall_mem_cons.mpr ⟨w_1506, (List.forall_mem_cons.mpr ⟨w_1507, (List.forall_mem_cons.mpr ⟨w_70, (List.forall_mem_nil _)⟩)⟩)⟩), gy_X9_areDays⟩
theorem lk_X9_279 : LkV RX9 279 m_X9_tellsOf 3 := ⟨(List.forall_mem_cons.mpr ⟨w_1522, (List.forall_mem_cons.mpr ⟨w_1524, (List.forall_mem_cons.mpr ⟨w_50, (List.forall_mem_cons.mpr ⟨w_70, (List.forall_mem_nil _)⟩)⟩)⟩)⟩), gy_X9_tellsOf⟩
theorem kL_X9_282 : Cond.constantLong RX9 282 (1440 : Int64) ∈ ALL := w_1530
theorem kL_X9_284 : Cond.constantLong RX9 284 (9991 : Int64) ∈ ALL := w_1539
theorem lk_X9_286 : LkV RX9 286 m_X9_sizeOf 1 := ⟨(List.forall_mem_cons.mpr ⟨w_1548, (List.forall_mem_cons.mpr ⟨w_1550, (List.forall_mem_cons.mpr ⟨w_51, (List.forall_mem_cons.mpr ⟨w_70, (List.forall_mem_nil _)⟩)⟩)⟩)⟩), gy_X9_sizeOf⟩
theorem kL_X9_289 : Cond.constantLong RX9 289 (1439 : Int64) ∈ ALL := w_1560
theorem lk_X9_291 : LkV RX9 291 m_X9_isPicture 2 := ⟨(List.forall_mem_cons.mpr ⟨w_1565, (List.forall_mem_cons.mpr ⟨w_1567, (List.forall_mem_cons.mpr ⟨w_52, (List.forall_mem_cons.mpr ⟨w_70, (List.forall_mem_nil _)⟩)⟩)⟩)⟩), gy_X9_isPicture⟩
theorem kL_X9_295 : Cond.constantLong RX9 295 (50 : Int64) ∈ ALL := w_1573
theorem kL_X9_297 : Cond.constantLong RX9 297 (1476 : Int64) ∈ ALL := w_1574
theorem kL_X9_299 : Cond.constantLong RX9 299 (100 : Int64) ∈ ALL := w_1587
theorem kL_X9_301 : Cond.constantLong RX9 301 (400 : Int64) ∈ ALL := w_1588
theorem lk_X9_303 : LkV RX9 303 m_X9_noWitnesses 2 := ⟨(List.forall_mem_cons.mpr ⟨w_1579, (List.forall_mem_cons.mpr ⟨w_1581, (List.forall_mem_cons.mpr ⟨w_53, (List.forall_mem_cons.mpr ⟨w_70, (List.forall_mem_nil _)⟩)⟩)⟩)⟩), gy_X9_noWitnesses⟩
theorem lk_X9_306 : LkV RX9 306 m_X9_canBe 1 := ⟨(List.forall_mem_cons.mpr ⟨w_1583, (List.forall_mem_cons.mpr ⟨w_1585, (List.forall_mem_cons.mpr ⟨w_54, (List.forall_mem_cons.mpr ⟨w_70, (List.forall_mem_nil _)⟩)⟩)⟩)⟩), gy_X9_canBe⟩
theorem lk_X9_309 : LkV RX9 309 m_X9_highOf 1 := ⟨(List.forall_mem_cons.mpr ⟨w_1609, (List.forall_mem_cons.mpr ⟨w_1611, (List.forall_mem_cons.mpr ⟨w_55, (List.forall_mem_cons.mpr ⟨w_70, (List.forall_mem_nil _)⟩)⟩)⟩)⟩), gy_X9_highOf⟩
theorem kL_X9_312 : Cond.constantLong RX9 312 (29 : Int64) ∈ ALL := w_1621
theorem kL_X9_314 : Cond.constantLong RX9 314 (88 : Int64) ∈ ALL := w_1622
theorem kL_X9_316 : Cond.constantLong RX9 316 (89 : Int64) ∈ ALL := w_1623
theorem kL_X9_318 : Cond.constantLong RX9 318 (20 : Int64) ∈ ALL := w_1631
theorem lk_X9_320 : LkS RX9 320 m_X9_isNear 1 := ⟨(List.forall_mem_cons.mpr ⟨w_1628, (List.forall_mem_cons.mpr ⟨w_1629, (List.forall_mem_cons.mpr ⟨w_70, (List.forall_mem_nil _)⟩)⟩)⟩), gy_X9_isNear⟩
theorem lk_X9_323 : LkV RX9 323 m_X9_isHit 4 := ⟨(List.forall_mem_cons.mpr ⟨w_1632, (List.forall_mem_cons.mpr ⟨w_1634, (List.forall_mem_cons.mpr ⟨w_56, (List.forall_mem_cons.mpr ⟨w_70, (List.forall_mem_nil _)⟩)⟩)⟩)⟩), gy_X9_isHit⟩
theorem knn_180 : (¬ (180 : Int32) < 0) ∧ Int32.toNatClampNeg (180 : Int32) = 180 := by decide
theorem aC_bool : Cond.arrayClass (newarray.typeOf .boolean) ∈ ALL := w_1644
theorem lk_X9_327 : LkV RX9 327 m_X9_chanceOf 3 := ⟨(List.forall_mem_cons.mpr ⟨w_1640, (List.forall_mem_cons.mpr ⟨w_1642, (List.forall_mem_cons.mpr ⟨w_57, (List.forall_mem_cons.mpr ⟨w_70, (List.forall_mem_nil _)⟩)⟩)⟩)⟩), gy_X9_chanceOf⟩
theorem knn_40 : (¬ (40 : Int32) < 0) ∧ Int32.toNatClampNeg (40 : Int32) = 40 := by decide
theorem aC_int : Cond.arrayClass (newarray.typeOf .int) ∈ ALL := w_115
theorem kL_X9_330 : Cond.constantLong RX9 330 (2952 : Int64) ∈ ALL := w_1661
theorem kd_10 : ¬ (10 : Int32) = 0 := by decide
theorem lk_X9_333 : LkV RX9 333 m_X9_below 1 := ⟨(List.forall_mem_cons.mpr ⟨w_1670, (List.forall_mem_cons.mpr ⟨w_1672, (List.forall_mem_cons.mpr ⟨w_59, (List.forall_mem_cons.mpr ⟨w_70, (List.forall_mem_nil _)⟩)⟩)⟩)⟩), gy_X9_below⟩
theorem ks_1080 : (Int16.ofInt (1080)).toInt32 = (1080 : Int32) := by decide
theorem lk_X9_342 : LkV RX9 342 m_X9_goesBy 0 := ⟨(List.forall_mem_cons.mpr ⟨w_1666, (List.forall_mem_cons.mpr ⟨w_1668, (List.forall_mem_cons.mpr ⟨w_58, (List.forall_mem_cons.mpr ⟨w_70, (List.forall_mem_nil _)⟩)⟩)⟩)⟩), gy_X9_goesBy⟩
theorem lf_X9_349 : LkF RX9 349 9 20 := ⟨RX9, TX9, 29, rfl, wsin_X9, Nat.le_of_ble_eq_true rfl, w_1153⟩
theorem kL_X9_352 : Cond.constantLong RX9 352 (12 : Int64) ∈ ALL := w_1695
theorem kL_X9_354 : Cond.constantLong RX9 354 (16 : Int64) ∈ ALL := w_1696
theorem lf_X7_15 : LkF RX7 15 7 1 := ⟨RX7, TX7, 6, rfl, wsin_X7, Nat.le_of_ble_eq_true rfl, w_195⟩
theorem lf_X7_11 : LkF RX7 11 7 0 := ⟨RX7, TX7, 6, rfl, wsin_X7, Nat.le_of_ble_eq_true rfl, w_194⟩
theorem kn_250 : Int32.ofNat 250 = (250 : Int32) := by decide
theorem lp_X7_15 : LkP RX7 15 7 1 false .int := ⟨RX7, TX7, 6, tyX7, rfl, wsin_X7, Nat.le_of_ble_eq_true rfl, w_195, tyX7_ok, nmX7, rfl, by decide +kernel, fun h => Bool.noConfusion h⟩
theorem lf_X7_19 : LkF RX7 19 7 3 := ⟨RX7, TX7, 6, rfl, wsin_X7, Nat.le_of_ble_eq_true rfl, w_197⟩
theorem lf_X7_22 : LkF RX7 22 7 4 := ⟨RX7, TX7, 6, rfl, wsin_X7, Nat.le_of_ble_eq_true rfl, w_198⟩
theorem lp_X7_19 : LkP RX7 19 7 3 false .int := ⟨RX7, TX7, 6, tyX7, rfl, wsin_X7, Nat.le_of_ble_eq_true rfl, w_197, tyX7_ok, nmX7, rfl, by decide +kernel, fun h => Bool.noConfusion h⟩
theorem lk_X7_35 : LkV RX7 35 m_X7_byteAt 1 := ⟨(List.forall_mem_cons.mpr ⟨w_657, (List.forall_mem_cons.mpr ⟨w_659, (List.forall_mem_cons.mpr ⟨w_4, (List.forall_mem_cons.mpr ⟨w_67, (List.forall_mem_nil _)⟩)⟩)⟩)⟩), gy_X7_byteAt⟩
theorem lk_X7_39 : LkS RX7 39 m_X7_tokenOf 1 := ⟨(List.forall_mem_cons.mpr ⟨w_661, (List.forall_mem_cons.mpr ⟨w_662, (List.forall_mem_cons.mpr ⟨w_67, (List.forall_mem_nil _)⟩)⟩)⟩), gy_X7_tokenOf⟩
theorem lp_X7_32 : LkP RX7 32 7 2 false .int := ⟨RX7, TX7, 6, tyX7, rfl, wsin_X7, Nat.le_of_ble_eq_true rfl, w_196, tyX7_ok, nmX7, rfl, by decide +kernel, fun h => Bool.noConfusion h⟩
theorem lk_X7_42 : LkS RX7 42 m_J9_min_7cf53 2 := ⟨(List.forall_mem_cons.mpr ⟨w_664, (List.forall_mem_cons.mpr ⟨w_292, (List.forall_mem_cons.mpr ⟨w_65, (List.forall_mem_nil _)⟩)⟩)⟩), gy_J9_min_7cf53⟩
theorem lp_X7_22 : LkP RX7 22 7 4 false .int := ⟨RX7, TX7, 6, tyX7, rfl, wsin_X7, Nat.le_of_ble_eq_true rfl, w_198, tyX7_ok, nmX7, rfl, by decide +kernel, fun h => Bool.noConfusion h⟩
theorem lf_X7_32 : LkF RX7 32 7 2 := ⟨RX7, TX7, 6, rfl, wsin_X7, Nat.le_of_ble_eq_true rfl, w_196⟩
theorem lk_X7_48 : LkV RX7 48 m_J0_length_8abf5 0 := ⟨(List.forall_mem_cons.mpr ⟨w_674, (List.forall_mem_cons.mpr ⟨w_675, (List.forall_mem_cons.mpr ⟨w_676, (List.forall_mem_cons.mpr ⟨w_74, (List.forall_mem_nil _)⟩)⟩)⟩)⟩), gy_J0_length_8abf5⟩
theorem lk_X7_54 : LkV RX7 54 m_J0_charAt_5068e 1 := ⟨(List.forall_mem_cons.mpr ⟨w_684, (List.forall_mem_cons.mpr ⟨w_685, (List.forall_mem_cons.mpr ⟨w_686, (List.forall_mem_cons.mpr ⟨w_74, (List.forall_mem_nil _)⟩)⟩)⟩)⟩), gy_J0_charAt_5068e⟩
theorem lk_X7_25 : LkV RX7 25 m_X7_step 0 := ⟨(List.forall_mem_cons.mpr ⟨w_653, (List.forall_mem_cons.mpr ⟨w_655, (List.forall_mem_cons.mpr ⟨w_3, (List.forall_mem_cons.mpr ⟨w_67, (List.forall_mem_nil _)⟩)⟩)⟩)⟩), gy_X7_step⟩
theorem lp_X7_102 : LkP RX7 102 7 5 false .int := ⟨RX7, TX7, 6, tyX7, rfl, wsin_X7, Nat.le_of_ble_eq_true rfl, w_199, tyX7_ok, nmX7, rfl, by decide +kernel, fun h => Bool.noConfusion h⟩
theorem lf_X7_102 : LkF RX7 102 7 5 := ⟨RX7, TX7, 6, rfl, wsin_X7, Nat.le_of_ble_eq_true rfl, w_199⟩
theorem lk_X7_105 : LkSN RX7 105 m_X8_isIn 3 "MoonOverTheHill" := ⟨⟨by decide +kernel, (List.forall_mem_cons.mpr ⟨w_281, (List.forall_mem_cons.mpr ⟨w_61, (List.forall_mem_nil _)⟩)⟩)⟩, gy_X8_isIn⟩
theorem lk_X7_109 : LkV RX7 109 m_X7_takeNumber 2 := ⟨(List.forall_mem_cons.mpr ⟨w_726, (List.forall_mem_cons.mpr ⟨w_728, (List.forall_mem_cons.mpr ⟨w_8, (List.forall_mem_cons.mpr ⟨w_67, (List.forall_mem_nil _)⟩)⟩)⟩)⟩), gy_X7_takeNumber⟩
theorem lk_X7_113 : LkV RX7 113 m_X6_setAsked 2 := ⟨(List.forall_mem_cons.mpr ⟨w_731, (List.forall_mem_cons.mpr ⟨w_554, (List.forall_mem_cons.mpr ⟨w_555, (List.forall_mem_cons.mpr ⟨w_62, (List.forall_mem_nil _)⟩)⟩)⟩)⟩), gy_X6_setAsked⟩
theorem lk_X7_117 : LkV RX7 117 m_X1_isFull 0 := ⟨(List.forall_mem_cons.mpr ⟨w_739, (List.forall_mem_cons.mpr ⟨w_562, (List.forall_mem_cons.mpr ⟨w_563, (List.forall_mem_cons.mpr ⟨w_63, (List.forall_mem_nil _)⟩)⟩)⟩)⟩), gy_X1_isFull⟩
theorem lk_X7_123 : LkV RX7 123 m_X1_add 3 := ⟨(List.forall_mem_cons.mpr ⟨w_740, (List.forall_mem_cons.mpr ⟨w_570, (List.forall_mem_cons.mpr ⟨w_571, (List.forall_mem_cons.mpr ⟨w_63, (List.forall_mem_nil _)⟩)⟩)⟩)⟩), gy_X1_add⟩
theorem lk_X7_127 : LkV RX7 127 m_X0_isFull 0 := ⟨(List.forall_mem_cons.mpr ⟨w_746, (List.forall_mem_cons.mpr ⟨w_566, (List.forall_mem_cons.mpr ⟨w_567, (List.forall_mem_cons.mpr ⟨w_64, (List.forall_mem_nil _)⟩)⟩)⟩)⟩), gy_X0_isFull⟩
theorem lk_X7_130 : LkV RX7 130 m_X0_add 1 := ⟨(List.forall_mem_cons.mpr ⟨w_747, (List.forall_mem_cons.mpr ⟨w_574, (List.forall_mem_cons.mpr ⟨w_575, (List.forall_mem_cons.mpr ⟨w_64, (List.forall_mem_nil _)⟩)⟩)⟩)⟩), gy_X0_add⟩
theorem lk_X7_133 : LkV RX7 133 m_X0_contains 1 := ⟨(List.forall_mem_cons.mpr ⟨w_753, (List.forall_mem_cons.mpr ⟨w_524, (List.forall_mem_cons.mpr ⟨w_525, (List.forall_mem_cons.mpr ⟨w_64, (List.forall_mem_nil _)⟩)⟩)⟩)⟩), gy_X0_contains⟩
theorem site_X7_58 : (RX7, 58, "off", ([111, 102, 102] : List Int32)) ∈ sites := by decide +kernel
theorem lk_X7_60 : LkV RX7 60 m_X7_isWord 1 := ⟨(List.forall_mem_cons.mpr ⟨w_670, (List.forall_mem_cons.mpr ⟨w_672, (List.forall_mem_cons.mpr ⟨w_6, (List.forall_mem_cons.mpr ⟨w_67, (List.forall_mem_nil _)⟩)⟩)⟩)⟩), gy_X7_isWord⟩
theorem site_X7_68 : (RX7, 68, "node", ([110, 111, 100, 101] : List Int32)) ∈ sites := by decide +kernel
theorem site_X7_70 : (RX7, 70, "swing", ([115, 119, 105, 110, 103] : List Int32)) ∈ sites := by decide +kernel
theorem site_X7_72 : (RX7, 72, "notch", ([110, 111, 116, 99, 104] : List Int32)) ∈ sites := by decide +kernel
theorem site_X7_84 : (RX7, 84, "stone", ([115, 116, 111, 110, 101] : List Int32)) ∈ sites := by decide +kernel
theorem site_X7_94 : (RX7, 94, "cloud", ([99, 108, 111, 117, 100] : List Int32)) ∈ sites := by decide +kernel
theorem lf_X7_96 : LkF RX7 96 6 6 := ⟨RX6, TX6, 10, rfl, wsin_X6, Nat.le_of_ble_eq_true rfl, w_148⟩
theorem lk_X7_99 : LkV RX7 99 m_X7_takeCloud 1 := ⟨(List.forall_mem_cons.mpr ⟨w_749, (List.forall_mem_cons.mpr ⟨w_751, (List.forall_mem_cons.mpr ⟨w_11, (List.forall_mem_cons.mpr ⟨w_67, (List.forall_mem_nil _)⟩)⟩)⟩)⟩), gy_X7_takeCloud⟩
theorem lf_X7_86 : LkF RX7 86 6 5 := ⟨RX6, TX6, 10, rfl, wsin_X6, Nat.le_of_ble_eq_true rfl, w_146⟩
theorem lk_X7_90 : LkV RX7 90 m_X7_takeStone 1 := ⟨(List.forall_mem_cons.mpr ⟨w_742, (List.forall_mem_cons.mpr ⟨w_744, (List.forall_mem_cons.mpr ⟨w_10, (List.forall_mem_cons.mpr ⟨w_67, (List.forall_mem_nil _)⟩)⟩)⟩)⟩), gy_X7_takeStone⟩
theorem lf_X7_74 : LkF RX7 74 6 4 := ⟨RX6, TX6, 10, rfl, wsin_X6, Nat.le_of_ble_eq_true rfl, w_143⟩
theorem lk_X7_80 : LkV RX7 80 m_X7_takeNotch 1 := ⟨(List.forall_mem_cons.mpr ⟨w_735, (List.forall_mem_cons.mpr ⟨w_737, (List.forall_mem_cons.mpr ⟨w_9, (List.forall_mem_cons.mpr ⟨w_67, (List.forall_mem_nil _)⟩)⟩)⟩)⟩), gy_X7_takeNotch⟩
theorem lk_X7_64 : LkV RX7 64 m_X7_takeAsked 2 := ⟨(List.forall_mem_cons.mpr ⟨w_722, (List.forall_mem_cons.mpr ⟨w_724, (List.forall_mem_cons.mpr ⟨w_7, (List.forall_mem_cons.mpr ⟨w_67, (List.forall_mem_nil _)⟩)⟩)⟩)⟩), gy_X7_takeAsked⟩
theorem lk_X7_28 : LkV RX7 28 m_X7_takeStatement 1 := ⟨(List.forall_mem_cons.mpr ⟨w_665, (List.forall_mem_cons.mpr ⟨w_667, (List.forall_mem_cons.mpr ⟨w_5, (List.forall_mem_cons.mpr ⟨w_67, (List.forall_mem_nil _)⟩)⟩)⟩)⟩), gy_X7_takeStatement⟩
theorem lf_X8_47 : LkF RX8 47 8 6 := ⟨RX8, TX8, 9, rfl, wsin_X8, Nat.le_of_ble_eq_true rfl, w_250⟩
theorem kn_8 : Int32.ofNat 8 = (8 : Int32) := by decide
theorem lf_X8_51 : LkF RX8 51 8 7 := ⟨RX8, TX8, 9, rfl, wsin_X8, Nat.le_of_ble_eq_true rfl, w_251⟩
theorem kn_5 : Int32.ofNat 5 = (5 : Int32) := by decide
theorem lk_X8_56 : LkV RX8 56 m_X8_shelfAt 1 := ⟨(List.forall_mem_cons.mpr ⟨w_276, (List.forall_mem_cons.mpr ⟨w_278, (List.forall_mem_cons.mpr ⟨w_0, (List.forall_mem_cons.mpr ⟨w_61, (List.forall_mem_nil _)⟩)⟩)⟩)⟩), gy_X8_shelfAt⟩
theorem lk_X8_64 : LkV RX8 64 m_X8_refuse 1 := ⟨(List.forall_mem_cons.mpr ⟨w_283, (List.forall_mem_cons.mpr ⟨w_285, (List.forall_mem_cons.mpr ⟨w_1, (List.forall_mem_cons.mpr ⟨w_61, (List.forall_mem_nil _)⟩)⟩)⟩)⟩), gy_X8_refuse⟩
theorem lk_X8_68 : LkV RX8 68 m_X5_putRow 2 := ⟨(List.forall_mem_cons.mpr ⟨w_287, (List.forall_mem_cons.mpr ⟨w_288, (List.forall_mem_cons.mpr ⟨w_289, (List.forall_mem_cons.mpr ⟨w_69, (List.forall_mem_nil _)⟩)⟩)⟩)⟩), gy_X5_putRow⟩
theorem lk_X8_72 : LkV RX8 72 m_X5_refusalAsRow 1 := ⟨(List.forall_mem_cons.mpr ⟨w_301, (List.forall_mem_cons.mpr ⟨w_302, (List.forall_mem_cons.mpr ⟨w_303, (List.forall_mem_cons.mpr ⟨w_69, (List.forall_mem_nil _)⟩)⟩)⟩)⟩), gy_X5_refusalAsRow⟩
theorem lk_X8_75 : LkV RX8 75 m_X5_hasPlaces 2 := ⟨(List.forall_mem_cons.mpr ⟨w_313, (List.forall_mem_cons.mpr ⟨w_314, (List.forall_mem_cons.mpr ⟨w_315, (List.forall_mem_cons.mpr ⟨w_69, (List.forall_mem_nil _)⟩)⟩)⟩)⟩), gy_X5_hasPlaces⟩
theorem lk_X8_79 : LkV RX8 79 m_X5_put 2 := ⟨(List.forall_mem_cons.mpr ⟨w_317, (List.forall_mem_cons.mpr ⟨w_318, (List.forall_mem_cons.mpr ⟨w_319, (List.forall_mem_cons.mpr ⟨w_69, (List.forall_mem_nil _)⟩)⟩)⟩)⟩), gy_X5_put⟩
theorem lk_X8_83 : LkV RX8 83 m_X5_isEvening 0 := ⟨(List.forall_mem_cons.mpr ⟨w_329, (List.forall_mem_cons.mpr ⟨w_306, (List.forall_mem_cons.mpr ⟨w_307, (List.forall_mem_cons.mpr ⟨w_69, (List.forall_mem_nil _)⟩)⟩)⟩)⟩), gy_X5_isEvening⟩
theorem lk_X8_87 : LkV RX8 87 m_X5_isRowOfOtherSort 1 := ⟨(List.forall_mem_cons.mpr ⟨w_330, (List.forall_mem_cons.mpr ⟨w_331, (List.forall_mem_cons.mpr ⟨w_332, (List.forall_mem_cons.mpr ⟨w_69, (List.forall_mem_nil _)⟩)⟩)⟩)⟩), gy_X5_isRowOfOtherSort⟩
theorem lk_X8_91 : LkV RX8 91 m_X5_isBare 0 := ⟨(List.forall_mem_cons.mpr ⟨w_338, (List.forall_mem_cons.mpr ⟨w_310, (List.forall_mem_cons.mpr ⟨w_311, (List.forall_mem_cons.mpr ⟨w_69, (List.forall_mem_nil _)⟩)⟩)⟩)⟩), gy_X5_isBare⟩
theorem lk_X8_94 : LkV RX8 94 m_X5_take 4 := ⟨(List.forall_mem_cons.mpr ⟨w_339, (List.forall_mem_cons.mpr ⟨w_340, (List.forall_mem_cons.mpr ⟨w_341, (List.forall_mem_cons.mpr ⟨w_69, (List.forall_mem_nil _)⟩)⟩)⟩)⟩), gy_X5_take⟩
theorem lk_X8_98 : LkV RX8 98 m_X5_isRow 0 := ⟨(List.forall_mem_cons.mpr ⟨w_351, (List.forall_mem_cons.mpr ⟨w_335, (List.forall_mem_cons.mpr ⟨w_336, (List.forall_mem_cons.mpr ⟨w_69, (List.forall_mem_nil _)⟩)⟩)⟩)⟩), gy_X5_isRow⟩
theorem lk_X8_101 : LkV RX8 101 m_X5_at 1 := ⟨(List.forall_mem_cons.mpr ⟨w_352, (List.forall_mem_cons.mpr ⟨w_353, (List.forall_mem_cons.mpr ⟨w_354, (List.forall_mem_cons.mpr ⟨w_69, (List.forall_mem_nil _)⟩)⟩)⟩)⟩), gy_X5_at⟩
theorem lk_X8_105 : LkV RX8 105 m_X5_content 0 := ⟨(List.forall_mem_cons.mpr ⟨w_360, (List.forall_mem_cons.mpr ⟨w_361, (List.forall_mem_cons.mpr ⟨w_362, (List.forall_mem_cons.mpr ⟨w_69, (List.forall_mem_nil _)⟩)⟩)⟩)⟩), gy_X5_content⟩
theorem lk_X8_109 : LkS RX8 109 m_X8_isKind 1 := ⟨(List.forall_mem_cons.mpr ⟨w_368, (List.forall_mem_cons.mpr ⟨w_369, (List.forall_mem_cons.mpr ⟨w_61, (List.forall_mem_nil _)⟩)⟩)⟩), gy_X8_isKind⟩
theorem lk_X8_116 : LkV RX8 116 m_X5_putEvening 2 := ⟨(List.forall_mem_cons.mpr ⟨w_374, (List.forall_mem_cons.mpr ⟨w_375, (List.forall_mem_cons.mpr ⟨w_376, (List.forall_mem_cons.mpr ⟨w_69, (List.forall_mem_nil _)⟩)⟩)⟩)⟩), gy_X5_putEvening⟩
theorem lk_X8_119 : LkV RX8 119 m_X5_kind 0 := ⟨(List.forall_mem_cons.mpr ⟨w_382, (List.forall_mem_cons.mpr ⟨w_383, (List.forall_mem_cons.mpr ⟨w_384, (List.forall_mem_cons.mpr ⟨w_69, (List.forall_mem_nil _)⟩)⟩)⟩)⟩), gy_X5_kind⟩
theorem lk_X8_122 : LkS RX8 122 m_X8_isUnder 2 := ⟨(List.forall_mem_cons.mpr ⟨w_386, (List.forall_mem_cons.mpr ⟨w_387, (List.forall_mem_cons.mpr ⟨w_61, (List.forall_mem_nil _)⟩)⟩)⟩), gy_X8_isUnder⟩
theorem lf_X8_27 : LkF RX8 27 8 3 := ⟨RX8, TX8, 9, rfl, wsin_X8, Nat.le_of_ble_eq_true rfl, w_247⟩
theorem lk_X8_125 : LkV RX8 125 m_X5_day 0 := ⟨(List.forall_mem_cons.mpr ⟨w_389, (List.forall_mem_cons.mpr ⟨w_390, (List.forall_mem_cons.mpr ⟨w_391, (List.forall_mem_cons.mpr ⟨w_69, (List.forall_mem_nil _)⟩)⟩)⟩)⟩), gy_X5_day⟩
theorem lk_X8_128 : LkV RX8 128 m_X2_saysOf 2 := ⟨(List.forall_mem_cons.mpr ⟨w_393, (List.forall_mem_cons.mpr ⟨w_394, (List.forall_mem_cons.mpr ⟨w_395, (List.forall_mem_cons.mpr ⟨w_66, (List.forall_mem_nil _)⟩)⟩)⟩)⟩), gy_X2_saysOf⟩
theorem ln_X8_132 : LkN RX8 132 4 5 [.int 0, .int 0, .int 0, .int 0, .null] := ⟨RX4, TX4, tyX4, rfl, wsin_X4, tyX4_ok, w_451, w_452, w_73, by decide +kernel⟩
theorem lk_X8_134 : LkI RX8 134 m_X4_init_ 1 := ⟨(List.forall_mem_cons.mpr ⟨w_453, (List.forall_mem_cons.mpr ⟨w_454, (List.forall_mem_cons.mpr ⟨w_73, (List.forall_mem_nil _)⟩)⟩)⟩), gy_X4_init_, rfl, rfl⟩
theorem lk_X8_137 : LkV RX8 137 m_X2_fits 2 := ⟨(List.forall_mem_cons.mpr ⟨w_481, (List.forall_mem_cons.mpr ⟨w_482, (List.forall_mem_cons.mpr ⟨w_483, (List.forall_mem_cons.mpr ⟨w_66, (List.forall_mem_nil _)⟩)⟩)⟩)⟩), gy_X2_fits⟩
theorem lf_X8_10 : LkF RX8 10 8 0 := ⟨RX8, TX8, 9, rfl, wsin_X8, Nat.le_of_ble_eq_true rfl, w_244⟩
theorem lk_X8_141 : LkV RX8 141 m_X6_askedOf 1 := ⟨(List.forall_mem_cons.mpr ⟨w_549, (List.forall_mem_cons.mpr ⟨w_550, (List.forall_mem_cons.mpr ⟨w_551, (List.forall_mem_cons.mpr ⟨w_62, (List.forall_mem_nil _)⟩)⟩)⟩)⟩), gy_X6_askedOf⟩
theorem lk_X8_144 : LkV RX8 144 m_X6_setAsked 2 := ⟨(List.forall_mem_cons.mpr ⟨w_553, (List.forall_mem_cons.mpr ⟨w_554, (List.forall_mem_cons.mpr ⟨w_555, (List.forall_mem_cons.mpr ⟨w_62, (List.forall_mem_nil _)⟩)⟩)⟩)⟩), gy_X6_setAsked⟩
theorem kb_9 : (Int8.ofInt (9)).toInt32 = (9 : Int32) := by decide
theorem lf_X8_147 : LkF RX8 147 6 4 := ⟨RX6, TX6, 10, rfl, wsin_X6, Nat.le_of_ble_eq_true rfl, w_142⟩
theorem lk_X8_151 : LkV RX8 151 m_X1_isFull 0 := ⟨(List.forall_mem_cons.mpr ⟨w_561, (List.forall_mem_cons.mpr ⟨w_562, (List.forall_mem_cons.mpr ⟨w_563, (List.forall_mem_cons.mpr ⟨w_63, (List.forall_mem_nil _)⟩)⟩)⟩)⟩), gy_X1_isFull⟩
theorem lk_X8_156 : LkV RX8 156 m_X1_add 3 := ⟨(List.forall_mem_cons.mpr ⟨w_569, (List.forall_mem_cons.mpr ⟨w_570, (List.forall_mem_cons.mpr ⟨w_571, (List.forall_mem_cons.mpr ⟨w_63, (List.forall_mem_nil _)⟩)⟩)⟩)⟩), gy_X1_add⟩
theorem lk_X8_160 : LkV RX8 160 m_X1_count 0 := ⟨(List.forall_mem_cons.mpr ⟨w_577, (List.forall_mem_cons.mpr ⟨w_507, (List.forall_mem_cons.mpr ⟨w_508, (List.forall_mem_cons.mpr ⟨w_63, (List.forall_mem_nil _)⟩)⟩)⟩)⟩), gy_X1_count⟩
theorem lf_X8_163 : LkF RX8 163 6 5 := ⟨RX6, TX6, 10, rfl, wsin_X6, Nat.le_of_ble_eq_true rfl, w_145⟩
theorem lk_X8_167 : LkV RX8 167 m_X0_isFull 0 := ⟨(List.forall_mem_cons.mpr ⟨w_582, (List.forall_mem_cons.mpr ⟨w_566, (List.forall_mem_cons.mpr ⟨w_567, (List.forall_mem_cons.mpr ⟨w_64, (List.forall_mem_nil _)⟩)⟩)⟩)⟩), gy_X0_isFull⟩
theorem lk_X8_170 : LkV RX8 170 m_X0_add 1 := ⟨(List.forall_mem_cons.mpr ⟨w_583, (List.forall_mem_cons.mpr ⟨w_574, (List.forall_mem_cons.mpr ⟨w_575, (List.forall_mem_cons.mpr ⟨w_64, (List.forall_mem_nil _)⟩)⟩)⟩)⟩), gy_X0_add⟩
theorem lk_X8_172 : LkV RX8 172 m_X0_count 0 := ⟨(List.forall_mem_cons.mpr ⟨w_584, (List.forall_mem_cons.mpr ⟨w_511, (List.forall_mem_cons.mpr ⟨w_512, (List.forall_mem_cons.mpr ⟨w_64, (List.forall_mem_nil _)⟩)⟩)⟩)⟩), gy_X0_count⟩
theorem lf_X8_173 : LkF RX8 173 6 6 := ⟨RX6, TX6, 10, rfl, wsin_X6, Nat.le_of_ble_eq_true rfl, w_149⟩
theorem lk_X8_176 : LkV RX8 176 m_X0_contains 1 := ⟨(List.forall_mem_cons.mpr ⟨w_589, (List.forall_mem_cons.mpr ⟨w_524, (List.forall_mem_cons.mpr ⟨w_525, (List.forall_mem_cons.mpr ⟨w_64, (List.forall_mem_nil _)⟩)⟩)⟩)⟩), gy_X0_contains⟩
theorem lk_X8_179 : LkV RX8 179 m_X1_empty 0 := ⟨(List.forall_mem_cons.mpr ⟨w_594, (List.forall_mem_cons.mpr ⟨w_595, (List.forall_mem_cons.mpr ⟨w_596, (List.forall_mem_cons.mpr ⟨w_63, (List.forall_mem_nil _)⟩)⟩)⟩)⟩), gy_X1_empty⟩
theorem lk_X8_182 : LkV RX8 182 m_X0_empty 0 := ⟨(List.forall_mem_cons.mpr ⟨w_605, (List.forall_mem_cons.mpr ⟨w_599, (List.forall_mem_cons.mpr ⟨w_600, (List.forall_mem_cons.mpr ⟨w_64, (List.forall_mem_nil _)⟩)⟩)⟩)⟩), gy_X0_empty⟩
theorem tsv_0_3 : ∀ i, i < ([(0 : Int32), (1 : Int32), (2 : Int32)] : List Int32).length → (([(0 : Int32), (1 : Int32), (2 : Int32)] : List Int32).getD i 0).toInt = (0 : Int) + i := by decide +kernel
theorem lf_X8_34 : LkF RX8 34 8 4 := ⟨RX8, TX8, 9, rfl, wsin_X8, Nat.le_of_ble_eq_true rfl, w_248⟩
theorem lk_X8_183 : LkV RX8 183 m_X7_isFull 0 := ⟨(List.forall_mem_cons.mpr ⟨w_610, (List.forall_mem_cons.mpr ⟨w_611, (List.forall_mem_cons.mpr ⟨w_612, (List.forall_mem_cons.mpr ⟨w_67, (List.forall_mem_nil _)⟩)⟩)⟩)⟩), gy_X7_isFull⟩
theorem lk_X8_184 : LkV RX8 184 m_X7_add 1 := ⟨(List.forall_mem_cons.mpr ⟨w_614, (List.forall_mem_cons.mpr ⟨w_615, (List.forall_mem_cons.mpr ⟨w_616, (List.forall_mem_cons.mpr ⟨w_67, (List.forall_mem_nil _)⟩)⟩)⟩)⟩), gy_X7_add⟩
theorem lk_X8_185 : LkV RX8 185 m_X7_size 0 := ⟨(List.forall_mem_cons.mpr ⟨w_618, (List.forall_mem_cons.mpr ⟨w_619, (List.forall_mem_cons.mpr ⟨w_620, (List.forall_mem_cons.mpr ⟨w_67, (List.forall_mem_nil _)⟩)⟩)⟩)⟩), gy_X7_size⟩
theorem lk_X8_188 : LkV RX8 188 m_X7_empty 0 := ⟨(List.forall_mem_cons.mpr ⟨w_626, (List.forall_mem_cons.mpr ⟨w_627, (List.forall_mem_cons.mpr ⟨w_628, (List.forall_mem_cons.mpr ⟨w_67, (List.forall_mem_nil _)⟩)⟩)⟩)⟩), gy_X7_empty⟩
theorem lf_X8_16 : LkF RX8 16 8 1 := ⟨RX8, TX8, 9, rfl, wsin_X8, Nat.le_of_ble_eq_true rfl, w_245⟩
theorem lk_X8_189 : LkV RX8 189 m_X6_become 1 := ⟨(List.forall_mem_cons.mpr ⟨w_634, (List.forall_mem_cons.mpr ⟨w_635, (List.forall_mem_cons.mpr ⟨w_636, (List.forall_mem_cons.mpr ⟨w_62, (List.forall_mem_nil _)⟩)⟩)⟩)⟩), gy_X6_become⟩
theorem lk_X8_192 : LkV RX8 192 m_X7_read 1 := ⟨(List.forall_mem_cons.mpr ⟨w_649, (List.forall_mem_cons.mpr ⟨w_650, (List.forall_mem_cons.mpr ⟨w_651, (List.forall_mem_cons.mpr ⟨w_67, (List.forall_mem_nil _)⟩)⟩)⟩)⟩), gy_X7_read⟩
theorem lk_X8_196 : LkV RX8 196 m_X7_fault 0 := ⟨(List.forall_mem_cons.mpr ⟨w_754, (List.forall_mem_cons.mpr ⟨w_755, (List.forall_mem_cons.mpr ⟨w_756, (List.forall_mem_cons.mpr ⟨w_67, (List.forall_mem_nil _)⟩)⟩)⟩)⟩), gy_X7_fault⟩
theorem kb_m20 : (Int8.ofInt (-20)).toInt32 = (-20 : Int32) := by decide
theorem lk_X8_199 : LkV RX8 199 m_X1_partOf 2 := ⟨(List.forall_mem_cons.mpr ⟨w_763, (List.forall_mem_cons.mpr ⟨w_764, (List.forall_mem_cons.mpr ⟨w_765, (List.forall_mem_cons.mpr ⟨w_63, (List.forall_mem_nil _)⟩)⟩)⟩)⟩), gy_X1_partOf⟩
theorem lk_X8_202 : LkV RX8 202 m_X8_isStone 1 := ⟨(List.forall_mem_cons.mpr ⟨w_771, (List.forall_mem_cons.mpr ⟨w_773, (List.forall_mem_cons.mpr ⟨w_12, (List.forall_mem_cons.mpr ⟨w_61, (List.forall_mem_nil _)⟩)⟩)⟩)⟩), gy_X8_isStone⟩
theorem lk_X8_205 : LkV RX8 205 m_X0_at 1 := ⟨(List.forall_mem_cons.mpr ⟨w_775, (List.forall_mem_cons.mpr ⟨w_515, (List.forall_mem_cons.mpr ⟨w_516, (List.forall_mem_cons.mpr ⟨w_64, (List.forall_mem_nil _)⟩)⟩)⟩)⟩), gy_X0_at⟩
theorem ks_999 : (Int16.ofInt (999)).toInt32 = (999 : Int32) := by decide
theorem lk_X8_207 : LkV RX8 207 m_X1_lineAt 1 := ⟨(List.forall_mem_cons.mpr ⟨w_780, (List.forall_mem_cons.mpr ⟨w_434, (List.forall_mem_cons.mpr ⟨w_435, (List.forall_mem_cons.mpr ⟨w_63, (List.forall_mem_nil _)⟩)⟩)⟩)⟩), gy_X1_lineAt⟩
theorem lk_X8_210 : LkV RX8 210 m_X2_ageOf 1 := ⟨(List.forall_mem_cons.mpr ⟨w_785, (List.forall_mem_cons.mpr ⟨w_398, (List.forall_mem_cons.mpr ⟨w_399, (List.forall_mem_cons.mpr ⟨w_66, (List.forall_mem_nil _)⟩)⟩)⟩)⟩), gy_X2_ageOf⟩
theorem lk_X8_213 : LkV RX8 213 m_X2_litOf 1 := ⟨(List.forall_mem_cons.mpr ⟨w_786, (List.forall_mem_cons.mpr ⟨w_537, (List.forall_mem_cons.mpr ⟨w_538, (List.forall_mem_cons.mpr ⟨w_66, (List.forall_mem_nil _)⟩)⟩)⟩)⟩), gy_X2_litOf⟩
theorem lk_X8_216 : LkV RX8 216 m_X2_outOf 1 := ⟨(List.forall_mem_cons.mpr ⟨w_787, (List.forall_mem_cons.mpr ⟨w_417, (List.forall_mem_cons.mpr ⟨w_418, (List.forall_mem_cons.mpr ⟨w_66, (List.forall_mem_nil _)⟩)⟩)⟩)⟩), gy_X2_outOf⟩
theorem lk_X8_219 : LkV RX8 219 m_X2_riseOf 1 := ⟨(List.forall_mem_cons.mpr ⟨w_788, (List.forall_mem_cons.mpr ⟨w_789, (List.forall_mem_cons.mpr ⟨w_790, (List.forall_mem_cons.mpr ⟨w_66, (List.forall_mem_nil _)⟩)⟩)⟩)⟩), gy_X2_riseOf⟩
theorem lk_X8_222 : LkV RX8 222 m_X2_wayOf 1 := ⟨(List.forall_mem_cons.mpr ⟨w_792, (List.forall_mem_cons.mpr ⟨w_495, (List.forall_mem_cons.mpr ⟨w_496, (List.forall_mem_cons.mpr ⟨w_66, (List.forall_mem_nil _)⟩)⟩)⟩)⟩), gy_X2_wayOf⟩
theorem lk_X8_225 : LkV RX8 225 m_X2_overOf 1 := ⟨(List.forall_mem_cons.mpr ⟨w_793, (List.forall_mem_cons.mpr ⟨w_794, (List.forall_mem_cons.mpr ⟨w_795, (List.forall_mem_cons.mpr ⟨w_66, (List.forall_mem_nil _)⟩)⟩)⟩)⟩), gy_X2_overOf⟩
theorem lk_X8_228 : LkV RX8 228 m_X2_upOf 1 := ⟨(List.forall_mem_cons.mpr ⟨w_797, (List.forall_mem_cons.mpr ⟨w_409, (List.forall_mem_cons.mpr ⟨w_410, (List.forall_mem_cons.mpr ⟨w_66, (List.forall_mem_nil _)⟩)⟩)⟩)⟩), gy_X2_upOf⟩
theorem lk_X8_231 : LkV RX8 231 m_X2_laterOf 1 := ⟨(List.forall_mem_cons.mpr ⟨w_798, (List.forall_mem_cons.mpr ⟨w_405, (List.forall_mem_cons.mpr ⟨w_406, (List.forall_mem_cons.mpr ⟨w_66, (List.forall_mem_nil _)⟩)⟩)⟩)⟩), gy_X2_laterOf⟩
theorem lk_X8_234 : LkV RX8 234 m_X2_degreeOf 1 := ⟨(List.forall_mem_cons.mpr ⟨w_799, (List.forall_mem_cons.mpr ⟨w_491, (List.forall_mem_cons.mpr ⟨w_492, (List.forall_mem_cons.mpr ⟨w_66, (List.forall_mem_nil _)⟩)⟩)⟩)⟩), gy_X2_degreeOf⟩
theorem tsv_0_9 : ∀ i, i < ([(0 : Int32), (1 : Int32), (2 : Int32), (3 : Int32), (4 : Int32), (5 : Int32), (6 : Int32), (7 : Int32), (8 : Int32)] : List Int32).length → (([(0 : Int32), (1 : Int32), (2 : Int32), (3 : Int32), (4 : Int32), (5 : Int32), (6 : Int32), (7 : Int32), (8 : Int32)] : List Int32).getD i 0).toInt = (0 : Int) + i := by decide +kernel
theorem lk_X8_240 : LkV RX8 240 m_X8_refuseFarBelow 1 := ⟨(List.forall_mem_cons.mpr ⟨w_805, (List.forall_mem_cons.mpr ⟨w_807, (List.forall_mem_cons.mpr ⟨w_13, (List.forall_mem_cons.mpr ⟨w_61, (List.forall_mem_nil _)⟩)⟩)⟩)⟩), gy_X8_refuseFarBelow⟩
theorem lk_X8_237 : LkV RX8 237 m_X2_slantOf 1 := ⟨(List.forall_mem_cons.mpr ⟨w_804, (List.forall_mem_cons.mpr ⟨w_413, (List.forall_mem_cons.mpr ⟨w_414, (List.forall_mem_cons.mpr ⟨w_66, (List.forall_mem_nil _)⟩)⟩)⟩)⟩), gy_X2_slantOf⟩
theorem lk_X8_243 : LkV RX8 243 m_X2_behindOf 1 := ⟨(List.forall_mem_cons.mpr ⟨w_814, (List.forall_mem_cons.mpr ⟨w_499, (List.forall_mem_cons.mpr ⟨w_500, (List.forall_mem_cons.mpr ⟨w_66, (List.forall_mem_nil _)⟩)⟩)⟩)⟩), gy_X2_behindOf⟩
theorem lk_X8_246 : LkS RX8 246 m_X8_areMinutes 2 := ⟨(List.forall_mem_cons.mpr ⟨w_823, (List.forall_mem_cons.mpr ⟨w_824, (List.forall_mem_cons.mpr ⟨w_61, (List.forall_mem_nil _)⟩)⟩)⟩), gy_X8_areMinutes⟩
theorem lk_X8_249 : LkV RX8 249 m_X2_shinesOf 3 := ⟨(List.forall_mem_cons.mpr ⟨w_826, (List.forall_mem_cons.mpr ⟨w_439, (List.forall_mem_cons.mpr ⟨w_440, (List.forall_mem_cons.mpr ⟨w_66, (List.forall_mem_nil _)⟩)⟩)⟩)⟩), gy_X2_shinesOf⟩
theorem lk_X8_253 : LkV RX8 253 m_X2_lightOf 3 := ⟨(List.forall_mem_cons.mpr ⟨w_831, (List.forall_mem_cons.mpr ⟨w_832, (List.forall_mem_cons.mpr ⟨w_833, (List.forall_mem_cons.mpr ⟨w_66, (List.forall_mem_nil _)⟩)⟩)⟩)⟩), gy_X2_lightOf⟩
theorem lk_X8_256 : LkV RX8 256 m_X2_pick 4 := ⟨(List.forall_mem_cons.mpr ⟨w_839, (List.forall_mem_cons.mpr ⟨w_840, (List.forall_mem_cons.mpr ⟨w_841, (List.forall_mem_cons.mpr ⟨w_66, (List.forall_mem_nil _)⟩)⟩)⟩)⟩), gy_X2_pick⟩
theorem lk_X8_260 : LkS RX8 260 m_X8_areDays 2 := ⟨(List.forall_mem_cons.mpr ⟨w_851, (List.forall_mem_cons.mpr ⟨w_852, (List.forall_mem_cons.mpr ⟨w_61, (List.forall_mem_nil _)⟩)⟩)⟩), gy_X8_areDays⟩
theorem lk_X8_263 : LkI RX8 263 m_X4_init__ 4 := ⟨(List.forall_mem_cons.mpr ⟨w_858, (List.forall_mem_cons.mpr ⟨w_859, (List.forall_mem_cons.mpr ⟨w_73, (List.forall_mem_nil _)⟩)⟩)⟩), gy_X4_init__, rfl, rfl⟩
theorem lk_X8_266 : LkV RX8 266 m_X8_orStuck 1 := ⟨(List.forall_mem_cons.mpr ⟨w_861, (List.forall_mem_cons.mpr ⟨w_863, (List.forall_mem_cons.mpr ⟨w_14, (List.forall_mem_cons.mpr ⟨w_61, (List.forall_mem_nil _)⟩)⟩)⟩)⟩), gy_X8_orStuck⟩
theorem ks_9991 : (Int16.ofInt (9991)).toInt32 = (9991 : Int32) := by decide
theorem lk_X8_269 : LkV RX8 269 m_X2_bestOf 3 := ⟨(List.forall_mem_cons.mpr ⟨w_869, (List.forall_mem_cons.mpr ⟨w_870, (List.forall_mem_cons.mpr ⟨w_871, (List.forall_mem_cons.mpr ⟨w_66, (List.forall_mem_nil _)⟩)⟩)⟩)⟩), gy_X2_bestOf⟩
theorem lk_X8_272 : LkS RX8 272 m_X2_lastOf 2 := ⟨(List.forall_mem_cons.mpr ⟨w_891, (List.forall_mem_cons.mpr ⟨w_844, (List.forall_mem_cons.mpr ⟨w_66, (List.forall_mem_nil _)⟩)⟩)⟩), gy_X2_lastOf⟩
theorem ks_9998 : (Int16.ofInt (9998)).toInt32 = (9998 : Int32) := by decide
theorem lk_X8_275 : LkS RX8 275 m_J9_min_7cf53 2 := ⟨(List.forall_mem_cons.mpr ⟨w_912, (List.forall_mem_cons.mpr ⟨w_292, (List.forall_mem_cons.mpr ⟨w_65, (List.forall_mem_nil _)⟩)⟩)⟩), gy_J9_min_7cf53⟩
theorem lk_X8_280 : LkS RX8 280 m_J9_max_7cf53 2 := ⟨(List.forall_mem_cons.mpr ⟨w_913, (List.forall_mem_cons.mpr ⟨w_106, (List.forall_mem_cons.mpr ⟨w_65, (List.forall_mem_nil _)⟩)⟩)⟩), gy_J9_max_7cf53⟩
theorem lk_X8_283 : LkV RX8 283 m_X2_newDaysTill 1 := ⟨(List.forall_mem_cons.mpr ⟨w_922, (List.forall_mem_cons.mpr ⟨w_923, (List.forall_mem_cons.mpr ⟨w_924, (List.forall_mem_cons.mpr ⟨w_66, (List.forall_mem_nil _)⟩)⟩)⟩)⟩), gy_X2_newDaysTill⟩
theorem lk_X8_289 : LkV RX8 289 m_X2_degreeAt 2 := ⟨(List.forall_mem_cons.mpr ⟨w_942, (List.forall_mem_cons.mpr ⟨w_943, (List.forall_mem_cons.mpr ⟨w_944, (List.forall_mem_cons.mpr ⟨w_66, (List.forall_mem_nil _)⟩)⟩)⟩)⟩), gy_X2_degreeAt⟩
theorem lk_X8_286 : LkV RX8 286 m_X2_heightAt 2 := ⟨(List.forall_mem_cons.mpr ⟨w_937, (List.forall_mem_cons.mpr ⟨w_938, (List.forall_mem_cons.mpr ⟨w_939, (List.forall_mem_cons.mpr ⟨w_66, (List.forall_mem_nil _)⟩)⟩)⟩)⟩), gy_X2_heightAt⟩
theorem kL_X8_292 : Cond.constantLong RX8 292 (1000 : Int64) ∈ ALL := w_950
theorem kL_X8_294 : Cond.constantLong RX8 294 (1439 : Int64) ∈ ALL := w_951
theorem lk_X8_296 : LkI RX8 296 m_X4_init___ 1 := ⟨(List.forall_mem_cons.mpr ⟨w_952, (List.forall_mem_cons.mpr ⟨w_953, (List.forall_mem_cons.mpr ⟨w_73, (List.forall_mem_nil _)⟩)⟩)⟩), gy_X4_init___, rfl, rfl⟩
theorem lk_X8_303 : LkV RX8 303 m_X2_couldBegin 1 := ⟨(List.forall_mem_cons.mpr ⟨w_967, (List.forall_mem_cons.mpr ⟨w_968, (List.forall_mem_cons.mpr ⟨w_969, (List.forall_mem_cons.mpr ⟨w_66, (List.forall_mem_nil _)⟩)⟩)⟩)⟩), gy_X2_couldBegin⟩
theorem lk_X8_370 : LkV RX8 370 m_X5_timesOf 2 := ⟨(List.forall_mem_cons.mpr ⟨w_972, (List.forall_mem_cons.mpr ⟨w_973, (List.forall_mem_cons.mpr ⟨w_974, (List.forall_mem_cons.mpr ⟨w_69, (List.forall_mem_nil _)⟩)⟩)⟩)⟩), gy_X5_timesOf⟩
theorem lk_X8_299 : LkV RX8 299 m_X8_toldByMost 2 := ⟨(List.forall_mem_cons.mpr ⟨w_963, (List.forall_mem_cons.mpr ⟨w_965, (List.forall_mem_cons.mpr ⟨w_15, (List.forall_mem_cons.mpr ⟨w_61, (List.forall_mem_nil _)⟩)⟩)⟩)⟩), gy_X8_toldByMost⟩
theorem lk_X8_307 : LkV RX8 307 m_X2_tideAt 2 := ⟨(List.forall_mem_cons.mpr ⟨w_984, (List.forall_mem_cons.mpr ⟨w_985, (List.forall_mem_cons.mpr ⟨w_986, (List.forall_mem_cons.mpr ⟨w_66, (List.forall_mem_nil _)⟩)⟩)⟩)⟩), gy_X2_tideAt⟩
theorem lk_X8_310 : LkV RX8 310 m_X2_highWaterOf 1 := ⟨(List.forall_mem_cons.mpr ⟨w_996, (List.forall_mem_cons.mpr ⟨w_989, (List.forall_mem_cons.mpr ⟨w_990, (List.forall_mem_cons.mpr ⟨w_66, (List.forall_mem_nil _)⟩)⟩)⟩)⟩), gy_X2_highWaterOf⟩
theorem lk_X8_319 : LkV RX8 319 m_X5_threesOfMonths 1 := ⟨(List.forall_mem_cons.mpr ⟨w_1016, (List.forall_mem_cons.mpr ⟨w_1017, (List.forall_mem_cons.mpr ⟨w_1018, (List.forall_mem_cons.mpr ⟨w_69, (List.forall_mem_nil _)⟩)⟩)⟩)⟩), gy_X5_threesOfMonths⟩
theorem lk_X8_316 : LkV RX8 316 m_X5_longestRun 1 := ⟨(List.forall_mem_cons.mpr ⟨w_1011, (List.forall_mem_cons.mpr ⟨w_1012, (List.forall_mem_cons.mpr ⟨w_1013, (List.forall_mem_cons.mpr ⟨w_69, (List.forall_mem_nil _)⟩)⟩)⟩)⟩), gy_X5_longestRun⟩
theorem lk_X8_313 : LkV RX8 313 m_X5_monthCounts 1 := ⟨(List.forall_mem_cons.mpr ⟨w_1001, (List.forall_mem_cons.mpr ⟨w_1002, (List.forall_mem_cons.mpr ⟨w_1003, (List.forall_mem_cons.mpr ⟨w_69, (List.forall_mem_nil _)⟩)⟩)⟩)⟩), gy_X5_monthCounts⟩
theorem lf_X8_41 : LkF RX8 41 8 5 := ⟨RX8, TX8, 9, rfl, wsin_X8, Nat.le_of_ble_eq_true rfl, w_249⟩
theorem lk_X8_374 : LkV RX8 374 m_X3_near 2 := ⟨(List.forall_mem_cons.mpr ⟨w_1041, (List.forall_mem_cons.mpr ⟨w_1042, (List.forall_mem_cons.mpr ⟨w_1043, (List.forall_mem_cons.mpr ⟨w_68, (List.forall_mem_nil _)⟩)⟩)⟩)⟩), gy_X3_near⟩
theorem kb_20 : (Int8.ofInt (20)).toInt32 = (20 : Int32) := by decide
theorem lk_X8_322 : LkV RX8 322 m_X3_gather 3 := ⟨(List.forall_mem_cons.mpr ⟨w_1030, (List.forall_mem_cons.mpr ⟨w_1031, (List.forall_mem_cons.mpr ⟨w_1032, (List.forall_mem_cons.mpr ⟨w_68, (List.forall_mem_nil _)⟩)⟩)⟩)⟩), gy_X3_gather⟩
theorem lk_X8_326 : LkV RX8 326 m_X8_stonesThatHit 1 := ⟨(List.forall_mem_cons.mpr ⟨w_1037, (List.forall_mem_cons.mpr ⟨w_1039, (List.forall_mem_cons.mpr ⟨w_17, (List.forall_mem_cons.mpr ⟨w_61, (List.forall_mem_nil _)⟩)⟩)⟩)⟩), gy_X8_stonesThatHit⟩
theorem lk_X8_329 : LkV RX8 329 m_X3_degreesThatHit 1 := ⟨(List.forall_mem_cons.mpr ⟨w_1050, (List.forall_mem_cons.mpr ⟨w_1051, (List.forall_mem_cons.mpr ⟨w_1052, (List.forall_mem_cons.mpr ⟨w_68, (List.forall_mem_nil _)⟩)⟩)⟩)⟩), gy_X3_degreesThatHit⟩
theorem lk_X8_332 : LkV RX8 332 m_X3_fullest 1 := ⟨(List.forall_mem_cons.mpr ⟨w_1063, (List.forall_mem_cons.mpr ⟨w_1064, (List.forall_mem_cons.mpr ⟨w_1065, (List.forall_mem_cons.mpr ⟨w_68, (List.forall_mem_nil _)⟩)⟩)⟩)⟩), gy_X3_fullest⟩
theorem lk_X8_335 : LkS RX8 335 m_J6_bitCount_0f7a4 1 := ⟨(List.forall_mem_cons.mpr ⟨w_1071, (List.forall_mem_cons.mpr ⟨w_1072, (List.forall_mem_cons.mpr ⟨w_78, (List.forall_mem_nil _)⟩)⟩)⟩), gy_J6_bitCount_0f7a4⟩
theorem ks_2952 : (Int16.ofInt (2952)).toInt32 = (2952 : Int32) := by decide
theorem lk_X8_340 : LkS RX8 340 m_J9_floorMod_7cf53 2 := ⟨(List.forall_mem_cons.mpr ⟨w_1081, (List.forall_mem_cons.mpr ⟨w_424, (List.forall_mem_cons.mpr ⟨w_65, (List.forall_mem_nil _)⟩)⟩)⟩), gy_J9_floorMod_7cf53⟩
theorem lp_X8_343 : LkP RX8 343 6 0 false .int := ⟨RX6, TX6, 10, tyX6, rfl, wsin_X6, Nat.le_of_ble_eq_true rfl, w_133, tyX6_ok, nmX6, rfl, by decide +kernel, fun h => Bool.noConfusion h⟩
theorem lk_X8_377 : LkV RX8 377 m_X6_draw 1 := ⟨(List.forall_mem_cons.mpr ⟨w_1090, (List.forall_mem_cons.mpr ⟨w_1091, (List.forall_mem_cons.mpr ⟨w_1092, (List.forall_mem_cons.mpr ⟨w_62, (List.forall_mem_nil _)⟩)⟩)⟩)⟩), gy_X6_draw⟩
theorem lf_X8_380 : LkF RX8 380 6 3 := ⟨RX6, TX6, 10, rfl, wsin_X6, Nat.le_of_ble_eq_true rfl, w_139⟩
theorem lf_X8_347 : LkF RX8 347 6 7 := ⟨RX6, TX6, 10, rfl, wsin_X6, Nat.le_of_ble_eq_true rfl, w_152⟩
theorem lp_X8_347 : LkP RX8 347 6 7 false .int := ⟨RX6, TX6, 10, tyX6, rfl, wsin_X6, Nat.le_of_ble_eq_true rfl, w_152, tyX6_ok, nmX6, rfl, by decide +kernel, fun h => Bool.noConfusion h⟩
theorem lf_X8_353 : LkF RX8 353 6 8 := ⟨RX6, TX6, 10, rfl, wsin_X6, Nat.le_of_ble_eq_true rfl, w_154⟩
theorem lp_X8_353 : LkP RX8 353 6 8 false .int := ⟨RX6, TX6, 10, tyX6, rfl, wsin_X6, Nat.le_of_ble_eq_true rfl, w_154, tyX6_ok, nmX6, rfl, by decide +kernel, fun h => Bool.noConfusion h⟩
theorem lk_X8_350 : LkV RX8 350 m_X8_letEveningPass 0 := ⟨(List.forall_mem_cons.mpr ⟨w_1086, (List.forall_mem_cons.mpr ⟨w_1088, (List.forall_mem_cons.mpr ⟨w_18, (List.forall_mem_cons.mpr ⟨w_61, (List.forall_mem_nil _)⟩)⟩)⟩)⟩), gy_X8_letEveningPass⟩
theorem lf_X8_356 : LkF RX8 356 6 9 := ⟨RX6, TX6, 10, rfl, wsin_X6, Nat.le_of_ble_eq_true rfl, w_156⟩
theorem lp_X8_356 : LkP RX8 356 6 9 false .int := ⟨RX6, TX6, 10, tyX6, rfl, wsin_X6, Nat.le_of_ble_eq_true rfl, w_156, tyX6_ok, nmX6, rfl, by decide +kernel, fun h => Bool.noConfusion h⟩
theorem lf_X8_19 : LkF RX8 19 8 2 := ⟨RX8, TX8, 9, rfl, wsin_X8, Nat.le_of_ble_eq_true rfl, w_246⟩
theorem lp_X8_359 : LkP RX8 359 8 8 false .boolean := ⟨RX8, TX8, 9, tyX8, rfl, wsin_X8, Nat.le_of_ble_eq_true rfl, w_252, tyX8_ok, nmX8, rfl, by decide +kernel, fun h => Bool.noConfusion h⟩
theorem lf_X8_359 : LkF RX8 359 8 8 := ⟨RX8, TX8, 9, rfl, wsin_X8, Nat.le_of_ble_eq_true rfl, w_252⟩
theorem lk_X8_363 : LkV RX8 363 m_X8_shelvesInUse 0 := ⟨(List.forall_mem_cons.mpr ⟨w_1115, (List.forall_mem_cons.mpr ⟨w_1117, (List.forall_mem_cons.mpr ⟨w_19, (List.forall_mem_cons.mpr ⟨w_61, (List.forall_mem_nil _)⟩)⟩)⟩)⟩), gy_X8_shelvesInUse⟩
theorem kb_12 : (Int8.ofInt (12)).toInt32 = (12 : Int32) := by decide
theorem lk_X8_366 : LkV RX8 366 m_X8_refusalsAt 1 := ⟨(List.forall_mem_cons.mpr ⟨w_1119, (List.forall_mem_cons.mpr ⟨w_1121, (List.forall_mem_cons.mpr ⟨w_20, (List.forall_mem_cons.mpr ⟨w_61, (List.forall_mem_nil _)⟩)⟩)⟩)⟩), gy_X8_refusalsAt⟩
