theorem inP (i : Nat) {w : Cond} (h : (k2_sels lw_privs)[i]? = some w) (hg : goodWord w = true) : w ∈ ALL := List.mem_filter.mpr ⟨List.mem_append_left _ (List.mem_of_getElem? h), hg⟩
theorem inT_1 (i : Nat) {w : Cond} (h : tables_1_1[i]? = some w) (hg : goodWord w = true) : w ∈ ALL := List.mem_filter.mpr ⟨List.mem_append_right _ (List.mem_append_left _ (List.mem_of_getElem? h)), hg⟩
theorem inT_2 (i : Nat) {w : Cond} (h : tables_1_2[i]? = some w) (hg : goodWord w = true) : w ∈ ALL := List.mem_filter.mpr ⟨List.mem_append_right _ (List.mem_append_right _ (List.mem_append_left _ (List.mem_of_getElem? h))), hg⟩
theorem inT_3 (i : Nat) {w : Cond} (h : tables_1_3[i]? = some w) (hg : goodWord w = true) : w ∈ ALL := List.mem_filter.mpr ⟨List.mem_append_right _ (List.mem_append_right _ (List.mem_append_right _ (List.mem_append_left _ (List.mem_of_getElem? h)))), hg⟩
theorem inT_4 (i : Nat) {w : Cond} (h : tables_1_4[i]? = some w) (hg : goodWord w = true) : w ∈ ALL := List.mem_filter.mpr ⟨List.mem_append_right _ (List.mem_append_right _ (List.mem_append_right _ (List.mem_append_right _ (List.mem_append_left _ (List.mem_of_getElem? h))))), hg⟩
theorem inT_5 (i : Nat) {w : Cond} (h : tables_1_5[i]? = some w) (hg : goodWord w = true) : w ∈ ALL := List.mem_filter.mpr ⟨List.mem_append_right _ (List.mem_append_right _ (List.mem_append_right _ (List.mem_append_right _ (List.mem_append_right _ (List.mem_append_left _ (List.mem_of_getElem? h)))))), hg⟩
theorem inT_6 (i : Nat) {w : Cond} (h : tables_1_6[i]? = some w) (hg : goodWord w = true) : w ∈ ALL := List.mem_filter.mpr ⟨List.mem_append_right _ (List.mem_append_right _ (List.mem_append_right _ (List.mem_append_right _ (List.mem_append_right _ (List.mem_append_right _ (List.mem_append_left _ (List.mem_of_getElem? h))))))), hg⟩
theorem inT_7 (i : Nat) {w : Cond} (h : tables_1_7[i]? = some w) (hg : goodWord w = true) : w ∈ ALL := List.mem_filter.mpr ⟨List.mem_append_right _ (List.mem_append_right _ (List.mem_append_right _ (List.mem_append_right _ (List.mem_append_right _ (List.mem_append_right _ (List.mem_append_right _ (List.mem_of_getElem? h))))))), hg⟩
theorem w_682 : (Jvm.Cond.fieldLink "java/lang/String" (38 : Nat) "java/lang/String" "COMPACT_STRINGS" "Z") ∈ ALL := inT_3 142 rfl rfl
theorem w_1699 : (Jvm.Cond.fieldLink "java/lang/String" (15 : Nat) "java/lang/String" "coder" "B") ∈ ALL := inT_7 199 rfl rfl
theorem w_74 : (Jvm.Cond.initialized "java/lang/String") ∈ ALL := inT_1 14 rfl rfl
theorem w_680 : (Jvm.Cond.selects "java/lang/String" ({ cls := "java/lang/String", name := "coder", desc := "()B" } : Jvm.MethodName) ({ cls := "java/lang/String", name := "coder", desc := "()B" } : Jvm.MethodName)) ∈ ALL := inT_3 140 rfl rfl
theorem w_679 : (Jvm.Cond.instanceMethod ({ cls := "java/lang/String", name := "coder", desc := "()B" } : Jvm.MethodName)) ∈ ALL := inT_3 139 rfl rfl
theorem w_678 : (Jvm.Cond.methodLink "java/lang/String" (335 : Nat) ({ cls := "java/lang/String", name := "coder", desc := "()B" } : Jvm.MethodName)) ∈ ALL := inT_3 138 rfl rfl
theorem w_1698 : (Jvm.Cond.fieldLink "java/lang/String" (9 : Nat) "java/lang/String" "value" "[B") ∈ ALL := inT_7 198 rfl rfl
theorem w_76 : (Jvm.Cond.initialized "jdk/internal/util/Preconditions") ∈ ALL := inT_1 16 rfl rfl
theorem w_701 : (Jvm.Cond.static ({ cls := "jdk/internal/util/Preconditions", name := "checkIndex", desc := "(IILjava/util/function/BiFunction;)I" } : Jvm.MethodName)) ∈ ALL := inT_3 161 rfl rfl
theorem w_700 : (Jvm.Cond.methodLink "java/lang/String" (1059 : Nat) ({ cls := "jdk/internal/util/Preconditions", name := "checkIndex", desc := "(IILjava/util/function/BiFunction;)I" } : Jvm.MethodName)) ∈ ALL := inT_3 160 rfl rfl
theorem w_698 : (Jvm.Cond.fieldLink "java/lang/String" (1053 : Nat) "jdk/internal/util/Preconditions" "SIOOBE_FORMATTER" "Ljava/util/function/BiFunction;") ∈ ALL := inT_3 158 rfl rfl
theorem w_696 : (Jvm.Cond.static ({ cls := "java/lang/String", name := "checkIndex", desc := "(II)V" } : Jvm.MethodName)) ∈ ALL := inT_3 156 rfl rfl
theorem w_695 : (Jvm.Cond.methodLink "java/lang/StringLatin1" (9 : Nat) ({ cls := "java/lang/String", name := "checkIndex", desc := "(II)V" } : Jvm.MethodName)) ∈ ALL := inT_3 155 rfl rfl
theorem w_690 : (Jvm.Cond.selects "java/lang/String" ({ cls := "java/lang/String", name := "isLatin1", desc := "()Z" } : Jvm.MethodName) ({ cls := "java/lang/String", name := "isLatin1", desc := "()Z" } : Jvm.MethodName)) ∈ ALL := inT_3 150 rfl rfl
theorem w_689 : (Jvm.Cond.instanceMethod ({ cls := "java/lang/String", name := "isLatin1", desc := "()Z" } : Jvm.MethodName)) ∈ ALL := inT_3 149 rfl rfl
theorem w_688 : (Jvm.Cond.methodLink "java/lang/String" (492 : Nat) ({ cls := "java/lang/String", name := "isLatin1", desc := "()Z" } : Jvm.MethodName)) ∈ ALL := inT_3 148 rfl rfl
theorem w_75 : (Jvm.Cond.initialized "java/lang/StringLatin1") ∈ ALL := inT_1 15 rfl rfl
theorem w_693 : (Jvm.Cond.static ({ cls := "java/lang/StringLatin1", name := "charAt", desc := "([BI)C" } : Jvm.MethodName)) ∈ ALL := inT_3 153 rfl rfl
theorem w_692 : (Jvm.Cond.methodLink "java/lang/String" (495 : Nat) ({ cls := "java/lang/StringLatin1", name := "charAt", desc := "([BI)C" } : Jvm.MethodName)) ∈ ALL := inT_3 152 rfl rfl
theorem w_61 : (Jvm.Cond.initialized "MoonOverTheHill") ∈ ALL := inT_1 1 rfl rfl
theorem w_281 : (Jvm.Cond.static ({ cls := "MoonOverTheHill", name := "isIn", desc := "(III)Z" } : Jvm.MethodName)) ∈ ALL := inT_1 221 rfl rfl
theorem w_280 : (Jvm.Cond.methodLink "MoonOverTheHill" (60 : Nat) ({ cls := "MoonOverTheHill", name := "isIn", desc := "(III)Z" } : Jvm.MethodName)) ∈ ALL := inT_1 220 rfl rfl
theorem w_372 : (Jvm.Cond.static ({ cls := "MoonOverTheHill", name := "isDay", desc := "(I)Z" } : Jvm.MethodName)) ∈ ALL := inT_2 72 rfl rfl
theorem w_371 : (Jvm.Cond.methodLink "MoonOverTheHill" (113 : Nat) ({ cls := "MoonOverTheHill", name := "isDay", desc := "(I)Z" } : Jvm.MethodName)) ∈ ALL := inT_2 71 rfl rfl
theorem w_109 : (Jvm.Cond.fieldLink "MoonOverTheHill$Few" (21 : Nat) "MoonOverTheHill$Few" "count" "I") ∈ ALL := inT_1 49 rfl rfl
theorem w_108 : (Jvm.Cond.fieldLink "MoonOverTheHill$Few" (15 : Nat) "MoonOverTheHill$Few" "items" "[I") ∈ ALL := inT_1 48 rfl rfl
theorem w_64 : (Jvm.Cond.initialized "MoonOverTheHill$Few") ∈ ALL := inT_1 4 rfl rfl
theorem w_516 : (Jvm.Cond.selects "MoonOverTheHill$Few" ({ cls := "MoonOverTheHill$Few", name := "at", desc := "(I)I" } : Jvm.MethodName) ({ cls := "MoonOverTheHill$Few", name := "at", desc := "(I)I" } : Jvm.MethodName)) ∈ ALL := inT_2 216 rfl rfl
theorem w_515 : (Jvm.Cond.instanceMethod ({ cls := "MoonOverTheHill$Few", name := "at", desc := "(I)I" } : Jvm.MethodName)) ∈ ALL := inT_2 215 rfl rfl
theorem w_527 : (Jvm.Cond.methodLink "MoonOverTheHill$Few" (25 : Nat) ({ cls := "MoonOverTheHill$Few", name := "at", desc := "(I)I" } : Jvm.MethodName)) ∈ ALL := inT_2 227 rfl rfl
theorem w_575 : (Jvm.Cond.selects "MoonOverTheHill$Few" ({ cls := "MoonOverTheHill$Few", name := "add", desc := "(I)V" } : Jvm.MethodName) ({ cls := "MoonOverTheHill$Few", name := "add", desc := "(I)V" } : Jvm.MethodName)) ∈ ALL := inT_3 35 rfl rfl
theorem w_574 : (Jvm.Cond.instanceMethod ({ cls := "MoonOverTheHill$Few", name := "add", desc := "(I)V" } : Jvm.MethodName)) ∈ ALL := inT_3 34 rfl rfl
theorem w_646 : (Jvm.Cond.methodLink "MoonOverTheHill$Few" (29 : Nat) ({ cls := "MoonOverTheHill$Few", name := "add", desc := "(I)V" } : Jvm.MethodName)) ∈ ALL := inT_3 106 rfl rfl
theorem w_116 : (Jvm.Cond.fieldLink "MoonOverTheHill$Hill" (16 : Nat) "MoonOverTheHill$Hill" "from" "LMoonOverTheHill$Few;") ∈ ALL := inT_1 56 rfl rfl
theorem w_512 : (Jvm.Cond.selects "MoonOverTheHill$Few" ({ cls := "MoonOverTheHill$Few", name := "count", desc := "()I" } : Jvm.MethodName) ({ cls := "MoonOverTheHill$Few", name := "count", desc := "()I" } : Jvm.MethodName)) ∈ ALL := inT_2 212 rfl rfl
theorem w_511 : (Jvm.Cond.instanceMethod ({ cls := "MoonOverTheHill$Few", name := "count", desc := "()I" } : Jvm.MethodName)) ∈ ALL := inT_2 211 rfl rfl
theorem w_510 : (Jvm.Cond.methodLink "MoonOverTheHill$Hill" (30 : Nat) ({ cls := "MoonOverTheHill$Few", name := "count", desc := "()I" } : Jvm.MethodName)) ∈ ALL := inT_2 210 rfl rfl
theorem w_567 : (Jvm.Cond.selects "MoonOverTheHill$Few" ({ cls := "MoonOverTheHill$Few", name := "isFull", desc := "()Z" } : Jvm.MethodName) ({ cls := "MoonOverTheHill$Few", name := "isFull", desc := "()Z" } : Jvm.MethodName)) ∈ ALL := inT_3 27 rfl rfl
theorem w_566 : (Jvm.Cond.instanceMethod ({ cls := "MoonOverTheHill$Few", name := "isFull", desc := "()Z" } : Jvm.MethodName)) ∈ ALL := inT_3 26 rfl rfl
theorem w_565 : (Jvm.Cond.methodLink "MoonOverTheHill$Hill" (34 : Nat) ({ cls := "MoonOverTheHill$Few", name := "isFull", desc := "()Z" } : Jvm.MethodName)) ∈ ALL := inT_3 25 rfl rfl
theorem w_573 : (Jvm.Cond.methodLink "MoonOverTheHill$Hill" (38 : Nat) ({ cls := "MoonOverTheHill$Few", name := "add", desc := "(I)V" } : Jvm.MethodName)) ∈ ALL := inT_3 33 rfl rfl
theorem w_117 : (Jvm.Cond.fieldLink "MoonOverTheHill$Hill" (20 : Nat) "MoonOverTheHill$Hill" "to" "LMoonOverTheHill$Few;") ∈ ALL := inT_1 57 rfl rfl
theorem w_118 : (Jvm.Cond.fieldLink "MoonOverTheHill$Hill" (23 : Nat) "MoonOverTheHill$Hill" "height" "LMoonOverTheHill$Few;") ∈ ALL := inT_1 58 rfl rfl
theorem w_65 : (Jvm.Cond.initialized "java/lang/Math") ∈ ALL := inT_1 5 rfl rfl
theorem w_106 : (Jvm.Cond.static ({ cls := "java/lang/Math", name := "max", desc := "(II)I" } : Jvm.MethodName)) ∈ ALL := inT_1 46 rfl rfl
theorem w_437 : (Jvm.Cond.methodLink "MoonOverTheHill$Hill" (41 : Nat) ({ cls := "java/lang/Math", name := "max", desc := "(II)I" } : Jvm.MethodName)) ∈ ALL := inT_2 137 rfl rfl
theorem w_119 : (Jvm.Cond.fieldLink "MoonOverTheHill$Hill" (26 : Nat) "MoonOverTheHill$Hill" "line" "[I") ∈ ALL := inT_1 59 rfl rfl
theorem w_514 : (Jvm.Cond.methodLink "MoonOverTheHill$Hill" (47 : Nat) ({ cls := "MoonOverTheHill$Few", name := "at", desc := "(I)I" } : Jvm.MethodName)) ∈ ALL := inT_2 214 rfl rfl
theorem w_63 : (Jvm.Cond.initialized "MoonOverTheHill$Hill") ∈ ALL := inT_1 3 rfl rfl
theorem w_435 : (Jvm.Cond.selects "MoonOverTheHill$Hill" ({ cls := "MoonOverTheHill$Hill", name := "lineAt", desc := "(I)I" } : Jvm.MethodName) ({ cls := "MoonOverTheHill$Hill", name := "lineAt", desc := "(I)I" } : Jvm.MethodName)) ∈ ALL := inT_2 135 rfl rfl
theorem w_434 : (Jvm.Cond.instanceMethod ({ cls := "MoonOverTheHill$Hill", name := "lineAt", desc := "(I)I" } : Jvm.MethodName)) ∈ ALL := inT_2 134 rfl rfl
theorem w_433 : (Jvm.Cond.methodLink "MoonOverTheHill$Hill" (51 : Nat) ({ cls := "MoonOverTheHill$Hill", name := "lineAt", desc := "(I)I" } : Jvm.MethodName)) ∈ ALL := inT_2 133 rfl rfl
theorem w_508 : (Jvm.Cond.selects "MoonOverTheHill$Hill" ({ cls := "MoonOverTheHill$Hill", name := "count", desc := "()I" } : Jvm.MethodName) ({ cls := "MoonOverTheHill$Hill", name := "count", desc := "()I" } : Jvm.MethodName)) ∈ ALL := inT_2 208 rfl rfl
theorem w_507 : (Jvm.Cond.instanceMethod ({ cls := "MoonOverTheHill$Hill", name := "count", desc := "()I" } : Jvm.MethodName)) ∈ ALL := inT_2 207 rfl rfl
theorem w_506 : (Jvm.Cond.methodLink "MoonOverTheHill$Hill" (54 : Nat) ({ cls := "MoonOverTheHill$Hill", name := "count", desc := "()I" } : Jvm.MethodName)) ∈ ALL := inT_2 206 rfl rfl
theorem w_600 : (Jvm.Cond.selects "MoonOverTheHill$Few" ({ cls := "MoonOverTheHill$Few", name := "empty", desc := "()V" } : Jvm.MethodName) ({ cls := "MoonOverTheHill$Few", name := "empty", desc := "()V" } : Jvm.MethodName)) ∈ ALL := inT_3 60 rfl rfl
theorem w_599 : (Jvm.Cond.instanceMethod ({ cls := "MoonOverTheHill$Few", name := "empty", desc := "()V" } : Jvm.MethodName)) ∈ ALL := inT_3 59 rfl rfl
theorem w_598 : (Jvm.Cond.methodLink "MoonOverTheHill$Hill" (59 : Nat) ({ cls := "MoonOverTheHill$Few", name := "empty", desc := "()V" } : Jvm.MethodName)) ∈ ALL := inT_3 58 rfl rfl
theorem w_71 : (Jvm.Cond.initialized "java/util/Arrays") ∈ ALL := inT_1 11 rfl rfl
theorem w_603 : (Jvm.Cond.static ({ cls := "java/util/Arrays", name := "fill", desc := "([II)V" } : Jvm.MethodName)) ∈ ALL := inT_3 63 rfl rfl
theorem w_602 : (Jvm.Cond.methodLink "MoonOverTheHill$Hill" (62 : Nat) ({ cls := "java/util/Arrays", name := "fill", desc := "([II)V" } : Jvm.MethodName)) ∈ ALL := inT_3 62 rfl rfl
theorem w_644 : (Jvm.Cond.selects "MoonOverTheHill$Few" ({ cls := "MoonOverTheHill$Few", name := "become", desc := "(LMoonOverTheHill$Few;)V" } : Jvm.MethodName) ({ cls := "MoonOverTheHill$Few", name := "become", desc := "(LMoonOverTheHill$Few;)V" } : Jvm.MethodName)) ∈ ALL := inT_3 104 rfl rfl
theorem w_643 : (Jvm.Cond.instanceMethod ({ cls := "MoonOverTheHill$Few", name := "become", desc := "(LMoonOverTheHill$Few;)V" } : Jvm.MethodName)) ∈ ALL := inT_3 103 rfl rfl
theorem w_642 : (Jvm.Cond.methodLink "MoonOverTheHill$Hill" (68 : Nat) ({ cls := "MoonOverTheHill$Few", name := "become", desc := "(LMoonOverTheHill$Few;)V" } : Jvm.MethodName)) ∈ ALL := inT_3 102 rfl rfl
theorem w_647 : (Jvm.Cond.methodLink "MoonOverTheHill$Hill" (72 : Nat) ({ cls := "java/lang/System", name := "arraycopy", desc := "(Ljava/lang/Object;ILjava/lang/Object;II)V" } : Jvm.MethodName)) ∈ ALL := inT_3 107 rfl rfl
theorem w_346 : (Jvm.Cond.native ({ cls := "java/lang/System", name := "arraycopy", desc := "(Ljava/lang/Object;ILjava/lang/Object;II)V" } : Jvm.MethodName)) ∈ ALL := inT_2 46 rfl rfl
theorem w_345 : (Jvm.Cond.static ({ cls := "java/lang/System", name := "arraycopy", desc := "(Ljava/lang/Object;ILjava/lang/Object;II)V" } : Jvm.MethodName)) ∈ ALL := inT_2 45 rfl rfl
theorem w_72 : (Jvm.Cond.initialized "java/lang/System") ∈ ALL := inT_1 12 rfl rfl
theorem w_459 : (Jvm.Cond.methodLink "MoonOverTheHill$Question" (3 : Nat) ({ cls := "java/lang/Object", name := "<init>", desc := "()V" } : Jvm.MethodName)) ∈ ALL := inT_2 159 rfl rfl
theorem w_85 : (Jvm.Cond.instanceMethod ({ cls := "java/lang/Object", name := "<init>", desc := "()V" } : Jvm.MethodName)) ∈ ALL := inT_1 25 rfl rfl
theorem w_86 : (Jvm.Cond.code ({ cls := "java/lang/Object", name := "<init>", desc := "()V" } : Jvm.MethodName) object_method_1_code (1 : Nat) (Option.none : Option Jvm.ClassFile.FieldType)) ∈ ALL := inT_1 26 rfl rfl
theorem w_460 : (Jvm.Cond.fieldLink "MoonOverTheHill$Question" (9 : Nat) "MoonOverTheHill$Question" "about" "I") ∈ ALL := inT_2 160 rfl rfl
theorem w_462 : (Jvm.Cond.fieldLink "MoonOverTheHill$Question" (15 : Nat) "MoonOverTheHill$Question" "a" "I") ∈ ALL := inT_2 162 rfl rfl
theorem w_464 : (Jvm.Cond.fieldLink "MoonOverTheHill$Question" (18 : Nat) "MoonOverTheHill$Question" "b" "I") ∈ ALL := inT_2 164 rfl rfl
theorem w_466 : (Jvm.Cond.fieldLink "MoonOverTheHill$Question" (21 : Nat) "MoonOverTheHill$Question" "c" "I") ∈ ALL := inT_2 166 rfl rfl
theorem w_468 : (Jvm.Cond.fieldLink "MoonOverTheHill$Question" (24 : Nat) "MoonOverTheHill$Question" "picture" "LMoonOverTheHill$Shelf;") ∈ ALL := inT_2 168 rfl rfl
theorem w_73 : (Jvm.Cond.initialized "MoonOverTheHill$Question") ∈ ALL := inT_1 13 rfl rfl
theorem w_457 : (Jvm.Cond.instanceMethod ({ cls := "MoonOverTheHill$Question", name := "<init>", desc := "(IIIILMoonOverTheHill$Shelf;)V" } : Jvm.MethodName)) ∈ ALL := inT_2 157 rfl rfl
theorem w_456 : (Jvm.Cond.methodLink "MoonOverTheHill$Question" (28 : Nat) ({ cls := "MoonOverTheHill$Question", name := "<init>", desc := "(IIIILMoonOverTheHill$Shelf;)V" } : Jvm.MethodName)) ∈ ALL := inT_2 156 rfl rfl
theorem w_231 : (Jvm.Cond.fieldLink "MoonOverTheHill$Shelf" (15 : Nat) "MoonOverTheHill$Shelf" "content" "I") ∈ ALL := inT_1 171 rfl rfl
theorem w_69 : (Jvm.Cond.initialized "MoonOverTheHill$Shelf") ∈ ALL := inT_1 9 rfl rfl
theorem w_336 : (Jvm.Cond.selects "MoonOverTheHill$Shelf" ({ cls := "MoonOverTheHill$Shelf", name := "isRow", desc := "()Z" } : Jvm.MethodName) ({ cls := "MoonOverTheHill$Shelf", name := "isRow", desc := "()Z" } : Jvm.MethodName)) ∈ ALL := inT_2 36 rfl rfl
theorem w_335 : (Jvm.Cond.instanceMethod ({ cls := "MoonOverTheHill$Shelf", name := "isRow", desc := "()Z" } : Jvm.MethodName)) ∈ ALL := inT_2 35 rfl rfl
theorem w_334 : (Jvm.Cond.methodLink "MoonOverTheHill$Shelf" (19 : Nat) ({ cls := "MoonOverTheHill$Shelf", name := "isRow", desc := "()Z" } : Jvm.MethodName)) ∈ ALL := inT_2 34 rfl rfl
theorem w_233 : (Jvm.Cond.fieldLink "MoonOverTheHill$Shelf" (23 : Nat) "MoonOverTheHill$Shelf" "day" "I") ∈ ALL := inT_1 173 rfl rfl
theorem w_307 : (Jvm.Cond.selects "MoonOverTheHill$Shelf" ({ cls := "MoonOverTheHill$Shelf", name := "isEvening", desc := "()Z" } : Jvm.MethodName) ({ cls := "MoonOverTheHill$Shelf", name := "isEvening", desc := "()Z" } : Jvm.MethodName)) ∈ ALL := inT_2 7 rfl rfl
theorem w_306 : (Jvm.Cond.instanceMethod ({ cls := "MoonOverTheHill$Shelf", name := "isEvening", desc := "()Z" } : Jvm.MethodName)) ∈ ALL := inT_2 6 rfl rfl
theorem w_305 : (Jvm.Cond.methodLink "MoonOverTheHill$Shelf" (26 : Nat) ({ cls := "MoonOverTheHill$Shelf", name := "isEvening", desc := "()Z" } : Jvm.MethodName)) ∈ ALL := inT_2 5 rfl rfl
theorem w_311 : (Jvm.Cond.selects "MoonOverTheHill$Shelf" ({ cls := "MoonOverTheHill$Shelf", name := "isBare", desc := "()Z" } : Jvm.MethodName) ({ cls := "MoonOverTheHill$Shelf", name := "isBare", desc := "()Z" } : Jvm.MethodName)) ∈ ALL := inT_2 11 rfl rfl
theorem w_310 : (Jvm.Cond.instanceMethod ({ cls := "MoonOverTheHill$Shelf", name := "isBare", desc := "()Z" } : Jvm.MethodName)) ∈ ALL := inT_2 10 rfl rfl
theorem w_309 : (Jvm.Cond.methodLink "MoonOverTheHill$Shelf" (29 : Nat) ({ cls := "MoonOverTheHill$Shelf", name := "isBare", desc := "()Z" } : Jvm.MethodName)) ∈ ALL := inT_2 9 rfl rfl
theorem w_232 : (Jvm.Cond.fieldLink "MoonOverTheHill$Shelf" (32 : Nat) "MoonOverTheHill$Shelf" "size" "I") ∈ ALL := inT_1 172 rfl rfl
theorem w_230 : (Jvm.Cond.fieldLink "MoonOverTheHill$Shelf" (11 : Nat) "MoonOverTheHill$Shelf" "elements" "[J") ∈ ALL := inT_1 170 rfl rfl
theorem w_292 : (Jvm.Cond.static ({ cls := "java/lang/Math", name := "min", desc := "(II)I" } : Jvm.MethodName)) ∈ ALL := inT_1 232 rfl rfl
theorem w_291 : (Jvm.Cond.methodLink "MoonOverTheHill$Shelf" (35 : Nat) ({ cls := "java/lang/Math", name := "min", desc := "(II)I" } : Jvm.MethodName)) ∈ ALL := inT_1 231 rfl rfl
theorem w_295 : (Jvm.Cond.static ({ cls := "java/util/Arrays", name := "fill", desc := "([JJ)V" } : Jvm.MethodName)) ∈ ALL := inT_1 235 rfl rfl
theorem w_294 : (Jvm.Cond.methodLink "MoonOverTheHill$Shelf" (41 : Nat) ({ cls := "java/util/Arrays", name := "fill", desc := "([JJ)V" } : Jvm.MethodName)) ∈ ALL := inT_1 234 rfl rfl
theorem w_2 : Cond.selects "MoonOverTheHill$Shelf" (⟨"MoonOverTheHill$Shelf", "cut", "(J)J"⟩ : MethodName) (⟨"MoonOverTheHill$Shelf", "cut", "(J)J"⟩ : MethodName) ∈ ALL := inP 2 rfl rfl
theorem w_323 : (Jvm.Cond.instanceMethod ({ cls := "MoonOverTheHill$Shelf", name := "cut", desc := "(J)J" } : Jvm.MethodName)) ∈ ALL := inT_2 23 rfl rfl
theorem w_321 : (Jvm.Cond.methodLink "MoonOverTheHill$Shelf" (47 : Nat) ({ cls := "MoonOverTheHill$Shelf", name := "cut", desc := "(J)J" } : Jvm.MethodName)) ∈ ALL := inT_2 21 rfl rfl
theorem w_315 : (Jvm.Cond.selects "MoonOverTheHill$Shelf" ({ cls := "MoonOverTheHill$Shelf", name := "hasPlaces", desc := "(II)Z" } : Jvm.MethodName) ({ cls := "MoonOverTheHill$Shelf", name := "hasPlaces", desc := "(II)Z" } : Jvm.MethodName)) ∈ ALL := inT_2 15 rfl rfl
theorem w_314 : (Jvm.Cond.instanceMethod ({ cls := "MoonOverTheHill$Shelf", name := "hasPlaces", desc := "(II)Z" } : Jvm.MethodName)) ∈ ALL := inT_2 14 rfl rfl
theorem w_343 : (Jvm.Cond.methodLink "MoonOverTheHill$Shelf" (51 : Nat) ({ cls := "MoonOverTheHill$Shelf", name := "hasPlaces", desc := "(II)Z" } : Jvm.MethodName)) ∈ ALL := inT_2 43 rfl rfl
theorem w_344 : (Jvm.Cond.methodLink "MoonOverTheHill$Shelf" (55 : Nat) ({ cls := "java/lang/System", name := "arraycopy", desc := "(Ljava/lang/Object;ILjava/lang/Object;II)V" } : Jvm.MethodName)) ∈ ALL := inT_2 44 rfl rfl
theorem w_354 : (Jvm.Cond.selects "MoonOverTheHill$Shelf" ({ cls := "MoonOverTheHill$Shelf", name := "at", desc := "(I)J" } : Jvm.MethodName) ({ cls := "MoonOverTheHill$Shelf", name := "at", desc := "(I)J" } : Jvm.MethodName)) ∈ ALL := inT_2 54 rfl rfl
theorem w_353 : (Jvm.Cond.instanceMethod ({ cls := "MoonOverTheHill$Shelf", name := "at", desc := "(I)J" } : Jvm.MethodName)) ∈ ALL := inT_2 53 rfl rfl
theorem w_544 : (Jvm.Cond.methodLink "MoonOverTheHill$Shelf" (61 : Nat) ({ cls := "MoonOverTheHill$Shelf", name := "at", desc := "(I)J" } : Jvm.MethodName)) ∈ ALL := inT_3 4 rfl rfl
theorem w_1009 : (Jvm.Cond.constantLong "MoonOverTheHill$Shelf" (65 : Nat) (29 : Int64)) ∈ ALL := inT_4 229 rfl rfl
theorem w_1010 : (Jvm.Cond.constantLong "MoonOverTheHill$Shelf" (67 : Nat) (30 : Int64)) ∈ ALL := inT_4 230 rfl rfl
theorem w_16 : Cond.selects "MoonOverTheHill$Shelf" (⟨"MoonOverTheHill$Shelf", "isMonthCount", "(I)Z"⟩ : MethodName) (⟨"MoonOverTheHill$Shelf", "isMonthCount", "(I)Z"⟩ : MethodName) ∈ ALL := inP 16 rfl rfl
theorem w_1007 : (Jvm.Cond.instanceMethod ({ cls := "MoonOverTheHill$Shelf", name := "isMonthCount", desc := "(I)Z" } : Jvm.MethodName)) ∈ ALL := inT_4 227 rfl rfl
theorem w_1005 : (Jvm.Cond.methodLink "MoonOverTheHill$Shelf" (69 : Nat) ({ cls := "MoonOverTheHill$Shelf", name := "isMonthCount", desc := "(I)Z" } : Jvm.MethodName)) ∈ ALL := inT_4 225 rfl rfl
theorem w_1015 : (Jvm.Cond.methodLink "MoonOverTheHill$Shelf" (73 : Nat) ({ cls := "java/lang/Math", name := "max", desc := "(II)I" } : Jvm.MethodName)) ∈ ALL := inT_4 235 rfl rfl
theorem w_1023 : (Jvm.Cond.constantLong "MoonOverTheHill$Shelf" (80 : Nat) (88 : Int64)) ∈ ALL := inT_5 3 rfl rfl
theorem w_1025 : (Jvm.Cond.constantLong "MoonOverTheHill$Shelf" (84 : Nat) (22 : Int64)) ∈ ALL := inT_5 5 rfl rfl
theorem w_1024 : (Jvm.Cond.constantLong "MoonOverTheHill$Shelf" (82 : Nat) (89 : Int64)) ∈ ALL := inT_5 4 rfl rfl
theorem w_1021 : (Jvm.Cond.static ({ cls := "MoonOverTheHill$Shelf", name := "isThreeMonths", desc := "(JJJ)Z" } : Jvm.MethodName)) ∈ ALL := inT_5 1 rfl rfl
theorem w_1020 : (Jvm.Cond.methodLink "MoonOverTheHill$Shelf" (76 : Nat) ({ cls := "MoonOverTheHill$Shelf", name := "isThreeMonths", desc := "(JJJ)Z" } : Jvm.MethodName)) ∈ ALL := inT_5 0 rfl rfl
theorem w_131 : (Jvm.Cond.fieldLink "MoonOverTheHill$State" (37 : Nat) "MoonOverTheHill$State" "off" "I") ∈ ALL := inT_1 71 rfl rfl
theorem w_134 : (Jvm.Cond.fieldLink "MoonOverTheHill$State" (40 : Nat) "MoonOverTheHill$State" "node" "I") ∈ ALL := inT_1 74 rfl rfl
theorem w_136 : (Jvm.Cond.fieldLink "MoonOverTheHill$State" (43 : Nat) "MoonOverTheHill$State" "swing" "I") ∈ ALL := inT_1 76 rfl rfl
theorem w_138 : (Jvm.Cond.fieldLink "MoonOverTheHill$State" (9 : Nat) "MoonOverTheHill$State" "cloud" "I") ∈ ALL := inT_1 78 rfl rfl
theorem w_155 : (Jvm.Cond.fieldLink "MoonOverTheHill$State" (34 : Nat) "MoonOverTheHill$State" "seed" "I") ∈ ALL := inT_1 95 rfl rfl
theorem w_1094 : (Jvm.Cond.constant "MoonOverTheHill$State" (46 : Nat) (1103515245 : Int32)) ∈ ALL := inT_5 74 rfl rfl
theorem w_140 : (Jvm.Cond.fieldLink "MoonOverTheHill$State" (18 : Nat) "MoonOverTheHill$State" "hill" "LMoonOverTheHill$Hill;") ∈ ALL := inT_1 80 rfl rfl
theorem w_640 : (Jvm.Cond.selects "MoonOverTheHill$Hill" ({ cls := "MoonOverTheHill$Hill", name := "become", desc := "(LMoonOverTheHill$Hill;)V" } : Jvm.MethodName) ({ cls := "MoonOverTheHill$Hill", name := "become", desc := "(LMoonOverTheHill$Hill;)V" } : Jvm.MethodName)) ∈ ALL := inT_3 100 rfl rfl
theorem w_639 : (Jvm.Cond.instanceMethod ({ cls := "MoonOverTheHill$Hill", name := "become", desc := "(LMoonOverTheHill$Hill;)V" } : Jvm.MethodName)) ∈ ALL := inT_3 99 rfl rfl
theorem w_638 : (Jvm.Cond.methodLink "MoonOverTheHill$State" (47 : Nat) ({ cls := "MoonOverTheHill$Hill", name := "become", desc := "(LMoonOverTheHill$Hill;)V" } : Jvm.MethodName)) ∈ ALL := inT_3 98 rfl rfl
theorem w_144 : (Jvm.Cond.fieldLink "MoonOverTheHill$State" (27 : Nat) "MoonOverTheHill$State" "stones" "LMoonOverTheHill$Few;") ∈ ALL := inT_1 84 rfl rfl
theorem w_648 : (Jvm.Cond.methodLink "MoonOverTheHill$State" (51 : Nat) ({ cls := "MoonOverTheHill$Few", name := "become", desc := "(LMoonOverTheHill$Few;)V" } : Jvm.MethodName)) ∈ ALL := inT_3 108 rfl rfl
theorem w_147 : (Jvm.Cond.fieldLink "MoonOverTheHill$State" (31 : Nat) "MoonOverTheHill$State" "clouds" "LMoonOverTheHill$Few;") ∈ ALL := inT_1 87 rfl rfl
theorem w_151 : (Jvm.Cond.fieldLink "MoonOverTheHill$State" (54 : Nat) "MoonOverTheHill$State" "today" "I") ∈ ALL := inT_1 91 rfl rfl
theorem w_153 : (Jvm.Cond.fieldLink "MoonOverTheHill$State" (57 : Nat) "MoonOverTheHill$State" "looks" "I") ∈ ALL := inT_1 93 rfl rfl
theorem w_1074 : (Jvm.Cond.constant "java/lang/Integer" (265 : Nat) (1431655765 : Int32)) ∈ ALL := inT_5 54 rfl rfl
theorem w_1075 : (Jvm.Cond.constant "java/lang/Integer" (266 : Nat) (858993459 : Int32)) ∈ ALL := inT_5 55 rfl rfl
theorem w_1076 : (Jvm.Cond.constant "java/lang/Integer" (267 : Nat) (252645135 : Int32)) ∈ ALL := inT_5 56 rfl rfl
theorem w_445 : (Jvm.Cond.methodLink "MoonOverTheHill$Moon" (15 : Nat) ({ cls := "java/lang/Math", name := "min", desc := "(II)I" } : Jvm.MethodName)) ∈ ALL := inT_2 145 rfl rfl
theorem w_184 : (Jvm.Cond.fieldLink "MoonOverTheHill$Moon" (9 : Nat) "MoonOverTheHill$Moon" "now" "LMoonOverTheHill$State;") ∈ ALL := inT_1 124 rfl rfl
theorem w_132 : (Jvm.Cond.fieldLink "MoonOverTheHill$Moon" (21 : Nat) "MoonOverTheHill$State" "off" "I") ∈ ALL := inT_1 72 rfl rfl
theorem w_66 : (Jvm.Cond.initialized "MoonOverTheHill$Moon") ∈ ALL := inT_1 6 rfl rfl
theorem w_399 : (Jvm.Cond.selects "MoonOverTheHill$Moon" ({ cls := "MoonOverTheHill$Moon", name := "ageOf", desc := "(I)I" } : Jvm.MethodName) ({ cls := "MoonOverTheHill$Moon", name := "ageOf", desc := "(I)I" } : Jvm.MethodName)) ∈ ALL := inT_2 99 rfl rfl
theorem w_398 : (Jvm.Cond.instanceMethod ({ cls := "MoonOverTheHill$Moon", name := "ageOf", desc := "(I)I" } : Jvm.MethodName)) ∈ ALL := inT_2 98 rfl rfl
theorem w_397 : (Jvm.Cond.methodLink "MoonOverTheHill$Moon" (27 : Nat) ({ cls := "MoonOverTheHill$Moon", name := "ageOf", desc := "(I)I" } : Jvm.MethodName)) ∈ ALL := inT_2 97 rfl rfl
theorem w_137 : (Jvm.Cond.fieldLink "MoonOverTheHill$Moon" (31 : Nat) "MoonOverTheHill$State" "swing" "I") ∈ ALL := inT_1 77 rfl rfl
theorem w_418 : (Jvm.Cond.selects "MoonOverTheHill$Moon" ({ cls := "MoonOverTheHill$Moon", name := "outOf", desc := "(I)I" } : Jvm.MethodName) ({ cls := "MoonOverTheHill$Moon", name := "outOf", desc := "(I)I" } : Jvm.MethodName)) ∈ ALL := inT_2 118 rfl rfl
theorem w_417 : (Jvm.Cond.instanceMethod ({ cls := "MoonOverTheHill$Moon", name := "outOf", desc := "(I)I" } : Jvm.MethodName)) ∈ ALL := inT_2 117 rfl rfl
theorem w_416 : (Jvm.Cond.methodLink "MoonOverTheHill$Moon" (34 : Nat) ({ cls := "MoonOverTheHill$Moon", name := "outOf", desc := "(I)I" } : Jvm.MethodName)) ∈ ALL := inT_2 116 rfl rfl
theorem w_135 : (Jvm.Cond.fieldLink "MoonOverTheHill$Moon" (37 : Nat) "MoonOverTheHill$State" "node" "I") ∈ ALL := inT_1 75 rfl rfl
theorem w_424 : (Jvm.Cond.static ({ cls := "java/lang/Math", name := "floorMod", desc := "(II)I" } : Jvm.MethodName)) ∈ ALL := inT_2 124 rfl rfl
theorem w_423 : (Jvm.Cond.methodLink "MoonOverTheHill$Moon" (40 : Nat) ({ cls := "java/lang/Math", name := "floorMod", desc := "(II)I" } : Jvm.MethodName)) ∈ ALL := inT_2 123 rfl rfl
theorem w_414 : (Jvm.Cond.selects "MoonOverTheHill$Moon" ({ cls := "MoonOverTheHill$Moon", name := "slantOf", desc := "(I)I" } : Jvm.MethodName) ({ cls := "MoonOverTheHill$Moon", name := "slantOf", desc := "(I)I" } : Jvm.MethodName)) ∈ ALL := inT_2 114 rfl rfl
theorem w_413 : (Jvm.Cond.instanceMethod ({ cls := "MoonOverTheHill$Moon", name := "slantOf", desc := "(I)I" } : Jvm.MethodName)) ∈ ALL := inT_2 113 rfl rfl
theorem w_412 : (Jvm.Cond.methodLink "MoonOverTheHill$Moon" (43 : Nat) ({ cls := "MoonOverTheHill$Moon", name := "slantOf", desc := "(I)I" } : Jvm.MethodName)) ∈ ALL := inT_2 112 rfl rfl
theorem w_421 : (Jvm.Cond.static ({ cls := "MoonOverTheHill$Moon", name := "riseBy", desc := "(II)I" } : Jvm.MethodName)) ∈ ALL := inT_2 121 rfl rfl
theorem w_420 : (Jvm.Cond.methodLink "MoonOverTheHill$Moon" (46 : Nat) ({ cls := "MoonOverTheHill$Moon", name := "riseBy", desc := "(II)I" } : Jvm.MethodName)) ∈ ALL := inT_2 120 rfl rfl
theorem w_427 : (Jvm.Cond.static ({ cls := "MoonOverTheHill$Moon", name := "wayBy", desc := "(I)I" } : Jvm.MethodName)) ∈ ALL := inT_2 127 rfl rfl
theorem w_426 : (Jvm.Cond.methodLink "MoonOverTheHill$Moon" (49 : Nat) ({ cls := "MoonOverTheHill$Moon", name := "wayBy", desc := "(I)I" } : Jvm.MethodName)) ∈ ALL := inT_2 126 rfl rfl
theorem w_141 : (Jvm.Cond.fieldLink "MoonOverTheHill$Moon" (52 : Nat) "MoonOverTheHill$State" "hill" "LMoonOverTheHill$Hill;") ∈ ALL := inT_1 81 rfl rfl
theorem w_496 : (Jvm.Cond.selects "MoonOverTheHill$Moon" ({ cls := "MoonOverTheHill$Moon", name := "wayOf", desc := "(I)I" } : Jvm.MethodName) ({ cls := "MoonOverTheHill$Moon", name := "wayOf", desc := "(I)I" } : Jvm.MethodName)) ∈ ALL := inT_2 196 rfl rfl
theorem w_495 : (Jvm.Cond.instanceMethod ({ cls := "MoonOverTheHill$Moon", name := "wayOf", desc := "(I)I" } : Jvm.MethodName)) ∈ ALL := inT_2 195 rfl rfl
theorem w_494 : (Jvm.Cond.methodLink "MoonOverTheHill$Moon" (56 : Nat) ({ cls := "MoonOverTheHill$Moon", name := "wayOf", desc := "(I)I" } : Jvm.MethodName)) ∈ ALL := inT_2 194 rfl rfl
theorem w_431 : (Jvm.Cond.selects "MoonOverTheHill$Hill" ({ cls := "MoonOverTheHill$Hill", name := "overFrom", desc := "(I)I" } : Jvm.MethodName) ({ cls := "MoonOverTheHill$Hill", name := "overFrom", desc := "(I)I" } : Jvm.MethodName)) ∈ ALL := inT_2 131 rfl rfl
theorem w_430 : (Jvm.Cond.instanceMethod ({ cls := "MoonOverTheHill$Hill", name := "overFrom", desc := "(I)I" } : Jvm.MethodName)) ∈ ALL := inT_2 130 rfl rfl
theorem w_429 : (Jvm.Cond.methodLink "MoonOverTheHill$Moon" (59 : Nat) ({ cls := "MoonOverTheHill$Hill", name := "overFrom", desc := "(I)I" } : Jvm.MethodName)) ∈ ALL := inT_2 129 rfl rfl
theorem w_410 : (Jvm.Cond.selects "MoonOverTheHill$Moon" ({ cls := "MoonOverTheHill$Moon", name := "upOf", desc := "(I)I" } : Jvm.MethodName) ({ cls := "MoonOverTheHill$Moon", name := "upOf", desc := "(I)I" } : Jvm.MethodName)) ∈ ALL := inT_2 110 rfl rfl
theorem w_409 : (Jvm.Cond.instanceMethod ({ cls := "MoonOverTheHill$Moon", name := "upOf", desc := "(I)I" } : Jvm.MethodName)) ∈ ALL := inT_2 109 rfl rfl
theorem w_408 : (Jvm.Cond.methodLink "MoonOverTheHill$Moon" (64 : Nat) ({ cls := "MoonOverTheHill$Moon", name := "upOf", desc := "(I)I" } : Jvm.MethodName)) ∈ ALL := inT_2 108 rfl rfl
theorem w_504 : (Jvm.Cond.selects "MoonOverTheHill$Hill" ({ cls := "MoonOverTheHill$Hill", name := "makerOf", desc := "(I)I" } : Jvm.MethodName) ({ cls := "MoonOverTheHill$Hill", name := "makerOf", desc := "(I)I" } : Jvm.MethodName)) ∈ ALL := inT_2 204 rfl rfl
theorem w_503 : (Jvm.Cond.instanceMethod ({ cls := "MoonOverTheHill$Hill", name := "makerOf", desc := "(I)I" } : Jvm.MethodName)) ∈ ALL := inT_2 203 rfl rfl
theorem w_502 : (Jvm.Cond.methodLink "MoonOverTheHill$Moon" (67 : Nat) ({ cls := "MoonOverTheHill$Hill", name := "makerOf", desc := "(I)I" } : Jvm.MethodName)) ∈ ALL := inT_2 202 rfl rfl
theorem w_446 : (Jvm.Cond.methodLink "MoonOverTheHill$Moon" (70 : Nat) ({ cls := "java/lang/Math", name := "max", desc := "(II)I" } : Jvm.MethodName)) ∈ ALL := inT_2 146 rfl rfl
theorem w_443 : (Jvm.Cond.static ({ cls := "MoonOverTheHill$Moon", name := "shinesFrom", desc := "(III)I" } : Jvm.MethodName)) ∈ ALL := inT_2 143 rfl rfl
theorem w_442 : (Jvm.Cond.methodLink "MoonOverTheHill$Moon" (73 : Nat) ({ cls := "MoonOverTheHill$Moon", name := "shinesFrom", desc := "(III)I" } : Jvm.MethodName)) ∈ ALL := inT_2 142 rfl rfl
theorem w_538 : (Jvm.Cond.selects "MoonOverTheHill$Moon" ({ cls := "MoonOverTheHill$Moon", name := "litOf", desc := "(I)I" } : Jvm.MethodName) ({ cls := "MoonOverTheHill$Moon", name := "litOf", desc := "(I)I" } : Jvm.MethodName)) ∈ ALL := inT_2 238 rfl rfl
theorem w_537 : (Jvm.Cond.instanceMethod ({ cls := "MoonOverTheHill$Moon", name := "litOf", desc := "(I)I" } : Jvm.MethodName)) ∈ ALL := inT_2 237 rfl rfl
theorem w_536 : (Jvm.Cond.methodLink "MoonOverTheHill$Moon" (77 : Nat) ({ cls := "MoonOverTheHill$Moon", name := "litOf", desc := "(I)I" } : Jvm.MethodName)) ∈ ALL := inT_2 236 rfl rfl
theorem w_402 : (Jvm.Cond.static ({ cls := "java/lang/Math", name := "abs", desc := "(I)I" } : Jvm.MethodName)) ∈ ALL := inT_2 102 rfl rfl
theorem w_401 : (Jvm.Cond.methodLink "MoonOverTheHill$Moon" (84 : Nat) ({ cls := "java/lang/Math", name := "abs", desc := "(I)I" } : Jvm.MethodName)) ∈ ALL := inT_2 101 rfl rfl
theorem w_406 : (Jvm.Cond.selects "MoonOverTheHill$Moon" ({ cls := "MoonOverTheHill$Moon", name := "laterOf", desc := "(I)I" } : Jvm.MethodName) ({ cls := "MoonOverTheHill$Moon", name := "laterOf", desc := "(I)I" } : Jvm.MethodName)) ∈ ALL := inT_2 106 rfl rfl
theorem w_405 : (Jvm.Cond.instanceMethod ({ cls := "MoonOverTheHill$Moon", name := "laterOf", desc := "(I)I" } : Jvm.MethodName)) ∈ ALL := inT_2 105 rfl rfl
theorem w_404 : (Jvm.Cond.methodLink "MoonOverTheHill$Moon" (87 : Nat) ({ cls := "MoonOverTheHill$Moon", name := "laterOf", desc := "(I)I" } : Jvm.MethodName)) ∈ ALL := inT_2 104 rfl rfl
theorem w_440 : (Jvm.Cond.selects "MoonOverTheHill$Moon" ({ cls := "MoonOverTheHill$Moon", name := "shinesOf", desc := "(III)I" } : Jvm.MethodName) ({ cls := "MoonOverTheHill$Moon", name := "shinesOf", desc := "(III)I" } : Jvm.MethodName)) ∈ ALL := inT_2 140 rfl rfl
theorem w_439 : (Jvm.Cond.instanceMethod ({ cls := "MoonOverTheHill$Moon", name := "shinesOf", desc := "(III)I" } : Jvm.MethodName)) ∈ ALL := inT_2 139 rfl rfl
theorem w_438 : (Jvm.Cond.methodLink "MoonOverTheHill$Moon" (90 : Nat) ({ cls := "MoonOverTheHill$Moon", name := "shinesOf", desc := "(III)I" } : Jvm.MethodName)) ∈ ALL := inT_2 138 rfl rfl
theorem w_532 : (Jvm.Cond.methodLink "MoonOverTheHill$Moon" (162 : Nat) ({ cls := "MoonOverTheHill$Shelf", name := "at", desc := "(I)J" } : Jvm.MethodName)) ∈ ALL := inT_2 232 rfl rfl
theorem w_534 : (Jvm.Cond.static ({ cls := "MoonOverTheHill$Moon", name := "minutesUp", desc := "(II)I" } : Jvm.MethodName)) ∈ ALL := inT_2 234 rfl rfl
theorem w_533 : (Jvm.Cond.methodLink "MoonOverTheHill$Moon" (159 : Nat) ({ cls := "MoonOverTheHill$Moon", name := "minutesUp", desc := "(II)I" } : Jvm.MethodName)) ∈ ALL := inT_2 233 rfl rfl
theorem w_542 : (Jvm.Cond.selects "MoonOverTheHill$Shelf" ({ cls := "MoonOverTheHill$Shelf", name := "isSpan", desc := "(II)Z" } : Jvm.MethodName) ({ cls := "MoonOverTheHill$Shelf", name := "isSpan", desc := "(II)Z" } : Jvm.MethodName)) ∈ ALL := inT_3 2 rfl rfl
theorem w_541 : (Jvm.Cond.instanceMethod ({ cls := "MoonOverTheHill$Shelf", name := "isSpan", desc := "(II)Z" } : Jvm.MethodName)) ∈ ALL := inT_3 1 rfl rfl
theorem w_540 : (Jvm.Cond.methodLink "MoonOverTheHill$Moon" (168 : Nat) ({ cls := "MoonOverTheHill$Shelf", name := "isSpan", desc := "(II)Z" } : Jvm.MethodName)) ∈ ALL := inT_3 0 rfl rfl
theorem w_461 : (Jvm.Cond.fieldLink "MoonOverTheHill$Moon" (93 : Nat) "MoonOverTheHill$Question" "about" "I") ∈ ALL := inT_2 161 rfl rfl
theorem w_487 : (Jvm.Cond.selects "MoonOverTheHill$Moon" ({ cls := "MoonOverTheHill$Moon", name := "isFull", desc := "(I)Z" } : Jvm.MethodName) ({ cls := "MoonOverTheHill$Moon", name := "isFull", desc := "(I)Z" } : Jvm.MethodName)) ∈ ALL := inT_2 187 rfl rfl
theorem w_486 : (Jvm.Cond.instanceMethod ({ cls := "MoonOverTheHill$Moon", name := "isFull", desc := "(I)Z" } : Jvm.MethodName)) ∈ ALL := inT_2 186 rfl rfl
theorem w_485 : (Jvm.Cond.methodLink "MoonOverTheHill$Moon" (98 : Nat) ({ cls := "MoonOverTheHill$Moon", name := "isFull", desc := "(I)Z" } : Jvm.MethodName)) ∈ ALL := inT_2 185 rfl rfl
theorem w_492 : (Jvm.Cond.selects "MoonOverTheHill$Moon" ({ cls := "MoonOverTheHill$Moon", name := "degreeOf", desc := "(I)I" } : Jvm.MethodName) ({ cls := "MoonOverTheHill$Moon", name := "degreeOf", desc := "(I)I" } : Jvm.MethodName)) ∈ ALL := inT_2 192 rfl rfl
theorem w_491 : (Jvm.Cond.instanceMethod ({ cls := "MoonOverTheHill$Moon", name := "degreeOf", desc := "(I)I" } : Jvm.MethodName)) ∈ ALL := inT_2 191 rfl rfl
theorem w_490 : (Jvm.Cond.methodLink "MoonOverTheHill$Moon" (102 : Nat) ({ cls := "MoonOverTheHill$Moon", name := "degreeOf", desc := "(I)I" } : Jvm.MethodName)) ∈ ALL := inT_2 190 rfl rfl
theorem w_463 : (Jvm.Cond.fieldLink "MoonOverTheHill$Moon" (105 : Nat) "MoonOverTheHill$Question" "a" "I") ∈ ALL := inT_2 163 rfl rfl
theorem w_465 : (Jvm.Cond.fieldLink "MoonOverTheHill$Moon" (108 : Nat) "MoonOverTheHill$Question" "b" "I") ∈ ALL := inT_2 165 rfl rfl
theorem w_467 : (Jvm.Cond.fieldLink "MoonOverTheHill$Moon" (111 : Nat) "MoonOverTheHill$Question" "c" "I") ∈ ALL := inT_2 167 rfl rfl
theorem w_500 : (Jvm.Cond.selects "MoonOverTheHill$Moon" ({ cls := "MoonOverTheHill$Moon", name := "behindOf", desc := "(I)I" } : Jvm.MethodName) ({ cls := "MoonOverTheHill$Moon", name := "behindOf", desc := "(I)I" } : Jvm.MethodName)) ∈ ALL := inT_2 200 rfl rfl
theorem w_499 : (Jvm.Cond.instanceMethod ({ cls := "MoonOverTheHill$Moon", name := "behindOf", desc := "(I)I" } : Jvm.MethodName)) ∈ ALL := inT_2 199 rfl rfl
theorem w_498 : (Jvm.Cond.methodLink "MoonOverTheHill$Moon" (114 : Nat) ({ cls := "MoonOverTheHill$Moon", name := "behindOf", desc := "(I)I" } : Jvm.MethodName)) ∈ ALL := inT_2 198 rfl rfl
theorem w_521 : (Jvm.Cond.selects "MoonOverTheHill$Moon" ({ cls := "MoonOverTheHill$Moon", name := "isAtNode", desc := "(I)Z" } : Jvm.MethodName) ({ cls := "MoonOverTheHill$Moon", name := "isAtNode", desc := "(I)Z" } : Jvm.MethodName)) ∈ ALL := inT_2 221 rfl rfl
theorem w_520 : (Jvm.Cond.instanceMethod ({ cls := "MoonOverTheHill$Moon", name := "isAtNode", desc := "(I)Z" } : Jvm.MethodName)) ∈ ALL := inT_2 220 rfl rfl
theorem w_519 : (Jvm.Cond.methodLink "MoonOverTheHill$Moon" (117 : Nat) ({ cls := "MoonOverTheHill$Moon", name := "isAtNode", desc := "(I)Z" } : Jvm.MethodName)) ∈ ALL := inT_2 219 rfl rfl
theorem w_150 : (Jvm.Cond.fieldLink "MoonOverTheHill$Moon" (120 : Nat) "MoonOverTheHill$State" "clouds" "LMoonOverTheHill$Few;") ∈ ALL := inT_1 90 rfl rfl
theorem w_525 : (Jvm.Cond.selects "MoonOverTheHill$Few" ({ cls := "MoonOverTheHill$Few", name := "contains", desc := "(I)Z" } : Jvm.MethodName) ({ cls := "MoonOverTheHill$Few", name := "contains", desc := "(I)Z" } : Jvm.MethodName)) ∈ ALL := inT_2 225 rfl rfl
theorem w_524 : (Jvm.Cond.instanceMethod ({ cls := "MoonOverTheHill$Few", name := "contains", desc := "(I)Z" } : Jvm.MethodName)) ∈ ALL := inT_2 224 rfl rfl
theorem w_523 : (Jvm.Cond.methodLink "MoonOverTheHill$Moon" (124 : Nat) ({ cls := "MoonOverTheHill$Few", name := "contains", desc := "(I)Z" } : Jvm.MethodName)) ∈ ALL := inT_2 223 rfl rfl
theorem w_469 : (Jvm.Cond.fieldLink "MoonOverTheHill$Moon" (129 : Nat) "MoonOverTheHill$Question" "picture" "LMoonOverTheHill$Shelf;") ∈ ALL := inT_2 169 rfl rfl
theorem w_530 : (Jvm.Cond.selects "MoonOverTheHill$Moon" ({ cls := "MoonOverTheHill$Moon", name := "isAsPictured", desc := "(LMoonOverTheHill$Shelf;I)Z" } : Jvm.MethodName) ({ cls := "MoonOverTheHill$Moon", name := "isAsPictured", desc := "(LMoonOverTheHill$Shelf;I)Z" } : Jvm.MethodName)) ∈ ALL := inT_2 230 rfl rfl
theorem w_529 : (Jvm.Cond.instanceMethod ({ cls := "MoonOverTheHill$Moon", name := "isAsPictured", desc := "(LMoonOverTheHill$Shelf;I)Z" } : Jvm.MethodName)) ∈ ALL := inT_2 229 rfl rfl
theorem w_528 : (Jvm.Cond.methodLink "MoonOverTheHill$Moon" (133 : Nat) ({ cls := "MoonOverTheHill$Moon", name := "isAsPictured", desc := "(LMoonOverTheHill$Shelf;I)Z" } : Jvm.MethodName)) ∈ ALL := inT_2 228 rfl rfl
theorem w_844 : (Jvm.Cond.static ({ cls := "MoonOverTheHill$Moon", name := "lastOf", desc := "(II)I" } : Jvm.MethodName)) ∈ ALL := inT_4 64 rfl rfl
theorem w_843 : (Jvm.Cond.methodLink "MoonOverTheHill$Moon" (137 : Nat) ({ cls := "MoonOverTheHill$Moon", name := "lastOf", desc := "(II)I" } : Jvm.MethodName)) ∈ ALL := inT_4 63 rfl rfl
theorem w_483 : (Jvm.Cond.selects "MoonOverTheHill$Moon" ({ cls := "MoonOverTheHill$Moon", name := "fits", desc := "(LMoonOverTheHill$Question;I)Z" } : Jvm.MethodName) ({ cls := "MoonOverTheHill$Moon", name := "fits", desc := "(LMoonOverTheHill$Question;I)Z" } : Jvm.MethodName)) ∈ ALL := inT_2 183 rfl rfl
theorem w_482 : (Jvm.Cond.instanceMethod ({ cls := "MoonOverTheHill$Moon", name := "fits", desc := "(LMoonOverTheHill$Question;I)Z" } : Jvm.MethodName)) ∈ ALL := inT_2 182 rfl rfl
theorem w_846 : (Jvm.Cond.methodLink "MoonOverTheHill$Moon" (140 : Nat) ({ cls := "MoonOverTheHill$Moon", name := "fits", desc := "(LMoonOverTheHill$Question;I)Z" } : Jvm.MethodName)) ∈ ALL := inT_4 66 rfl rfl
theorem w_795 : (Jvm.Cond.selects "MoonOverTheHill$Moon" ({ cls := "MoonOverTheHill$Moon", name := "overOf", desc := "(I)I" } : Jvm.MethodName) ({ cls := "MoonOverTheHill$Moon", name := "overOf", desc := "(I)I" } : Jvm.MethodName)) ∈ ALL := inT_4 15 rfl rfl
theorem w_794 : (Jvm.Cond.instanceMethod ({ cls := "MoonOverTheHill$Moon", name := "overOf", desc := "(I)I" } : Jvm.MethodName)) ∈ ALL := inT_4 14 rfl rfl
theorem w_877 : (Jvm.Cond.methodLink "MoonOverTheHill$Moon" (147 : Nat) ({ cls := "MoonOverTheHill$Moon", name := "overOf", desc := "(I)I" } : Jvm.MethodName)) ∈ ALL := inT_4 97 rfl rfl
theorem w_833 : (Jvm.Cond.selects "MoonOverTheHill$Moon" ({ cls := "MoonOverTheHill$Moon", name := "lightOf", desc := "(III)I" } : Jvm.MethodName) ({ cls := "MoonOverTheHill$Moon", name := "lightOf", desc := "(III)I" } : Jvm.MethodName)) ∈ ALL := inT_4 53 rfl rfl
theorem w_832 : (Jvm.Cond.instanceMethod ({ cls := "MoonOverTheHill$Moon", name := "lightOf", desc := "(III)I" } : Jvm.MethodName)) ∈ ALL := inT_4 52 rfl rfl
theorem w_878 : (Jvm.Cond.methodLink "MoonOverTheHill$Moon" (150 : Nat) ({ cls := "MoonOverTheHill$Moon", name := "lightOf", desc := "(III)I" } : Jvm.MethodName)) ∈ ALL := inT_4 98 rfl rfl
theorem w_875 : (Jvm.Cond.selects "MoonOverTheHill$Moon" ({ cls := "MoonOverTheHill$Moon", name := "meritOf", desc := "(II)I" } : Jvm.MethodName) ({ cls := "MoonOverTheHill$Moon", name := "meritOf", desc := "(II)I" } : Jvm.MethodName)) ∈ ALL := inT_4 95 rfl rfl
theorem w_874 : (Jvm.Cond.instanceMethod ({ cls := "MoonOverTheHill$Moon", name := "meritOf", desc := "(II)I" } : Jvm.MethodName)) ∈ ALL := inT_4 94 rfl rfl
theorem w_873 : (Jvm.Cond.methodLink "MoonOverTheHill$Moon" (144 : Nat) ({ cls := "MoonOverTheHill$Moon", name := "meritOf", desc := "(II)I" } : Jvm.MethodName)) ∈ ALL := inT_4 93 rfl rfl
theorem w_927 : (Jvm.Cond.static ({ cls := "java/lang/Math", name := "floorDiv", desc := "(II)I" } : Jvm.MethodName)) ∈ ALL := inT_4 147 rfl rfl
theorem w_926 : (Jvm.Cond.methodLink "MoonOverTheHill$Moon" (153 : Nat) ({ cls := "java/lang/Math", name := "floorDiv", desc := "(II)I" } : Jvm.MethodName)) ∈ ALL := inT_4 146 rfl rfl
theorem w_790 : (Jvm.Cond.selects "MoonOverTheHill$Moon" ({ cls := "MoonOverTheHill$Moon", name := "riseOf", desc := "(I)I" } : Jvm.MethodName) ({ cls := "MoonOverTheHill$Moon", name := "riseOf", desc := "(I)I" } : Jvm.MethodName)) ∈ ALL := inT_4 10 rfl rfl
theorem w_789 : (Jvm.Cond.instanceMethod ({ cls := "MoonOverTheHill$Moon", name := "riseOf", desc := "(I)I" } : Jvm.MethodName)) ∈ ALL := inT_4 9 rfl rfl
theorem w_941 : (Jvm.Cond.methodLink "MoonOverTheHill$Moon" (156 : Nat) ({ cls := "MoonOverTheHill$Moon", name := "riseOf", desc := "(I)I" } : Jvm.MethodName)) ∈ ALL := inT_4 161 rfl rfl
theorem w_971 : (Jvm.Cond.constantLong "MoonOverTheHill$Moon" (172 : Nat) (9999 : Int64)) ∈ ALL := inT_4 191 rfl rfl
theorem w_990 : (Jvm.Cond.selects "MoonOverTheHill$Moon" ({ cls := "MoonOverTheHill$Moon", name := "highWaterOf", desc := "(I)I" } : Jvm.MethodName) ({ cls := "MoonOverTheHill$Moon", name := "highWaterOf", desc := "(I)I" } : Jvm.MethodName)) ∈ ALL := inT_4 210 rfl rfl
theorem w_989 : (Jvm.Cond.instanceMethod ({ cls := "MoonOverTheHill$Moon", name := "highWaterOf", desc := "(I)I" } : Jvm.MethodName)) ∈ ALL := inT_4 209 rfl rfl
theorem w_988 : (Jvm.Cond.methodLink "MoonOverTheHill$Moon" (174 : Nat) ({ cls := "MoonOverTheHill$Moon", name := "highWaterOf", desc := "(I)I" } : Jvm.MethodName)) ∈ ALL := inT_4 208 rfl rfl
theorem w_219 : (Jvm.Cond.fieldLink "MoonOverTheHill$Places" (9 : Nat) "MoonOverTheHill$Places" "often" "[I") ∈ ALL := inT_1 159 rfl rfl
theorem w_1034 : (Jvm.Cond.methodLink "MoonOverTheHill$Places" (15 : Nat) ({ cls := "java/util/Arrays", name := "fill", desc := "([II)V" } : Jvm.MethodName)) ∈ ALL := inT_5 14 rfl rfl
theorem w_1035 : (Jvm.Cond.methodLink "MoonOverTheHill$Places" (21 : Nat) ({ cls := "MoonOverTheHill$Moon", name := "lastOf", desc := "(II)I" } : Jvm.MethodName)) ∈ ALL := inT_5 15 rfl rfl
theorem w_1036 : (Jvm.Cond.methodLink "MoonOverTheHill$Places" (27 : Nat) ({ cls := "MoonOverTheHill$Moon", name := "degreeOf", desc := "(I)I" } : Jvm.MethodName)) ∈ ALL := inT_5 16 rfl rfl
theorem w_1045 : (Jvm.Cond.methodLink "MoonOverTheHill$Places" (31 : Nat) ({ cls := "java/lang/Math", name := "max", desc := "(II)I" } : Jvm.MethodName)) ∈ ALL := inT_5 25 rfl rfl
theorem w_68 : (Jvm.Cond.initialized "MoonOverTheHill$Places") ∈ ALL := inT_1 8 rfl rfl
theorem w_1043 : (Jvm.Cond.selects "MoonOverTheHill$Places" ({ cls := "MoonOverTheHill$Places", name := "near", desc := "(II)I" } : Jvm.MethodName) ({ cls := "MoonOverTheHill$Places", name := "near", desc := "(II)I" } : Jvm.MethodName)) ∈ ALL := inT_5 23 rfl rfl
theorem w_1042 : (Jvm.Cond.instanceMethod ({ cls := "MoonOverTheHill$Places", name := "near", desc := "(II)I" } : Jvm.MethodName)) ∈ ALL := inT_5 22 rfl rfl
theorem w_1054 : (Jvm.Cond.methodLink "MoonOverTheHill$Places" (36 : Nat) ({ cls := "MoonOverTheHill$Places", name := "near", desc := "(II)I" } : Jvm.MethodName)) ∈ ALL := inT_5 34 rfl rfl
theorem w_1142 : (Jvm.Cond.fieldLink "MoonOverTheHillModel" (37 : Nat) "MoonOverTheHillModel" "refused" "[I") ∈ ALL := inT_5 122 rfl rfl
theorem w_1266 : (Jvm.Cond.constantLong "MoonOverTheHillModel" (61 : Nat) (9999 : Int64)) ∈ ALL := inT_6 6 rfl rfl
theorem w_70 : (Jvm.Cond.initialized "MoonOverTheHillModel") ∈ ALL := inT_1 10 rfl rfl
theorem w_1227 : (Jvm.Cond.static ({ cls := "MoonOverTheHillModel", name := "in", desc := "(JJJ)Z" } : Jvm.MethodName)) ∈ ALL := inT_5 207 rfl rfl
theorem w_1226 : (Jvm.Cond.methodLink "MoonOverTheHillModel" (63 : Nat) ({ cls := "MoonOverTheHillModel", name := "in", desc := "(JJJ)Z" } : Jvm.MethodName)) ∈ ALL := inT_5 206 rfl rfl
theorem w_1264 : (Jvm.Cond.static ({ cls := "MoonOverTheHillModel", name := "isDay", desc := "(J)Z" } : Jvm.MethodName)) ∈ ALL := inT_6 4 rfl rfl
theorem w_1263 : (Jvm.Cond.methodLink "MoonOverTheHillModel" (67 : Nat) ({ cls := "MoonOverTheHillModel", name := "isDay", desc := "(J)Z" } : Jvm.MethodName)) ∈ ALL := inT_6 3 rfl rfl
theorem w_1509 : (Jvm.Cond.constantLong "MoonOverTheHillModel" (71 : Nat) (1000 : Int64)) ∈ ALL := inT_7 9 rfl rfl
theorem w_1225 : (Jvm.Cond.constantLong "MoonOverTheHillModel" (73 : Nat) (7 : Int64)) ∈ ALL := inT_5 205 rfl rfl
theorem w_21 : Cond.selects "MoonOverTheHillModel" (⟨"MoonOverTheHillModel", "refuse", "(I)I"⟩ : MethodName) (⟨"MoonOverTheHillModel", "refuse", "(I)I"⟩ : MethodName) ∈ ALL := inP 21 rfl rfl
theorem w_1233 : (Jvm.Cond.instanceMethod ({ cls := "MoonOverTheHillModel", name := "refuse", desc := "(I)I" } : Jvm.MethodName)) ∈ ALL := inT_5 213 rfl rfl
theorem w_1231 : (Jvm.Cond.methodLink "MoonOverTheHillModel" (79 : Nat) ({ cls := "MoonOverTheHillModel", name := "refuse", desc := "(I)I" } : Jvm.MethodName)) ∈ ALL := inT_5 211 rfl rfl
theorem w_1229 : (Jvm.Cond.constantLong "MoonOverTheHillModel" (75 : Nat) (4 : Int64)) ∈ ALL := inT_5 209 rfl rfl
theorem w_1230 : (Jvm.Cond.constantLong "MoonOverTheHillModel" (77 : Nat) (40 : Int64)) ∈ ALL := inT_5 210 rfl rfl
theorem w_1133 : (Jvm.Cond.fieldLink "MoonOverTheHillModel" (7 : Nat) "MoonOverTheHillModel" "shelf" "[I") ∈ ALL := inT_5 113 rfl rfl
theorem w_1134 : (Jvm.Cond.fieldLink "MoonOverTheHillModel" (13 : Nat) "MoonOverTheHillModel" "rowSort" "[I") ∈ ALL := inT_5 114 rfl rfl
theorem w_1135 : (Jvm.Cond.fieldLink "MoonOverTheHillModel" (16 : Nat) "MoonOverTheHillModel" "rowSize" "[I") ∈ ALL := inT_5 115 rfl rfl
theorem w_1136 : (Jvm.Cond.fieldLink "MoonOverTheHillModel" (21 : Nat) "MoonOverTheHillModel" "rows" "[[J") ∈ ALL := inT_5 116 rfl rfl
theorem w_22 : Cond.selects "MoonOverTheHillModel" (⟨"MoonOverTheHillModel", "noRow", "(I)I"⟩ : MethodName) (⟨"MoonOverTheHillModel", "noRow", "(I)I"⟩ : MethodName) ∈ ALL := inP 22 rfl rfl
theorem w_1241 : (Jvm.Cond.instanceMethod ({ cls := "MoonOverTheHillModel", name := "noRow", desc := "(I)I" } : Jvm.MethodName)) ∈ ALL := inT_5 221 rfl rfl
theorem w_1239 : (Jvm.Cond.methodLink "MoonOverTheHillModel" (83 : Nat) ({ cls := "MoonOverTheHillModel", name := "noRow", desc := "(I)I" } : Jvm.MethodName)) ∈ ALL := inT_5 219 rfl rfl
theorem w_1244 : (Jvm.Cond.static ({ cls := "MoonOverTheHillModel", name := "fit", desc := "(IJ)J" } : Jvm.MethodName)) ∈ ALL := inT_5 224 rfl rfl
theorem w_1243 : (Jvm.Cond.methodLink "MoonOverTheHillModel" (86 : Nat) ({ cls := "MoonOverTheHillModel", name := "fit", desc := "(IJ)J" } : Jvm.MethodName)) ∈ ALL := inT_5 223 rfl rfl
theorem w_1137 : (Jvm.Cond.fieldLink "MoonOverTheHillModel" (24 : Nat) "MoonOverTheHillModel" "moved" "[J") ∈ ALL := inT_5 117 rfl rfl
theorem w_1138 : (Jvm.Cond.fieldLink "MoonOverTheHillModel" (28 : Nat) "MoonOverTheHillModel" "eveKind" "[I") ∈ ALL := inT_5 118 rfl rfl
theorem w_1262 : (Jvm.Cond.constantLong "MoonOverTheHillModel" (90 : Nat) (5 : Int64)) ∈ ALL := inT_6 2 rfl rfl
theorem w_1139 : (Jvm.Cond.fieldLink "MoonOverTheHillModel" (31 : Nat) "MoonOverTheHillModel" "eveDay" "[I") ∈ ALL := inT_5 119 rfl rfl
theorem w_1143 : (Jvm.Cond.fieldLink "MoonOverTheHillModel" (40 : Nat) "MoonOverTheHillModel" "asked" "[I") ∈ ALL := inT_5 123 rfl rfl
theorem w_28 : Cond.selects "MoonOverTheHillModel" (⟨"MoonOverTheHillModel", "out", "(I)I"⟩ : MethodName) (⟨"MoonOverTheHillModel", "out", "(I)I"⟩ : MethodName) ∈ ALL := inP 28 rfl rfl
theorem w_1296 : (Jvm.Cond.instanceMethod ({ cls := "MoonOverTheHillModel", name := "out", desc := "(I)I" } : Jvm.MethodName)) ∈ ALL := inT_6 36 rfl rfl
theorem w_1294 : (Jvm.Cond.methodLink "MoonOverTheHillModel" (102 : Nat) ({ cls := "MoonOverTheHillModel", name := "out", desc := "(I)I" } : Jvm.MethodName)) ∈ ALL := inT_6 34 rfl rfl
theorem w_23 : Cond.selects "MoonOverTheHillModel" (⟨"MoonOverTheHillModel", "age", "(I)I"⟩ : MethodName) (⟨"MoonOverTheHillModel", "age", "(I)I"⟩ : MethodName) ∈ ALL := inP 23 rfl rfl
theorem w_1276 : (Jvm.Cond.instanceMethod ({ cls := "MoonOverTheHillModel", name := "age", desc := "(I)I" } : Jvm.MethodName)) ∈ ALL := inT_6 16 rfl rfl
theorem w_1274 : (Jvm.Cond.methodLink "MoonOverTheHillModel" (96 : Nat) ({ cls := "MoonOverTheHillModel", name := "age", desc := "(I)I" } : Jvm.MethodName)) ∈ ALL := inT_6 14 rfl rfl
theorem w_27 : Cond.selects "MoonOverTheHillModel" (⟨"MoonOverTheHillModel", "slantOf", "(I)I"⟩ : MethodName) (⟨"MoonOverTheHillModel", "slantOf", "(I)I"⟩ : MethodName) ∈ ALL := inP 27 rfl rfl
theorem w_1292 : (Jvm.Cond.instanceMethod ({ cls := "MoonOverTheHillModel", name := "slantOf", desc := "(I)I" } : Jvm.MethodName)) ∈ ALL := inT_6 32 rfl rfl
theorem w_1290 : (Jvm.Cond.methodLink "MoonOverTheHillModel" (227 : Nat) ({ cls := "MoonOverTheHillModel", name := "slantOf", desc := "(I)I" } : Jvm.MethodName)) ∈ ALL := inT_6 30 rfl rfl
theorem w_1299 : (Jvm.Cond.static ({ cls := "MoonOverTheHillModel", name := "mod", desc := "(II)I" } : Jvm.MethodName)) ∈ ALL := inT_6 39 rfl rfl
theorem w_1298 : (Jvm.Cond.methodLink "MoonOverTheHillModel" (230 : Nat) ({ cls := "MoonOverTheHillModel", name := "mod", desc := "(II)I" } : Jvm.MethodName)) ∈ ALL := inT_6 38 rfl rfl
theorem w_1144 : (Jvm.Cond.fieldLink "MoonOverTheHillModel" (116 : Nat) "MoonOverTheHillModel" "notches" "I") ∈ ALL := inT_5 124 rfl rfl
theorem w_1145 : (Jvm.Cond.fieldLink "MoonOverTheHillModel" (45 : Nat) "MoonOverTheHillModel" "notch" "[[I") ∈ ALL := inT_5 125 rfl rfl
theorem w_30 : Cond.selects "MoonOverTheHillModel" (⟨"MoonOverTheHillModel", "way", "(I)I"⟩ : MethodName) (⟨"MoonOverTheHillModel", "way", "(I)I"⟩ : MethodName) ∈ ALL := inP 30 rfl rfl
theorem w_1307 : (Jvm.Cond.instanceMethod ({ cls := "MoonOverTheHillModel", name := "way", desc := "(I)I" } : Jvm.MethodName)) ∈ ALL := inT_6 47 rfl rfl
theorem w_1305 : (Jvm.Cond.methodLink "MoonOverTheHillModel" (239 : Nat) ({ cls := "MoonOverTheHillModel", name := "way", desc := "(I)I" } : Jvm.MethodName)) ∈ ALL := inT_6 45 rfl rfl
theorem w_31 : Cond.selects "MoonOverTheHillModel" (⟨"MoonOverTheHillModel", "lineAt", "(I)I"⟩ : MethodName) (⟨"MoonOverTheHillModel", "lineAt", "(I)I"⟩ : MethodName) ∈ ALL := inP 31 rfl rfl
theorem w_1311 : (Jvm.Cond.instanceMethod ({ cls := "MoonOverTheHillModel", name := "lineAt", desc := "(I)I" } : Jvm.MethodName)) ∈ ALL := inT_6 51 rfl rfl
theorem w_1309 : (Jvm.Cond.methodLink "MoonOverTheHillModel" (236 : Nat) ({ cls := "MoonOverTheHillModel", name := "lineAt", desc := "(I)I" } : Jvm.MethodName)) ∈ ALL := inT_6 49 rfl rfl
theorem w_26 : Cond.selects "MoonOverTheHillModel" (⟨"MoonOverTheHillModel", "rise", "(I)I"⟩ : MethodName) (⟨"MoonOverTheHillModel", "rise", "(I)I"⟩ : MethodName) ∈ ALL := inP 26 rfl rfl
theorem w_1288 : (Jvm.Cond.instanceMethod ({ cls := "MoonOverTheHillModel", name := "rise", desc := "(I)I" } : Jvm.MethodName)) ∈ ALL := inT_6 28 rfl rfl
theorem w_1286 : (Jvm.Cond.methodLink "MoonOverTheHillModel" (242 : Nat) ({ cls := "MoonOverTheHillModel", name := "rise", desc := "(I)I" } : Jvm.MethodName)) ∈ ALL := inT_6 26 rfl rfl
theorem w_29 : Cond.selects "MoonOverTheHillModel" (⟨"MoonOverTheHillModel", "over", "(I)I"⟩ : MethodName) (⟨"MoonOverTheHillModel", "over", "(I)I"⟩ : MethodName) ∈ ALL := inP 29 rfl rfl
theorem w_1303 : (Jvm.Cond.instanceMethod ({ cls := "MoonOverTheHillModel", name := "over", desc := "(I)I" } : Jvm.MethodName)) ∈ ALL := inT_6 43 rfl rfl
theorem w_1301 : (Jvm.Cond.methodLink "MoonOverTheHillModel" (245 : Nat) ({ cls := "MoonOverTheHillModel", name := "over", desc := "(I)I" } : Jvm.MethodName)) ∈ ALL := inT_6 41 rfl rfl
theorem w_25 : Cond.selects "MoonOverTheHillModel" (⟨"MoonOverTheHillModel", "up", "(I)I"⟩ : MethodName) (⟨"MoonOverTheHillModel", "up", "(I)I"⟩ : MethodName) ∈ ALL := inP 25 rfl rfl
theorem w_1284 : (Jvm.Cond.instanceMethod ({ cls := "MoonOverTheHillModel", name := "up", desc := "(I)I" } : Jvm.MethodName)) ∈ ALL := inT_6 24 rfl rfl
theorem w_1282 : (Jvm.Cond.methodLink "MoonOverTheHillModel" (248 : Nat) ({ cls := "MoonOverTheHillModel", name := "up", desc := "(I)I" } : Jvm.MethodName)) ∈ ALL := inT_6 22 rfl rfl
theorem w_24 : Cond.selects "MoonOverTheHillModel" (⟨"MoonOverTheHillModel", "later", "(I)I"⟩ : MethodName) (⟨"MoonOverTheHillModel", "later", "(I)I"⟩ : MethodName) ∈ ALL := inP 24 rfl rfl
theorem w_1280 : (Jvm.Cond.instanceMethod ({ cls := "MoonOverTheHillModel", name := "later", desc := "(I)I" } : Jvm.MethodName)) ∈ ALL := inT_6 20 rfl rfl
theorem w_1278 : (Jvm.Cond.methodLink "MoonOverTheHillModel" (99 : Nat) ({ cls := "MoonOverTheHillModel", name := "later", desc := "(I)I" } : Jvm.MethodName)) ∈ ALL := inT_6 18 rfl rfl
theorem w_32 : Cond.selects "MoonOverTheHillModel" (⟨"MoonOverTheHillModel", "shinesIn", "(III)I"⟩ : MethodName) (⟨"MoonOverTheHillModel", "shinesIn", "(III)I"⟩ : MethodName) ∈ ALL := inP 32 rfl rfl
theorem w_1315 : (Jvm.Cond.instanceMethod ({ cls := "MoonOverTheHillModel", name := "shinesIn", desc := "(III)I" } : Jvm.MethodName)) ∈ ALL := inT_6 55 rfl rfl
theorem w_1313 : (Jvm.Cond.methodLink "MoonOverTheHillModel" (105 : Nat) ({ cls := "MoonOverTheHillModel", name := "shinesIn", desc := "(III)I" } : Jvm.MethodName)) ∈ ALL := inT_6 53 rfl rfl
theorem w_1272 : (Jvm.Cond.static ({ cls := "MoonOverTheHillModel", name := "isUnder", desc := "(II)Z" } : Jvm.MethodName)) ∈ ALL := inT_6 12 rfl rfl
theorem w_1271 : (Jvm.Cond.methodLink "MoonOverTheHillModel" (92 : Nat) ({ cls := "MoonOverTheHillModel", name := "isUnder", desc := "(II)Z" } : Jvm.MethodName)) ∈ ALL := inT_6 11 rfl rfl
theorem w_1325 : (Jvm.Cond.constantLong "MoonOverTheHillModel" (263 : Nat) (1427 : Int64)) ∈ ALL := inT_6 65 rfl rfl
theorem w_1326 : (Jvm.Cond.constantLong "MoonOverTheHillModel" (265 : Nat) (1526 : Int64)) ∈ ALL := inT_6 66 rfl rfl
theorem w_33 : Cond.selects "MoonOverTheHillModel" (⟨"MoonOverTheHillModel", "isOf", "(II)Z"⟩ : MethodName) (⟨"MoonOverTheHillModel", "isOf", "(II)Z"⟩ : MethodName) ∈ ALL := inP 33 rfl rfl
theorem w_1323 : (Jvm.Cond.instanceMethod ({ cls := "MoonOverTheHillModel", name := "isOf", desc := "(II)Z" } : Jvm.MethodName)) ∈ ALL := inT_6 63 rfl rfl
theorem w_1321 : (Jvm.Cond.methodLink "MoonOverTheHillModel" (109 : Nat) ({ cls := "MoonOverTheHillModel", name := "isOf", desc := "(II)Z" } : Jvm.MethodName)) ∈ ALL := inT_6 61 rfl rfl
theorem w_1331 : (Jvm.Cond.constantLong "MoonOverTheHillModel" (112 : Nat) (3 : Int64)) ∈ ALL := inT_6 71 rfl rfl
theorem w_1332 : (Jvm.Cond.constantLong "MoonOverTheHillModel" (114 : Nat) (9 : Int64)) ∈ ALL := inT_6 72 rfl rfl
theorem w_1337 : (Jvm.Cond.constantLong "MoonOverTheHillModel" (119 : Nat) (179 : Int64)) ∈ ALL := inT_6 77 rfl rfl
theorem w_1338 : (Jvm.Cond.constantLong "MoonOverTheHillModel" (121 : Nat) (30 : Int64)) ∈ ALL := inT_6 78 rfl rfl
theorem w_34 : Cond.selects "MoonOverTheHillModel" (⟨"MoonOverTheHillModel", "addNotch", "(III)V"⟩ : MethodName) (⟨"MoonOverTheHillModel", "addNotch", "(III)V"⟩ : MethodName) ∈ ALL := inP 34 rfl rfl
theorem w_1341 : (Jvm.Cond.instanceMethod ({ cls := "MoonOverTheHillModel", name := "addNotch", desc := "(III)V" } : Jvm.MethodName)) ∈ ALL := inT_6 81 rfl rfl
theorem w_1339 : (Jvm.Cond.methodLink "MoonOverTheHillModel" (123 : Nat) ({ cls := "MoonOverTheHillModel", name := "addNotch", desc := "(III)V" } : Jvm.MethodName)) ∈ ALL := inT_6 79 rfl rfl
theorem w_1146 : (Jvm.Cond.fieldLink "MoonOverTheHillModel" (127 : Nat) "MoonOverTheHillModel" "stones" "I") ∈ ALL := inT_5 126 rfl rfl
theorem w_1147 : (Jvm.Cond.fieldLink "MoonOverTheHillModel" (48 : Nat) "MoonOverTheHillModel" "stone" "[I") ∈ ALL := inT_5 127 rfl rfl
theorem w_1148 : (Jvm.Cond.fieldLink "MoonOverTheHillModel" (130 : Nat) "MoonOverTheHillModel" "clouds" "I") ∈ ALL := inT_5 128 rfl rfl
theorem w_1149 : (Jvm.Cond.fieldLink "MoonOverTheHillModel" (51 : Nat) "MoonOverTheHillModel" "cloud" "[I") ∈ ALL := inT_5 129 rfl rfl
theorem w_35 : Cond.selects "MoonOverTheHillModel" (⟨"MoonOverTheHillModel", "isCloud", "(I)Z"⟩ : MethodName) (⟨"MoonOverTheHillModel", "isCloud", "(I)Z"⟩ : MethodName) ∈ ALL := inP 35 rfl rfl
theorem w_1353 : (Jvm.Cond.instanceMethod ({ cls := "MoonOverTheHillModel", name := "isCloud", desc := "(I)Z" } : Jvm.MethodName)) ∈ ALL := inT_6 93 rfl rfl
theorem w_1351 : (Jvm.Cond.methodLink "MoonOverTheHillModel" (133 : Nat) ({ cls := "MoonOverTheHillModel", name := "isCloud", desc := "(I)Z" } : Jvm.MethodName)) ∈ ALL := inT_6 91 rfl rfl
theorem w_1359 : (Jvm.Cond.constantLong "MoonOverTheHillModel" (137 : Nat) (2 : Int64)) ∈ ALL := inT_6 99 rfl rfl
theorem w_1364 : (Jvm.Cond.constantLong "MoonOverTheHillModel" (139 : Nat) (255 : Int64)) ∈ ALL := inT_6 104 rfl rfl
theorem w_1141 : (Jvm.Cond.fieldLink "MoonOverTheHillModel" (141 : Nat) "MoonOverTheHillModel" "tapeSize" "I") ∈ ALL := inT_5 121 rfl rfl
theorem w_1140 : (Jvm.Cond.fieldLink "MoonOverTheHillModel" (34 : Nat) "MoonOverTheHillModel" "tape" "[I") ∈ ALL := inT_5 120 rfl rfl
theorem w_1155 : (Jvm.Cond.fieldLink "MoonOverTheHillModel" (144 : Nat) "MoonOverTheHillModel" "at" "I") ∈ ALL := inT_5 135 rfl rfl
