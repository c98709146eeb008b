theorem w_965 : (Jvm.Cond.instanceMethod ({ cls := "MoonOverTheHill", name := "toldByMost", desc := "(LMoonOverTheHill$Shelf;I)I" } : Jvm.MethodName)) ∈ ALL := inT_4 185 rfl rfl
theorem w_963 : (Jvm.Cond.methodLink "MoonOverTheHill" (299 : Nat) ({ cls := "MoonOverTheHill", name := "toldByMost", desc := "(LMoonOverTheHill$Shelf;I)I" } : Jvm.MethodName)) ∈ ALL := inT_4 183 rfl rfl
theorem w_986 : (Jvm.Cond.selects "MoonOverTheHill$Moon" ({ cls := "MoonOverTheHill$Moon", name := "tideAt", desc := "(II)I" } : Jvm.MethodName) ({ cls := "MoonOverTheHill$Moon", name := "tideAt", desc := "(II)I" } : Jvm.MethodName)) ∈ ALL := inT_4 206 rfl rfl
theorem w_985 : (Jvm.Cond.instanceMethod ({ cls := "MoonOverTheHill$Moon", name := "tideAt", desc := "(II)I" } : Jvm.MethodName)) ∈ ALL := inT_4 205 rfl rfl
theorem w_984 : (Jvm.Cond.methodLink "MoonOverTheHill" (307 : Nat) ({ cls := "MoonOverTheHill$Moon", name := "tideAt", desc := "(II)I" } : Jvm.MethodName)) ∈ ALL := inT_4 204 rfl rfl
theorem w_996 : (Jvm.Cond.methodLink "MoonOverTheHill" (310 : Nat) ({ cls := "MoonOverTheHill$Moon", name := "highWaterOf", desc := "(I)I" } : Jvm.MethodName)) ∈ ALL := inT_4 216 rfl rfl
theorem w_1018 : (Jvm.Cond.selects "MoonOverTheHill$Shelf" ({ cls := "MoonOverTheHill$Shelf", name := "threesOfMonths", desc := "(I)I" } : Jvm.MethodName) ({ cls := "MoonOverTheHill$Shelf", name := "threesOfMonths", desc := "(I)I" } : Jvm.MethodName)) ∈ ALL := inT_4 238 rfl rfl
theorem w_1017 : (Jvm.Cond.instanceMethod ({ cls := "MoonOverTheHill$Shelf", name := "threesOfMonths", desc := "(I)I" } : Jvm.MethodName)) ∈ ALL := inT_4 237 rfl rfl
theorem w_1016 : (Jvm.Cond.methodLink "MoonOverTheHill" (319 : Nat) ({ cls := "MoonOverTheHill$Shelf", name := "threesOfMonths", desc := "(I)I" } : Jvm.MethodName)) ∈ ALL := inT_4 236 rfl rfl
theorem w_1013 : (Jvm.Cond.selects "MoonOverTheHill$Shelf" ({ cls := "MoonOverTheHill$Shelf", name := "longestRun", desc := "(I)I" } : Jvm.MethodName) ({ cls := "MoonOverTheHill$Shelf", name := "longestRun", desc := "(I)I" } : Jvm.MethodName)) ∈ ALL := inT_4 233 rfl rfl
theorem w_1012 : (Jvm.Cond.instanceMethod ({ cls := "MoonOverTheHill$Shelf", name := "longestRun", desc := "(I)I" } : Jvm.MethodName)) ∈ ALL := inT_4 232 rfl rfl
theorem w_1011 : (Jvm.Cond.methodLink "MoonOverTheHill" (316 : Nat) ({ cls := "MoonOverTheHill$Shelf", name := "longestRun", desc := "(I)I" } : Jvm.MethodName)) ∈ ALL := inT_4 231 rfl rfl
theorem w_1003 : (Jvm.Cond.selects "MoonOverTheHill$Shelf" ({ cls := "MoonOverTheHill$Shelf", name := "monthCounts", desc := "(I)I" } : Jvm.MethodName) ({ cls := "MoonOverTheHill$Shelf", name := "monthCounts", desc := "(I)I" } : Jvm.MethodName)) ∈ ALL := inT_4 223 rfl rfl
theorem w_1002 : (Jvm.Cond.instanceMethod ({ cls := "MoonOverTheHill$Shelf", name := "monthCounts", desc := "(I)I" } : Jvm.MethodName)) ∈ ALL := inT_4 222 rfl rfl
theorem w_1001 : (Jvm.Cond.methodLink "MoonOverTheHill" (313 : Nat) ({ cls := "MoonOverTheHill$Shelf", name := "monthCounts", desc := "(I)I" } : Jvm.MethodName)) ∈ ALL := inT_4 221 rfl rfl
theorem w_249 : (Jvm.Cond.fieldLink "MoonOverTheHill" (41 : Nat) "MoonOverTheHill" "places" "LMoonOverTheHill$Places;") ∈ ALL := inT_1 189 rfl rfl
theorem w_1041 : (Jvm.Cond.methodLink "MoonOverTheHill" (374 : Nat) ({ cls := "MoonOverTheHill$Places", name := "near", desc := "(II)I" } : Jvm.MethodName)) ∈ ALL := inT_5 21 rfl rfl
theorem w_1032 : (Jvm.Cond.selects "MoonOverTheHill$Places" ({ cls := "MoonOverTheHill$Places", name := "gather", desc := "(LMoonOverTheHill$Moon;II)V" } : Jvm.MethodName) ({ cls := "MoonOverTheHill$Places", name := "gather", desc := "(LMoonOverTheHill$Moon;II)V" } : Jvm.MethodName)) ∈ ALL := inT_5 12 rfl rfl
theorem w_1031 : (Jvm.Cond.instanceMethod ({ cls := "MoonOverTheHill$Places", name := "gather", desc := "(LMoonOverTheHill$Moon;II)V" } : Jvm.MethodName)) ∈ ALL := inT_5 11 rfl rfl
theorem w_1030 : (Jvm.Cond.methodLink "MoonOverTheHill" (322 : Nat) ({ cls := "MoonOverTheHill$Places", name := "gather", desc := "(LMoonOverTheHill$Moon;II)V" } : Jvm.MethodName)) ∈ ALL := inT_5 10 rfl rfl
theorem w_17 : Cond.selects "MoonOverTheHill" (⟨"MoonOverTheHill", "stonesThatHit", "(I)I"⟩ : MethodName) (⟨"MoonOverTheHill", "stonesThatHit", "(I)I"⟩ : MethodName) ∈ ALL := inP 17 rfl rfl
theorem w_1039 : (Jvm.Cond.instanceMethod ({ cls := "MoonOverTheHill", name := "stonesThatHit", desc := "(I)I" } : Jvm.MethodName)) ∈ ALL := inT_5 19 rfl rfl
theorem w_1037 : (Jvm.Cond.methodLink "MoonOverTheHill" (326 : Nat) ({ cls := "MoonOverTheHill", name := "stonesThatHit", desc := "(I)I" } : Jvm.MethodName)) ∈ ALL := inT_5 17 rfl rfl
theorem w_1052 : (Jvm.Cond.selects "MoonOverTheHill$Places" ({ cls := "MoonOverTheHill$Places", name := "degreesThatHit", desc := "(I)I" } : Jvm.MethodName) ({ cls := "MoonOverTheHill$Places", name := "degreesThatHit", desc := "(I)I" } : Jvm.MethodName)) ∈ ALL := inT_5 32 rfl rfl
theorem w_1051 : (Jvm.Cond.instanceMethod ({ cls := "MoonOverTheHill$Places", name := "degreesThatHit", desc := "(I)I" } : Jvm.MethodName)) ∈ ALL := inT_5 31 rfl rfl
theorem w_1050 : (Jvm.Cond.methodLink "MoonOverTheHill" (329 : Nat) ({ cls := "MoonOverTheHill$Places", name := "degreesThatHit", desc := "(I)I" } : Jvm.MethodName)) ∈ ALL := inT_5 30 rfl rfl
theorem w_1065 : (Jvm.Cond.selects "MoonOverTheHill$Places" ({ cls := "MoonOverTheHill$Places", name := "fullest", desc := "(I)I" } : Jvm.MethodName) ({ cls := "MoonOverTheHill$Places", name := "fullest", desc := "(I)I" } : Jvm.MethodName)) ∈ ALL := inT_5 45 rfl rfl
theorem w_1064 : (Jvm.Cond.instanceMethod ({ cls := "MoonOverTheHill$Places", name := "fullest", desc := "(I)I" } : Jvm.MethodName)) ∈ ALL := inT_5 44 rfl rfl
theorem w_1063 : (Jvm.Cond.methodLink "MoonOverTheHill" (332 : Nat) ({ cls := "MoonOverTheHill$Places", name := "fullest", desc := "(I)I" } : Jvm.MethodName)) ∈ ALL := inT_5 43 rfl rfl
theorem w_78 : (Jvm.Cond.initialized "java/lang/Integer") ∈ ALL := inT_1 18 rfl rfl
theorem w_1072 : (Jvm.Cond.static ({ cls := "java/lang/Integer", name := "bitCount", desc := "(I)I" } : Jvm.MethodName)) ∈ ALL := inT_5 52 rfl rfl
theorem w_1071 : (Jvm.Cond.methodLink "MoonOverTheHill" (335 : Nat) ({ cls := "java/lang/Integer", name := "bitCount", desc := "(I)I" } : Jvm.MethodName)) ∈ ALL := inT_5 51 rfl rfl
theorem w_1081 : (Jvm.Cond.methodLink "MoonOverTheHill" (340 : Nat) ({ cls := "java/lang/Math", name := "floorMod", desc := "(II)I" } : Jvm.MethodName)) ∈ ALL := inT_5 61 rfl rfl
theorem w_133 : (Jvm.Cond.fieldLink "MoonOverTheHill" (343 : Nat) "MoonOverTheHill$State" "off" "I") ∈ ALL := inT_1 73 rfl rfl
theorem w_1092 : (Jvm.Cond.selects "MoonOverTheHill$State" ({ cls := "MoonOverTheHill$State", name := "draw", desc := "(I)I" } : Jvm.MethodName) ({ cls := "MoonOverTheHill$State", name := "draw", desc := "(I)I" } : Jvm.MethodName)) ∈ ALL := inT_5 72 rfl rfl
theorem w_1091 : (Jvm.Cond.instanceMethod ({ cls := "MoonOverTheHill$State", name := "draw", desc := "(I)I" } : Jvm.MethodName)) ∈ ALL := inT_5 71 rfl rfl
theorem w_1090 : (Jvm.Cond.methodLink "MoonOverTheHill" (377 : Nat) ({ cls := "MoonOverTheHill$State", name := "draw", desc := "(I)I" } : Jvm.MethodName)) ∈ ALL := inT_5 70 rfl rfl
theorem w_139 : (Jvm.Cond.fieldLink "MoonOverTheHill" (380 : Nat) "MoonOverTheHill$State" "cloud" "I") ∈ ALL := inT_1 79 rfl rfl
theorem w_152 : (Jvm.Cond.fieldLink "MoonOverTheHill" (347 : Nat) "MoonOverTheHill$State" "today" "I") ∈ ALL := inT_1 92 rfl rfl
theorem w_154 : (Jvm.Cond.fieldLink "MoonOverTheHill" (353 : Nat) "MoonOverTheHill$State" "looks" "I") ∈ ALL := inT_1 94 rfl rfl
theorem w_18 : Cond.selects "MoonOverTheHill" (⟨"MoonOverTheHill", "letEveningPass", "()Z"⟩ : MethodName) (⟨"MoonOverTheHill", "letEveningPass", "()Z"⟩ : MethodName) ∈ ALL := inP 18 rfl rfl
theorem w_1088 : (Jvm.Cond.instanceMethod ({ cls := "MoonOverTheHill", name := "letEveningPass", desc := "()Z" } : Jvm.MethodName)) ∈ ALL := inT_5 68 rfl rfl
theorem w_1086 : (Jvm.Cond.methodLink "MoonOverTheHill" (350 : Nat) ({ cls := "MoonOverTheHill", name := "letEveningPass", desc := "()Z" } : Jvm.MethodName)) ∈ ALL := inT_5 66 rfl rfl
theorem w_156 : (Jvm.Cond.fieldLink "MoonOverTheHill" (356 : Nat) "MoonOverTheHill$State" "seed" "I") ∈ ALL := inT_1 96 rfl rfl
theorem w_246 : (Jvm.Cond.fieldLink "MoonOverTheHill" (19 : Nat) "MoonOverTheHill" "kept" "LMoonOverTheHill$State;") ∈ ALL := inT_1 186 rfl rfl
theorem w_252 : (Jvm.Cond.fieldLink "MoonOverTheHill" (359 : Nat) "MoonOverTheHill" "isKept" "Z") ∈ ALL := inT_1 192 rfl rfl
theorem w_19 : Cond.selects "MoonOverTheHill" (⟨"MoonOverTheHill", "shelvesInUse", "()I"⟩ : MethodName) (⟨"MoonOverTheHill", "shelvesInUse", "()I"⟩ : MethodName) ∈ ALL := inP 19 rfl rfl
theorem w_1117 : (Jvm.Cond.instanceMethod ({ cls := "MoonOverTheHill", name := "shelvesInUse", desc := "()I" } : Jvm.MethodName)) ∈ ALL := inT_5 97 rfl rfl
theorem w_1115 : (Jvm.Cond.methodLink "MoonOverTheHill" (363 : Nat) ({ cls := "MoonOverTheHill", name := "shelvesInUse", desc := "()I" } : Jvm.MethodName)) ∈ ALL := inT_5 95 rfl rfl
theorem w_20 : Cond.selects "MoonOverTheHill" (⟨"MoonOverTheHill", "refusalsAt", "(I)I"⟩ : MethodName) (⟨"MoonOverTheHill", "refusalsAt", "(I)I"⟩ : MethodName) ∈ ALL := inP 20 rfl rfl
theorem w_1121 : (Jvm.Cond.instanceMethod ({ cls := "MoonOverTheHill", name := "refusalsAt", desc := "(I)I" } : Jvm.MethodName)) ∈ ALL := inT_5 101 rfl rfl
theorem w_1119 : (Jvm.Cond.methodLink "MoonOverTheHill" (366 : Nat) ({ cls := "MoonOverTheHill", name := "refusalsAt", desc := "(I)I" } : Jvm.MethodName)) ∈ ALL := inT_5 99 rfl rfl
theorem w_112 : (Jvm.Cond.lays "MoonOverTheHill$Few" "MoonOverTheHill$Few" "count" "I") ∈ ALL := inT_1 52 rfl rfl
theorem w_110 : (Jvm.Cond.laysFinal "MoonOverTheHill$Few" "MoonOverTheHill$Few" "items" "[I") ∈ ALL := inT_1 50 rfl rfl
theorem w_126 : (Jvm.Cond.laysFinal "MoonOverTheHill$Hill" "MoonOverTheHill$Hill" "line" "[I") ∈ ALL := inT_1 66 rfl rfl
theorem w_124 : (Jvm.Cond.laysFinal "MoonOverTheHill$Hill" "MoonOverTheHill$Hill" "height" "LMoonOverTheHill$Few;") ∈ ALL := inT_1 64 rfl rfl
theorem w_122 : (Jvm.Cond.laysFinal "MoonOverTheHill$Hill" "MoonOverTheHill$Hill" "to" "LMoonOverTheHill$Few;") ∈ ALL := inT_1 62 rfl rfl
theorem w_120 : (Jvm.Cond.laysFinal "MoonOverTheHill$Hill" "MoonOverTheHill$Hill" "from" "LMoonOverTheHill$Few;") ∈ ALL := inT_1 60 rfl rfl
theorem w_185 : (Jvm.Cond.laysFinal "MoonOverTheHill$Moon" "MoonOverTheHill$Moon" "now" "LMoonOverTheHill$State;") ∈ ALL := inT_1 125 rfl rfl
theorem w_220 : (Jvm.Cond.laysFinal "MoonOverTheHill$Places" "MoonOverTheHill$Places" "often" "[I") ∈ ALL := inT_1 160 rfl rfl
theorem w_478 : (Jvm.Cond.laysFinal "MoonOverTheHill$Question" "MoonOverTheHill$Question" "picture" "LMoonOverTheHill$Shelf;") ∈ ALL := inT_2 178 rfl rfl
theorem w_476 : (Jvm.Cond.laysFinal "MoonOverTheHill$Question" "MoonOverTheHill$Question" "c" "I") ∈ ALL := inT_2 176 rfl rfl
theorem w_474 : (Jvm.Cond.laysFinal "MoonOverTheHill$Question" "MoonOverTheHill$Question" "b" "I") ∈ ALL := inT_2 174 rfl rfl
theorem w_472 : (Jvm.Cond.laysFinal "MoonOverTheHill$Question" "MoonOverTheHill$Question" "a" "I") ∈ ALL := inT_2 172 rfl rfl
theorem w_470 : (Jvm.Cond.laysFinal "MoonOverTheHill$Question" "MoonOverTheHill$Question" "about" "I") ∈ ALL := inT_2 170 rfl rfl
theorem w_240 : (Jvm.Cond.lays "MoonOverTheHill$Shelf" "MoonOverTheHill$Shelf" "day" "I") ∈ ALL := inT_1 180 rfl rfl
theorem w_238 : (Jvm.Cond.lays "MoonOverTheHill$Shelf" "MoonOverTheHill$Shelf" "size" "I") ∈ ALL := inT_1 178 rfl rfl
theorem w_236 : (Jvm.Cond.lays "MoonOverTheHill$Shelf" "MoonOverTheHill$Shelf" "content" "I") ∈ ALL := inT_1 176 rfl rfl
theorem w_234 : (Jvm.Cond.laysFinal "MoonOverTheHill$Shelf" "MoonOverTheHill$Shelf" "elements" "[J") ∈ ALL := inT_1 174 rfl rfl
theorem w_175 : (Jvm.Cond.lays "MoonOverTheHill$State" "MoonOverTheHill$State" "seed" "I") ∈ ALL := inT_1 115 rfl rfl
theorem w_173 : (Jvm.Cond.lays "MoonOverTheHill$State" "MoonOverTheHill$State" "looks" "I") ∈ ALL := inT_1 113 rfl rfl
theorem w_171 : (Jvm.Cond.lays "MoonOverTheHill$State" "MoonOverTheHill$State" "today" "I") ∈ ALL := inT_1 111 rfl rfl
theorem w_169 : (Jvm.Cond.laysFinal "MoonOverTheHill$State" "MoonOverTheHill$State" "clouds" "LMoonOverTheHill$Few;") ∈ ALL := inT_1 109 rfl rfl
theorem w_167 : (Jvm.Cond.laysFinal "MoonOverTheHill$State" "MoonOverTheHill$State" "stones" "LMoonOverTheHill$Few;") ∈ ALL := inT_1 107 rfl rfl
theorem w_165 : (Jvm.Cond.laysFinal "MoonOverTheHill$State" "MoonOverTheHill$State" "hill" "LMoonOverTheHill$Hill;") ∈ ALL := inT_1 105 rfl rfl
theorem w_163 : (Jvm.Cond.lays "MoonOverTheHill$State" "MoonOverTheHill$State" "cloud" "I") ∈ ALL := inT_1 103 rfl rfl
theorem w_161 : (Jvm.Cond.lays "MoonOverTheHill$State" "MoonOverTheHill$State" "swing" "I") ∈ ALL := inT_1 101 rfl rfl
theorem w_159 : (Jvm.Cond.lays "MoonOverTheHill$State" "MoonOverTheHill$State" "node" "I") ∈ ALL := inT_1 99 rfl rfl
theorem w_157 : (Jvm.Cond.lays "MoonOverTheHill$State" "MoonOverTheHill$State" "off" "I") ∈ ALL := inT_1 97 rfl rfl
theorem w_210 : (Jvm.Cond.lays "MoonOverTheHill$Tape" "MoonOverTheHill$Tape" "value" "I") ∈ ALL := inT_1 150 rfl rfl
theorem w_208 : (Jvm.Cond.lays "MoonOverTheHill$Tape" "MoonOverTheHill$Tape" "end" "I") ∈ ALL := inT_1 148 rfl rfl
theorem w_206 : (Jvm.Cond.lays "MoonOverTheHill$Tape" "MoonOverTheHill$Tape" "start" "I") ∈ ALL := inT_1 146 rfl rfl
theorem w_204 : (Jvm.Cond.lays "MoonOverTheHill$Tape" "MoonOverTheHill$Tape" "token" "I") ∈ ALL := inT_1 144 rfl rfl
theorem w_202 : (Jvm.Cond.lays "MoonOverTheHill$Tape" "MoonOverTheHill$Tape" "size" "I") ∈ ALL := inT_1 142 rfl rfl
theorem w_200 : (Jvm.Cond.laysFinal "MoonOverTheHill$Tape" "MoonOverTheHill$Tape" "bytes" "[I") ∈ ALL := inT_1 140 rfl rfl
theorem w_269 : (Jvm.Cond.lays "MoonOverTheHill" "MoonOverTheHill" "isKept" "Z") ∈ ALL := inT_1 209 rfl rfl
theorem w_267 : (Jvm.Cond.laysFinal "MoonOverTheHill" "MoonOverTheHill" "refusals" "[I") ∈ ALL := inT_1 207 rfl rfl
theorem w_265 : (Jvm.Cond.laysFinal "MoonOverTheHill" "MoonOverTheHill" "shelves" "[LMoonOverTheHill$Shelf;") ∈ ALL := inT_1 205 rfl rfl
theorem w_263 : (Jvm.Cond.laysFinal "MoonOverTheHill" "MoonOverTheHill" "places" "LMoonOverTheHill$Places;") ∈ ALL := inT_1 203 rfl rfl
theorem w_261 : (Jvm.Cond.laysFinal "MoonOverTheHill" "MoonOverTheHill" "tape" "LMoonOverTheHill$Tape;") ∈ ALL := inT_1 201 rfl rfl
theorem w_259 : (Jvm.Cond.laysFinal "MoonOverTheHill" "MoonOverTheHill" "moon" "LMoonOverTheHill$Moon;") ∈ ALL := inT_1 199 rfl rfl
theorem w_257 : (Jvm.Cond.laysFinal "MoonOverTheHill" "MoonOverTheHill" "kept" "LMoonOverTheHill$State;") ∈ ALL := inT_1 197 rfl rfl
theorem w_255 : (Jvm.Cond.laysFinal "MoonOverTheHill" "MoonOverTheHill" "draft" "LMoonOverTheHill$State;") ∈ ALL := inT_1 195 rfl rfl
theorem w_253 : (Jvm.Cond.laysFinal "MoonOverTheHill" "MoonOverTheHill" "now" "LMoonOverTheHill$State;") ∈ ALL := inT_1 193 rfl rfl
theorem w_1218 : (Jvm.Cond.lays "MoonOverTheHillModel" "MoonOverTheHillModel" "statements" "I") ∈ ALL := inT_5 198 rfl rfl
theorem w_1216 : (Jvm.Cond.laysFinal "MoonOverTheHillModel" "MoonOverTheHillModel" "told" "[I") ∈ ALL := inT_5 196 rfl rfl
theorem w_1214 : (Jvm.Cond.lays "MoonOverTheHillModel" "MoonOverTheHillModel" "fault" "I") ∈ ALL := inT_5 194 rfl rfl
theorem w_1212 : (Jvm.Cond.lays "MoonOverTheHillModel" "MoonOverTheHillModel" "figures" "I") ∈ ALL := inT_5 192 rfl rfl
theorem w_1210 : (Jvm.Cond.lays "MoonOverTheHillModel" "MoonOverTheHillModel" "from" "I") ∈ ALL := inT_5 190 rfl rfl
theorem w_1208 : (Jvm.Cond.lays "MoonOverTheHillModel" "MoonOverTheHillModel" "token" "I") ∈ ALL := inT_5 188 rfl rfl
theorem w_1206 : (Jvm.Cond.lays "MoonOverTheHillModel" "MoonOverTheHillModel" "at" "I") ∈ ALL := inT_5 186 rfl rfl
theorem w_1204 : (Jvm.Cond.lays "MoonOverTheHillModel" "MoonOverTheHillModel" "tried" "LMoonOverTheHillModel;") ∈ ALL := inT_5 184 rfl rfl
theorem w_1202 : (Jvm.Cond.lays "MoonOverTheHillModel" "MoonOverTheHillModel" "kept" "LMoonOverTheHillModel;") ∈ ALL := inT_5 182 rfl rfl
theorem w_1200 : (Jvm.Cond.lays "MoonOverTheHillModel" "MoonOverTheHillModel" "seed" "I") ∈ ALL := inT_5 180 rfl rfl
theorem w_1198 : (Jvm.Cond.lays "MoonOverTheHillModel" "MoonOverTheHillModel" "looks" "I") ∈ ALL := inT_5 178 rfl rfl
theorem w_1196 : (Jvm.Cond.lays "MoonOverTheHillModel" "MoonOverTheHillModel" "today" "I") ∈ ALL := inT_5 176 rfl rfl
theorem w_1194 : (Jvm.Cond.laysFinal "MoonOverTheHillModel" "MoonOverTheHillModel" "cloud" "[I") ∈ ALL := inT_5 174 rfl rfl
theorem w_1192 : (Jvm.Cond.lays "MoonOverTheHillModel" "MoonOverTheHillModel" "clouds" "I") ∈ ALL := inT_5 172 rfl rfl
theorem w_1190 : (Jvm.Cond.laysFinal "MoonOverTheHillModel" "MoonOverTheHillModel" "stone" "[I") ∈ ALL := inT_5 170 rfl rfl
theorem w_1188 : (Jvm.Cond.lays "MoonOverTheHillModel" "MoonOverTheHillModel" "stones" "I") ∈ ALL := inT_5 168 rfl rfl
theorem w_1186 : (Jvm.Cond.laysFinal "MoonOverTheHillModel" "MoonOverTheHillModel" "notch" "[[I") ∈ ALL := inT_5 166 rfl rfl
theorem w_1184 : (Jvm.Cond.lays "MoonOverTheHillModel" "MoonOverTheHillModel" "notches" "I") ∈ ALL := inT_5 164 rfl rfl
theorem w_1182 : (Jvm.Cond.laysFinal "MoonOverTheHillModel" "MoonOverTheHillModel" "asked" "[I") ∈ ALL := inT_5 162 rfl rfl
theorem w_1180 : (Jvm.Cond.laysFinal "MoonOverTheHillModel" "MoonOverTheHillModel" "refused" "[I") ∈ ALL := inT_5 160 rfl rfl
theorem w_1178 : (Jvm.Cond.lays "MoonOverTheHillModel" "MoonOverTheHillModel" "tapeSize" "I") ∈ ALL := inT_5 158 rfl rfl
theorem w_1176 : (Jvm.Cond.laysFinal "MoonOverTheHillModel" "MoonOverTheHillModel" "tape" "[I") ∈ ALL := inT_5 156 rfl rfl
theorem w_1174 : (Jvm.Cond.laysFinal "MoonOverTheHillModel" "MoonOverTheHillModel" "eveDay" "[I") ∈ ALL := inT_5 154 rfl rfl
theorem w_1172 : (Jvm.Cond.laysFinal "MoonOverTheHillModel" "MoonOverTheHillModel" "eveKind" "[I") ∈ ALL := inT_5 152 rfl rfl
theorem w_1170 : (Jvm.Cond.laysFinal "MoonOverTheHillModel" "MoonOverTheHillModel" "moved" "[J") ∈ ALL := inT_5 150 rfl rfl
theorem w_1168 : (Jvm.Cond.laysFinal "MoonOverTheHillModel" "MoonOverTheHillModel" "rows" "[[J") ∈ ALL := inT_5 148 rfl rfl
theorem w_1166 : (Jvm.Cond.laysFinal "MoonOverTheHillModel" "MoonOverTheHillModel" "rowSize" "[I") ∈ ALL := inT_5 146 rfl rfl
theorem w_1164 : (Jvm.Cond.laysFinal "MoonOverTheHillModel" "MoonOverTheHillModel" "rowSort" "[I") ∈ ALL := inT_5 144 rfl rfl
theorem w_1162 : (Jvm.Cond.laysFinal "MoonOverTheHillModel" "MoonOverTheHillModel" "shelf" "[I") ∈ ALL := inT_5 142 rfl rfl
theorem w_282 : (Jvm.Cond.code ({ cls := "MoonOverTheHill", name := "isIn", desc := "(III)Z" } : Jvm.MethodName) prog_1_method_62_code (3 : Nat) (Option.some Jvm.ClassFile.FieldType.boolean)) ∈ ALL := inT_1 222 rfl rfl
theorem w_373 : (Jvm.Cond.code ({ cls := "MoonOverTheHill", name := "isDay", desc := "(I)Z" } : Jvm.MethodName) prog_1_method_63_code (1 : Nat) (Option.some Jvm.ClassFile.FieldType.boolean)) ∈ ALL := inT_2 73 rfl rfl
theorem w_853 : (Jvm.Cond.code ({ cls := "MoonOverTheHill", name := "areDays", desc := "(II)Z" } : Jvm.MethodName) prog_1_method_64_code (2 : Nat) (Option.some Jvm.ClassFile.FieldType.boolean)) ∈ ALL := inT_4 73 rfl rfl
theorem w_825 : (Jvm.Cond.code ({ cls := "MoonOverTheHill", name := "areMinutes", desc := "(II)Z" } : Jvm.MethodName) prog_1_method_65_code (2 : Nat) (Option.some Jvm.ClassFile.FieldType.boolean)) ∈ ALL := inT_4 45 rfl rfl
theorem w_370 : (Jvm.Cond.code ({ cls := "MoonOverTheHill", name := "isKind", desc := "(I)Z" } : Jvm.MethodName) prog_1_method_66_code (1 : Nat) (Option.some Jvm.ClassFile.FieldType.boolean)) ∈ ALL := inT_2 70 rfl rfl
theorem w_388 : (Jvm.Cond.code ({ cls := "MoonOverTheHill", name := "isUnder", desc := "(II)Z" } : Jvm.MethodName) prog_1_method_67_code (2 : Nat) (Option.some Jvm.ClassFile.FieldType.boolean)) ∈ ALL := inT_2 88 rfl rfl
theorem w_107 : (Jvm.Cond.code ({ cls := "java/lang/Math", name := "max", desc := "(II)I" } : Jvm.MethodName) prog_13_method_65_code (2 : Nat) (Option.some Jvm.ClassFile.FieldType.int)) ∈ ALL := inT_1 47 rfl rfl
theorem w_103 : (Jvm.Cond.code ({ cls := "MoonOverTheHill$Few", name := "<init>", desc := "(I)V" } : Jvm.MethodName) prog_2_method_1_code (2 : Nat) (Option.none : Option Jvm.ClassFile.FieldType)) ∈ ALL := inT_1 43 rfl rfl
theorem w_513 : (Jvm.Cond.code ({ cls := "MoonOverTheHill$Few", name := "count", desc := "()I" } : Jvm.MethodName) prog_2_method_2_code (1 : Nat) (Option.some Jvm.ClassFile.FieldType.int)) ∈ ALL := inT_2 213 rfl rfl
theorem w_568 : (Jvm.Cond.code ({ cls := "MoonOverTheHill$Few", name := "isFull", desc := "()Z" } : Jvm.MethodName) prog_2_method_3_code (1 : Nat) (Option.some Jvm.ClassFile.FieldType.boolean)) ∈ ALL := inT_3 28 rfl rfl
theorem w_576 : (Jvm.Cond.code ({ cls := "MoonOverTheHill$Few", name := "add", desc := "(I)V" } : Jvm.MethodName) prog_2_method_4_code (2 : Nat) (Option.none : Option Jvm.ClassFile.FieldType)) ∈ ALL := inT_3 36 rfl rfl
theorem w_517 : (Jvm.Cond.code ({ cls := "MoonOverTheHill$Few", name := "at", desc := "(I)I" } : Jvm.MethodName) prog_2_method_5_code (2 : Nat) (Option.some Jvm.ClassFile.FieldType.int)) ∈ ALL := inT_2 217 rfl rfl
theorem w_526 : (Jvm.Cond.code ({ cls := "MoonOverTheHill$Few", name := "contains", desc := "(I)Z" } : Jvm.MethodName) prog_2_method_6_code (3 : Nat) (Option.some Jvm.ClassFile.FieldType.boolean)) ∈ ALL := inT_2 226 rfl rfl
theorem w_601 : (Jvm.Cond.code ({ cls := "MoonOverTheHill$Few", name := "empty", desc := "()V" } : Jvm.MethodName) prog_2_method_7_code (1 : Nat) (Option.none : Option Jvm.ClassFile.FieldType)) ∈ ALL := inT_3 61 rfl rfl
theorem w_645 : (Jvm.Cond.code ({ cls := "MoonOverTheHill$Few", name := "become", desc := "(LMoonOverTheHill$Few;)V" } : Jvm.MethodName) prog_2_method_8_code (3 : Nat) (Option.none : Option Jvm.ClassFile.FieldType)) ∈ ALL := inT_3 105 rfl rfl
theorem w_97 : (Jvm.Cond.code ({ cls := "MoonOverTheHill$Hill", name := "<init>", desc := "()V" } : Jvm.MethodName) prog_3_method_1_code (1 : Nat) (Option.none : Option Jvm.ClassFile.FieldType)) ∈ ALL := inT_1 37 rfl rfl
theorem w_509 : (Jvm.Cond.code ({ cls := "MoonOverTheHill$Hill", name := "count", desc := "()I" } : Jvm.MethodName) prog_3_method_2_code (1 : Nat) (Option.some Jvm.ClassFile.FieldType.int)) ∈ ALL := inT_2 209 rfl rfl
theorem w_564 : (Jvm.Cond.code ({ cls := "MoonOverTheHill$Hill", name := "isFull", desc := "()Z" } : Jvm.MethodName) prog_3_method_3_code (1 : Nat) (Option.some Jvm.ClassFile.FieldType.boolean)) ∈ ALL := inT_3 24 rfl rfl
theorem w_572 : (Jvm.Cond.code ({ cls := "MoonOverTheHill$Hill", name := "add", desc := "(III)V" } : Jvm.MethodName) prog_3_method_4_code (5 : Nat) (Option.none : Option Jvm.ClassFile.FieldType)) ∈ ALL := inT_3 32 rfl rfl
theorem w_766 : (Jvm.Cond.code ({ cls := "MoonOverTheHill$Hill", name := "partOf", desc := "(II)I" } : Jvm.MethodName) prog_3_method_5_code (3 : Nat) (Option.some Jvm.ClassFile.FieldType.int)) ∈ ALL := inT_3 226 rfl rfl
theorem w_436 : (Jvm.Cond.code ({ cls := "MoonOverTheHill$Hill", name := "lineAt", desc := "(I)I" } : Jvm.MethodName) prog_3_method_6_code (2 : Nat) (Option.some Jvm.ClassFile.FieldType.int)) ∈ ALL := inT_2 136 rfl rfl
theorem w_432 : (Jvm.Cond.code ({ cls := "MoonOverTheHill$Hill", name := "overFrom", desc := "(I)I" } : Jvm.MethodName) prog_3_method_7_code (5 : Nat) (Option.some Jvm.ClassFile.FieldType.int)) ∈ ALL := inT_2 132 rfl rfl
theorem w_505 : (Jvm.Cond.code ({ cls := "MoonOverTheHill$Hill", name := "makerOf", desc := "(I)I" } : Jvm.MethodName) prog_3_method_8_code (3 : Nat) (Option.some Jvm.ClassFile.FieldType.int)) ∈ ALL := inT_2 205 rfl rfl
theorem w_604 : (Jvm.Cond.code ({ cls := "java/util/Arrays", name := "fill", desc := "([II)V" } : Jvm.MethodName) prog_18_method_103_code (4 : Nat) (Option.none : Option Jvm.ClassFile.FieldType)) ∈ ALL := inT_3 64 rfl rfl
theorem w_597 : (Jvm.Cond.code ({ cls := "MoonOverTheHill$Hill", name := "empty", desc := "()V" } : Jvm.MethodName) prog_3_method_9_code (1 : Nat) (Option.none : Option Jvm.ClassFile.FieldType)) ∈ ALL := inT_3 57 rfl rfl
theorem w_641 : (Jvm.Cond.code ({ cls := "MoonOverTheHill$Hill", name := "become", desc := "(LMoonOverTheHill$Hill;)V" } : Jvm.MethodName) prog_3_method_10_code (2 : Nat) (Option.none : Option Jvm.ClassFile.FieldType)) ∈ ALL := inT_3 101 rfl rfl
theorem w_458 : (Jvm.Cond.code ({ cls := "MoonOverTheHill$Question", name := "<init>", desc := "(IIIILMoonOverTheHill$Shelf;)V" } : Jvm.MethodName) prog_6_method_1_code (6 : Nat) (Option.none : Option Jvm.ClassFile.FieldType)) ∈ ALL := inT_2 158 rfl rfl
theorem w_455 : (Jvm.Cond.code ({ cls := "MoonOverTheHill$Question", name := "<init>", desc := "(I)V" } : Jvm.MethodName) prog_6_method_2_code (2 : Nat) (Option.none : Option Jvm.ClassFile.FieldType)) ∈ ALL := inT_2 155 rfl rfl
theorem w_860 : (Jvm.Cond.code ({ cls := "MoonOverTheHill$Question", name := "<init>", desc := "(IIII)V" } : Jvm.MethodName) prog_6_method_3_code (5 : Nat) (Option.none : Option Jvm.ClassFile.FieldType)) ∈ ALL := inT_4 80 rfl rfl
theorem w_954 : (Jvm.Cond.code ({ cls := "MoonOverTheHill$Question", name := "<init>", desc := "(LMoonOverTheHill$Shelf;)V" } : Jvm.MethodName) prog_6_method_4_code (2 : Nat) (Option.none : Option Jvm.ClassFile.FieldType)) ∈ ALL := inT_4 174 rfl rfl
theorem w_228 : (Jvm.Cond.code ({ cls := "MoonOverTheHill$Shelf", name := "<init>", desc := "()V" } : Jvm.MethodName) prog_7_method_1_code (1 : Nat) (Option.none : Option Jvm.ClassFile.FieldType)) ∈ ALL := inT_1 168 rfl rfl
theorem w_363 : (Jvm.Cond.code ({ cls := "MoonOverTheHill$Shelf", name := "content", desc := "()I" } : Jvm.MethodName) prog_7_method_2_code (1 : Nat) (Option.some Jvm.ClassFile.FieldType.int)) ∈ ALL := inT_2 63 rfl rfl
theorem w_312 : (Jvm.Cond.code ({ cls := "MoonOverTheHill$Shelf", name := "isBare", desc := "()Z" } : Jvm.MethodName) prog_7_method_3_code (1 : Nat) (Option.some Jvm.ClassFile.FieldType.boolean)) ∈ ALL := inT_2 12 rfl rfl
theorem w_308 : (Jvm.Cond.code ({ cls := "MoonOverTheHill$Shelf", name := "isEvening", desc := "()Z" } : Jvm.MethodName) prog_7_method_4_code (1 : Nat) (Option.some Jvm.ClassFile.FieldType.boolean)) ∈ ALL := inT_2 8 rfl rfl
theorem w_337 : (Jvm.Cond.code ({ cls := "MoonOverTheHill$Shelf", name := "isRow", desc := "()Z" } : Jvm.MethodName) prog_7_method_5_code (1 : Nat) (Option.some Jvm.ClassFile.FieldType.boolean)) ∈ ALL := inT_2 37 rfl rfl
theorem w_333 : (Jvm.Cond.code ({ cls := "MoonOverTheHill$Shelf", name := "isRowOfOtherSort", desc := "(LMoonOverTheHill$Shelf;)Z" } : Jvm.MethodName) prog_7_method_6_code (2 : Nat) (Option.some Jvm.ClassFile.FieldType.boolean)) ∈ ALL := inT_2 33 rfl rfl
theorem w_385 : (Jvm.Cond.code ({ cls := "MoonOverTheHill$Shelf", name := "kind", desc := "()I" } : Jvm.MethodName) prog_7_method_7_code (1 : Nat) (Option.some Jvm.ClassFile.FieldType.int)) ∈ ALL := inT_2 85 rfl rfl
theorem w_392 : (Jvm.Cond.code ({ cls := "MoonOverTheHill$Shelf", name := "day", desc := "()I" } : Jvm.MethodName) prog_7_method_8_code (1 : Nat) (Option.some Jvm.ClassFile.FieldType.int)) ∈ ALL := inT_2 92 rfl rfl
theorem w_304 : (Jvm.Cond.code ({ cls := "MoonOverTheHill$Shelf", name := "refusalAsRow", desc := "(I)I" } : Jvm.MethodName) prog_7_method_9_code (2 : Nat) (Option.some Jvm.ClassFile.FieldType.int)) ∈ ALL := inT_2 4 rfl rfl
theorem w_293 : (Jvm.Cond.code ({ cls := "java/lang/Math", name := "min", desc := "(II)I" } : Jvm.MethodName) prog_13_method_69_code (2 : Nat) (Option.some Jvm.ClassFile.FieldType.int)) ∈ ALL := inT_1 233 rfl rfl
theorem w_296 : (Jvm.Cond.code ({ cls := "java/util/Arrays", name := "fill", desc := "([JJ)V" } : Jvm.MethodName) prog_18_method_101_code (5 : Nat) (Option.none : Option Jvm.ClassFile.FieldType)) ∈ ALL := inT_1 236 rfl rfl
theorem w_290 : (Jvm.Cond.code ({ cls := "MoonOverTheHill$Shelf", name := "putRow", desc := "(II)V" } : Jvm.MethodName) prog_7_method_10_code (3 : Nat) (Option.none : Option Jvm.ClassFile.FieldType)) ∈ ALL := inT_1 230 rfl rfl
theorem w_377 : (Jvm.Cond.code ({ cls := "MoonOverTheHill$Shelf", name := "putEvening", desc := "(II)V" } : Jvm.MethodName) prog_7_method_11_code (3 : Nat) (Option.none : Option Jvm.ClassFile.FieldType)) ∈ ALL := inT_2 77 rfl rfl
theorem w_316 : (Jvm.Cond.code ({ cls := "MoonOverTheHill$Shelf", name := "hasPlaces", desc := "(II)Z" } : Jvm.MethodName) prog_7_method_12_code (3 : Nat) (Option.some Jvm.ClassFile.FieldType.boolean)) ∈ ALL := inT_2 16 rfl rfl
theorem w_355 : (Jvm.Cond.code ({ cls := "MoonOverTheHill$Shelf", name := "at", desc := "(I)J" } : Jvm.MethodName) prog_7_method_13_code (2 : Nat) (Option.some Jvm.ClassFile.FieldType.long)) ∈ ALL := inT_2 55 rfl rfl
theorem w_324 : (Jvm.Cond.code ({ cls := "MoonOverTheHill$Shelf", name := "cut", desc := "(J)J" } : Jvm.MethodName) prog_7_method_15_code (3 : Nat) (Option.some Jvm.ClassFile.FieldType.long)) ∈ ALL := inT_2 24 rfl rfl
theorem w_320 : (Jvm.Cond.code ({ cls := "MoonOverTheHill$Shelf", name := "put", desc := "(IJ)V" } : Jvm.MethodName) prog_7_method_14_code (4 : Nat) (Option.none : Option Jvm.ClassFile.FieldType)) ∈ ALL := inT_2 20 rfl rfl
theorem w_342 : (Jvm.Cond.code ({ cls := "MoonOverTheHill$Shelf", name := "take", desc := "(LMoonOverTheHill$Shelf;III)V" } : Jvm.MethodName) prog_7_method_16_code (5 : Nat) (Option.none : Option Jvm.ClassFile.FieldType)) ∈ ALL := inT_2 42 rfl rfl
theorem w_975 : (Jvm.Cond.code ({ cls := "MoonOverTheHill$Shelf", name := "timesOf", desc := "(JI)I" } : Jvm.MethodName) prog_7_method_17_code (6 : Nat) (Option.some Jvm.ClassFile.FieldType.int)) ∈ ALL := inT_4 195 rfl rfl
theorem w_543 : (Jvm.Cond.code ({ cls := "MoonOverTheHill$Shelf", name := "isSpan", desc := "(II)Z" } : Jvm.MethodName) prog_7_method_18_code (3 : Nat) (Option.some Jvm.ClassFile.FieldType.boolean)) ∈ ALL := inT_3 3 rfl rfl
theorem w_1008 : (Jvm.Cond.code ({ cls := "MoonOverTheHill$Shelf", name := "isMonthCount", desc := "(I)Z" } : Jvm.MethodName) prog_7_method_19_code (2 : Nat) (Option.some Jvm.ClassFile.FieldType.boolean)) ∈ ALL := inT_4 228 rfl rfl
theorem w_1004 : (Jvm.Cond.code ({ cls := "MoonOverTheHill$Shelf", name := "monthCounts", desc := "(I)I" } : Jvm.MethodName) prog_7_method_20_code (4 : Nat) (Option.some Jvm.ClassFile.FieldType.int)) ∈ ALL := inT_4 224 rfl rfl
theorem w_1014 : (Jvm.Cond.code ({ cls := "MoonOverTheHill$Shelf", name := "longestRun", desc := "(I)I" } : Jvm.MethodName) prog_7_method_21_code (5 : Nat) (Option.some Jvm.ClassFile.FieldType.int)) ∈ ALL := inT_4 234 rfl rfl
theorem w_1022 : (Jvm.Cond.code ({ cls := "MoonOverTheHill$Shelf", name := "isThreeMonths", desc := "(JJJ)Z" } : Jvm.MethodName) prog_7_method_23_code (10 : Nat) (Option.some Jvm.ClassFile.FieldType.boolean)) ∈ ALL := inT_5 2 rfl rfl
theorem w_1019 : (Jvm.Cond.code ({ cls := "MoonOverTheHill$Shelf", name := "threesOfMonths", desc := "(I)I" } : Jvm.MethodName) prog_7_method_22_code (4 : Nat) (Option.some Jvm.ClassFile.FieldType.int)) ∈ ALL := inT_4 239 rfl rfl
theorem w_91 : (Jvm.Cond.code ({ cls := "MoonOverTheHill$State", name := "<init>", desc := "()V" } : Jvm.MethodName) prog_8_method_1_code (1 : Nat) (Option.none : Option Jvm.ClassFile.FieldType)) ∈ ALL := inT_1 31 rfl rfl
theorem w_552 : (Jvm.Cond.code ({ cls := "MoonOverTheHill$State", name := "askedOf", desc := "(I)I" } : Jvm.MethodName) prog_8_method_2_code (2 : Nat) (Option.some Jvm.ClassFile.FieldType.int)) ∈ ALL := inT_3 12 rfl rfl
theorem w_556 : (Jvm.Cond.code ({ cls := "MoonOverTheHill$State", name := "setAsked", desc := "(II)V" } : Jvm.MethodName) prog_8_method_3_code (3 : Nat) (Option.none : Option Jvm.ClassFile.FieldType)) ∈ ALL := inT_3 16 rfl rfl
theorem w_1093 : (Jvm.Cond.code ({ cls := "MoonOverTheHill$State", name := "draw", desc := "(I)I" } : Jvm.MethodName) prog_8_method_4_code (2 : Nat) (Option.some Jvm.ClassFile.FieldType.int)) ∈ ALL := inT_5 73 rfl rfl
theorem w_637 : (Jvm.Cond.code ({ cls := "MoonOverTheHill$State", name := "become", desc := "(LMoonOverTheHill$State;)V" } : Jvm.MethodName) prog_8_method_5_code (2 : Nat) (Option.none : Option Jvm.ClassFile.FieldType)) ∈ ALL := inT_3 97 rfl rfl
theorem w_1073 : (Jvm.Cond.code ({ cls := "java/lang/Integer", name := "bitCount", desc := "(I)I" } : Jvm.MethodName) prog_12_method_49_code (1 : Nat) (Option.some Jvm.ClassFile.FieldType.int)) ∈ ALL := inT_5 53 rfl rfl
theorem w_928 : (Jvm.Cond.code ({ cls := "java/lang/Math", name := "floorDiv", desc := "(II)I" } : Jvm.MethodName) prog_13_method_47_code (3 : Nat) (Option.some Jvm.ClassFile.FieldType.int)) ∈ ALL := inT_4 148 rfl rfl
theorem w_425 : (Jvm.Cond.code ({ cls := "java/lang/Math", name := "floorMod", desc := "(II)I" } : Jvm.MethodName) prog_13_method_50_code (3 : Nat) (Option.some Jvm.ClassFile.FieldType.int)) ∈ ALL := inT_2 125 rfl rfl
theorem w_403 : (Jvm.Cond.code ({ cls := "java/lang/Math", name := "abs", desc := "(I)I" } : Jvm.MethodName) prog_13_method_59_code (1 : Nat) (Option.some Jvm.ClassFile.FieldType.int)) ∈ ALL := inT_2 103 rfl rfl
theorem w_182 : (Jvm.Cond.code ({ cls := "MoonOverTheHill$Moon", name := "<init>", desc := "(LMoonOverTheHill$State;)V" } : Jvm.MethodName) prog_4_method_1_code (2 : Nat) (Option.none : Option Jvm.ClassFile.FieldType)) ∈ ALL := inT_1 122 rfl rfl
theorem w_845 : (Jvm.Cond.code ({ cls := "MoonOverTheHill$Moon", name := "lastOf", desc := "(II)I" } : Jvm.MethodName) prog_4_method_2_code (2 : Nat) (Option.some Jvm.ClassFile.FieldType.int)) ∈ ALL := inT_4 65 rfl rfl
theorem w_400 : (Jvm.Cond.code ({ cls := "MoonOverTheHill$Moon", name := "ageOf", desc := "(I)I" } : Jvm.MethodName) prog_4_method_3_code (2 : Nat) (Option.some Jvm.ClassFile.FieldType.int)) ∈ ALL := inT_2 100 rfl rfl
theorem w_539 : (Jvm.Cond.code ({ cls := "MoonOverTheHill$Moon", name := "litOf", desc := "(I)I" } : Jvm.MethodName) prog_4_method_4_code (3 : Nat) (Option.some Jvm.ClassFile.FieldType.int)) ∈ ALL := inT_2 239 rfl rfl
theorem w_419 : (Jvm.Cond.code ({ cls := "MoonOverTheHill$Moon", name := "outOf", desc := "(I)I" } : Jvm.MethodName) prog_4_method_5_code (3 : Nat) (Option.some Jvm.ClassFile.FieldType.int)) ∈ ALL := inT_2 119 rfl rfl
theorem w_415 : (Jvm.Cond.code ({ cls := "MoonOverTheHill$Moon", name := "slantOf", desc := "(I)I" } : Jvm.MethodName) prog_4_method_6_code (4 : Nat) (Option.some Jvm.ClassFile.FieldType.int)) ∈ ALL := inT_2 115 rfl rfl
theorem w_422 : (Jvm.Cond.code ({ cls := "MoonOverTheHill$Moon", name := "riseBy", desc := "(II)I" } : Jvm.MethodName) prog_4_method_7_code (2 : Nat) (Option.some Jvm.ClassFile.FieldType.int)) ∈ ALL := inT_2 122 rfl rfl
theorem w_428 : (Jvm.Cond.code ({ cls := "MoonOverTheHill$Moon", name := "wayBy", desc := "(I)I" } : Jvm.MethodName) prog_4_method_8_code (1 : Nat) (Option.some Jvm.ClassFile.FieldType.int)) ∈ ALL := inT_2 128 rfl rfl
theorem w_791 : (Jvm.Cond.code ({ cls := "MoonOverTheHill$Moon", name := "riseOf", desc := "(I)I" } : Jvm.MethodName) prog_4_method_9_code (2 : Nat) (Option.some Jvm.ClassFile.FieldType.int)) ∈ ALL := inT_4 11 rfl rfl
theorem w_497 : (Jvm.Cond.code ({ cls := "MoonOverTheHill$Moon", name := "wayOf", desc := "(I)I" } : Jvm.MethodName) prog_4_method_10_code (2 : Nat) (Option.some Jvm.ClassFile.FieldType.int)) ∈ ALL := inT_2 197 rfl rfl
theorem w_796 : (Jvm.Cond.code ({ cls := "MoonOverTheHill$Moon", name := "overOf", desc := "(I)I" } : Jvm.MethodName) prog_4_method_11_code (2 : Nat) (Option.some Jvm.ClassFile.FieldType.int)) ∈ ALL := inT_4 16 rfl rfl
theorem w_411 : (Jvm.Cond.code ({ cls := "MoonOverTheHill$Moon", name := "upOf", desc := "(I)I" } : Jvm.MethodName) prog_4_method_12_code (3 : Nat) (Option.some Jvm.ClassFile.FieldType.int)) ∈ ALL := inT_2 111 rfl rfl
theorem w_407 : (Jvm.Cond.code ({ cls := "MoonOverTheHill$Moon", name := "laterOf", desc := "(I)I" } : Jvm.MethodName) prog_4_method_13_code (2 : Nat) (Option.some Jvm.ClassFile.FieldType.int)) ∈ ALL := inT_2 107 rfl rfl
theorem w_493 : (Jvm.Cond.code ({ cls := "MoonOverTheHill$Moon", name := "degreeOf", desc := "(I)I" } : Jvm.MethodName) prog_4_method_14_code (3 : Nat) (Option.some Jvm.ClassFile.FieldType.int)) ∈ ALL := inT_2 193 rfl rfl
theorem w_501 : (Jvm.Cond.code ({ cls := "MoonOverTheHill$Moon", name := "behindOf", desc := "(I)I" } : Jvm.MethodName) prog_4_method_15_code (4 : Nat) (Option.some Jvm.ClassFile.FieldType.int)) ∈ ALL := inT_2 201 rfl rfl
theorem w_444 : (Jvm.Cond.code ({ cls := "MoonOverTheHill$Moon", name := "shinesFrom", desc := "(III)I" } : Jvm.MethodName) prog_4_method_16_code (6 : Nat) (Option.some Jvm.ClassFile.FieldType.int)) ∈ ALL := inT_2 144 rfl rfl
theorem w_441 : (Jvm.Cond.code ({ cls := "MoonOverTheHill$Moon", name := "shinesOf", desc := "(III)I" } : Jvm.MethodName) prog_4_method_17_code (4 : Nat) (Option.some Jvm.ClassFile.FieldType.int)) ∈ ALL := inT_2 141 rfl rfl
theorem w_834 : (Jvm.Cond.code ({ cls := "MoonOverTheHill$Moon", name := "lightOf", desc := "(III)I" } : Jvm.MethodName) prog_4_method_18_code (4 : Nat) (Option.some Jvm.ClassFile.FieldType.int)) ∈ ALL := inT_4 54 rfl rfl
theorem w_488 : (Jvm.Cond.code ({ cls := "MoonOverTheHill$Moon", name := "isFull", desc := "(I)Z" } : Jvm.MethodName) prog_4_method_19_code (2 : Nat) (Option.some Jvm.ClassFile.FieldType.boolean)) ∈ ALL := inT_2 188 rfl rfl
theorem w_396 : (Jvm.Cond.code ({ cls := "MoonOverTheHill$Moon", name := "saysOf", desc := "(II)I" } : Jvm.MethodName) prog_4_method_20_code (3 : Nat) (Option.some Jvm.ClassFile.FieldType.int)) ∈ ALL := inT_2 96 rfl rfl
theorem w_522 : (Jvm.Cond.code ({ cls := "MoonOverTheHill$Moon", name := "isAtNode", desc := "(I)Z" } : Jvm.MethodName) prog_4_method_26_code (3 : Nat) (Option.some Jvm.ClassFile.FieldType.boolean)) ∈ ALL := inT_2 222 rfl rfl
theorem w_535 : (Jvm.Cond.code ({ cls := "MoonOverTheHill$Moon", name := "minutesUp", desc := "(II)I" } : Jvm.MethodName) prog_4_method_27_code (3 : Nat) (Option.some Jvm.ClassFile.FieldType.int)) ∈ ALL := inT_2 235 rfl rfl
theorem w_531 : (Jvm.Cond.code ({ cls := "MoonOverTheHill$Moon", name := "isAsPictured", desc := "(LMoonOverTheHill$Shelf;I)Z" } : Jvm.MethodName) prog_4_method_30_code (6 : Nat) (Option.some Jvm.ClassFile.FieldType.boolean)) ∈ ALL := inT_2 231 rfl rfl
theorem w_484 : (Jvm.Cond.code ({ cls := "MoonOverTheHill$Moon", name := "fits", desc := "(LMoonOverTheHill$Question;I)Z" } : Jvm.MethodName) prog_4_method_21_code (3 : Nat) (Option.some Jvm.ClassFile.FieldType.boolean)) ∈ ALL := inT_2 184 rfl rfl
theorem w_842 : (Jvm.Cond.code ({ cls := "MoonOverTheHill$Moon", name := "pick", desc := "(IIILMoonOverTheHill$Question;)I" } : Jvm.MethodName) prog_4_method_22_code (8 : Nat) (Option.some Jvm.ClassFile.FieldType.int)) ∈ ALL := inT_4 62 rfl rfl
theorem w_876 : (Jvm.Cond.code ({ cls := "MoonOverTheHill$Moon", name := "meritOf", desc := "(II)I" } : Jvm.MethodName) prog_4_method_24_code (3 : Nat) (Option.some Jvm.ClassFile.FieldType.int)) ∈ ALL := inT_4 96 rfl rfl
theorem w_872 : (Jvm.Cond.code ({ cls := "MoonOverTheHill$Moon", name := "bestOf", desc := "(III)I" } : Jvm.MethodName) prog_4_method_23_code (9 : Nat) (Option.some Jvm.ClassFile.FieldType.int)) ∈ ALL := inT_4 92 rfl rfl
theorem w_925 : (Jvm.Cond.code ({ cls := "MoonOverTheHill$Moon", name := "newDaysTill", desc := "(I)I" } : Jvm.MethodName) prog_4_method_25_code (3 : Nat) (Option.some Jvm.ClassFile.FieldType.int)) ∈ ALL := inT_4 145 rfl rfl
theorem w_940 : (Jvm.Cond.code ({ cls := "MoonOverTheHill$Moon", name := "heightAt", desc := "(II)I" } : Jvm.MethodName) prog_4_method_28_code (4 : Nat) (Option.some Jvm.ClassFile.FieldType.int)) ∈ ALL := inT_4 160 rfl rfl
theorem w_945 : (Jvm.Cond.code ({ cls := "MoonOverTheHill$Moon", name := "degreeAt", desc := "(II)I" } : Jvm.MethodName) prog_4_method_29_code (5 : Nat) (Option.some Jvm.ClassFile.FieldType.int)) ∈ ALL := inT_4 165 rfl rfl
theorem w_970 : (Jvm.Cond.code ({ cls := "MoonOverTheHill$Moon", name := "couldBegin", desc := "(J)Z" } : Jvm.MethodName) prog_4_method_31_code (3 : Nat) (Option.some Jvm.ClassFile.FieldType.boolean)) ∈ ALL := inT_4 190 rfl rfl
theorem w_991 : (Jvm.Cond.code ({ cls := "MoonOverTheHill$Moon", name := "highWaterOf", desc := "(I)I" } : Jvm.MethodName) prog_4_method_32_code (2 : Nat) (Option.some Jvm.ClassFile.FieldType.int)) ∈ ALL := inT_4 211 rfl rfl
theorem w_987 : (Jvm.Cond.code ({ cls := "MoonOverTheHill$Moon", name := "tideAt", desc := "(II)I" } : Jvm.MethodName) prog_4_method_33_code (5 : Nat) (Option.some Jvm.ClassFile.FieldType.int)) ∈ ALL := inT_4 207 rfl rfl
theorem w_217 : (Jvm.Cond.code ({ cls := "MoonOverTheHill$Places", name := "<init>", desc := "()V" } : Jvm.MethodName) prog_5_method_1_code (1 : Nat) (Option.none : Option Jvm.ClassFile.FieldType)) ∈ ALL := inT_1 157 rfl rfl
theorem w_1033 : (Jvm.Cond.code ({ cls := "MoonOverTheHill$Places", name := "gather", desc := "(LMoonOverTheHill$Moon;II)V" } : Jvm.MethodName) prog_5_method_2_code (7 : Nat) (Option.none : Option Jvm.ClassFile.FieldType)) ∈ ALL := inT_5 13 rfl rfl
theorem w_1044 : (Jvm.Cond.code ({ cls := "MoonOverTheHill$Places", name := "near", desc := "(II)I" } : Jvm.MethodName) prog_5_method_3_code (5 : Nat) (Option.some Jvm.ClassFile.FieldType.int)) ∈ ALL := inT_5 24 rfl rfl
theorem w_1053 : (Jvm.Cond.code ({ cls := "MoonOverTheHill$Places", name := "degreesThatHit", desc := "(I)I" } : Jvm.MethodName) prog_5_method_4_code (4 : Nat) (Option.some Jvm.ClassFile.FieldType.int)) ∈ ALL := inT_5 33 rfl rfl
theorem w_1066 : (Jvm.Cond.code ({ cls := "MoonOverTheHill$Places", name := "fullest", desc := "(I)I" } : Jvm.MethodName) prog_5_method_5_code (6 : Nat) (Option.some Jvm.ClassFile.FieldType.int)) ∈ ALL := inT_5 46 rfl rfl
theorem w_1127 : (Jvm.Cond.code ({ cls := "MoonOverTheHillModel", name := "<init>", desc := "()V" } : Jvm.MethodName) prog_11_method_1_code (1 : Nat) (Option.none : Option Jvm.ClassFile.FieldType)) ∈ ALL := inT_5 107 rfl rfl
theorem w_1234 : (Jvm.Cond.code ({ cls := "MoonOverTheHillModel", name := "refuse", desc := "(I)I" } : Jvm.MethodName) prog_11_method_2_code (2 : Nat) (Option.some Jvm.ClassFile.FieldType.int)) ∈ ALL := inT_5 214 rfl rfl
theorem w_1228 : (Jvm.Cond.code ({ cls := "MoonOverTheHillModel", name := "in", desc := "(JJJ)Z" } : Jvm.MethodName) prog_11_method_3_code (6 : Nat) (Option.some Jvm.ClassFile.FieldType.boolean)) ∈ ALL := inT_5 208 rfl rfl
theorem w_1265 : (Jvm.Cond.code ({ cls := "MoonOverTheHillModel", name := "isDay", desc := "(J)Z" } : Jvm.MethodName) prog_11_method_4_code (2 : Nat) (Option.some Jvm.ClassFile.FieldType.boolean)) ∈ ALL := inT_6 5 rfl rfl
theorem w_1508 : (Jvm.Cond.code ({ cls := "MoonOverTheHillModel", name := "areDays", desc := "(II)Z" } : Jvm.MethodName) prog_11_method_5_code (2 : Nat) (Option.some Jvm.ClassFile.FieldType.boolean)) ∈ ALL := inT_7 8 rfl rfl
theorem w_1501 : (Jvm.Cond.code ({ cls := "MoonOverTheHillModel", name := "lastOf", desc := "(II)I" } : Jvm.MethodName) prog_11_method_6_code (2 : Nat) (Option.some Jvm.ClassFile.FieldType.int)) ∈ ALL := inT_7 1 rfl rfl
theorem w_1224 : (Jvm.Cond.code ({ cls := "MoonOverTheHillModel", name := "row", desc := "(III)I" } : Jvm.MethodName) prog_11_method_7_code (5 : Nat) (Option.some Jvm.ClassFile.FieldType.int)) ∈ ALL := inT_5 204 rfl rfl
theorem w_1245 : (Jvm.Cond.code ({ cls := "MoonOverTheHillModel", name := "fit", desc := "(IJ)J" } : Jvm.MethodName) prog_11_method_8_code (3 : Nat) (Option.some Jvm.ClassFile.FieldType.long)) ∈ ALL := inT_5 225 rfl rfl
theorem w_1242 : (Jvm.Cond.code ({ cls := "MoonOverTheHillModel", name := "noRow", desc := "(I)I" } : Jvm.MethodName) prog_11_method_9_code (2 : Nat) (Option.some Jvm.ClassFile.FieldType.int)) ∈ ALL := inT_5 222 rfl rfl
theorem w_1238 : (Jvm.Cond.code ({ cls := "MoonOverTheHillModel", name := "set", desc := "(IIJ)I" } : Jvm.MethodName) prog_11_method_10_code (6 : Nat) (Option.some Jvm.ClassFile.FieldType.int)) ∈ ALL := inT_5 218 rfl rfl
theorem w_1249 : (Jvm.Cond.code ({ cls := "MoonOverTheHillModel", name := "copy", desc := "(IIIII)I" } : Jvm.MethodName) prog_11_method_11_code (7 : Nat) (Option.some Jvm.ClassFile.FieldType.int)) ∈ ALL := inT_5 229 rfl rfl
theorem w_1253 : (Jvm.Cond.code ({ cls := "MoonOverTheHillModel", name := "element", desc := "(II)J" } : Jvm.MethodName) prog_11_method_12_code (3 : Nat) (Option.some Jvm.ClassFile.FieldType.long)) ∈ ALL := inT_5 233 rfl rfl
theorem w_1257 : (Jvm.Cond.code ({ cls := "MoonOverTheHillModel", name := "holds", desc := "(I)I" } : Jvm.MethodName) prog_11_method_13_code (2 : Nat) (Option.some Jvm.ClassFile.FieldType.int)) ∈ ALL := inT_5 237 rfl rfl
theorem w_1261 : (Jvm.Cond.code ({ cls := "MoonOverTheHillModel", name := "evening", desc := "(III)I" } : Jvm.MethodName) prog_11_method_14_code (4 : Nat) (Option.some Jvm.ClassFile.FieldType.int)) ∈ ALL := inT_6 1 rfl rfl
theorem w_1273 : (Jvm.Cond.code ({ cls := "MoonOverTheHillModel", name := "isUnder", desc := "(II)Z" } : Jvm.MethodName) prog_11_method_15_code (2 : Nat) (Option.some Jvm.ClassFile.FieldType.boolean)) ∈ ALL := inT_6 13 rfl rfl
theorem w_1277 : (Jvm.Cond.code ({ cls := "MoonOverTheHillModel", name := "age", desc := "(I)I" } : Jvm.MethodName) prog_11_method_42_code (2 : Nat) (Option.some Jvm.ClassFile.FieldType.int)) ∈ ALL := inT_6 17 rfl rfl
theorem w_1297 : (Jvm.Cond.code ({ cls := "MoonOverTheHillModel", name := "out", desc := "(I)I" } : Jvm.MethodName) prog_11_method_44_code (3 : Nat) (Option.some Jvm.ClassFile.FieldType.int)) ∈ ALL := inT_6 37 rfl rfl
theorem w_1293 : (Jvm.Cond.code ({ cls := "MoonOverTheHillModel", name := "slantOf", desc := "(I)I" } : Jvm.MethodName) prog_11_method_45_code (4 : Nat) (Option.some Jvm.ClassFile.FieldType.int)) ∈ ALL := inT_6 33 rfl rfl
theorem w_1300 : (Jvm.Cond.code ({ cls := "MoonOverTheHillModel", name := "mod", desc := "(II)I" } : Jvm.MethodName) prog_11_method_41_code (3 : Nat) (Option.some Jvm.ClassFile.FieldType.int)) ∈ ALL := inT_6 40 rfl rfl
theorem w_1289 : (Jvm.Cond.code ({ cls := "MoonOverTheHillModel", name := "rise", desc := "(I)I" } : Jvm.MethodName) prog_11_method_46_code (2 : Nat) (Option.some Jvm.ClassFile.FieldType.int)) ∈ ALL := inT_6 29 rfl rfl
theorem w_1308 : (Jvm.Cond.code ({ cls := "MoonOverTheHillModel", name := "way", desc := "(I)I" } : Jvm.MethodName) prog_11_method_47_code (2 : Nat) (Option.some Jvm.ClassFile.FieldType.int)) ∈ ALL := inT_6 48 rfl rfl
theorem w_1312 : (Jvm.Cond.code ({ cls := "MoonOverTheHillModel", name := "lineAt", desc := "(I)I" } : Jvm.MethodName) prog_11_method_48_code (5 : Nat) (Option.some Jvm.ClassFile.FieldType.int)) ∈ ALL := inT_6 52 rfl rfl
theorem w_1304 : (Jvm.Cond.code ({ cls := "MoonOverTheHillModel", name := "over", desc := "(I)I" } : Jvm.MethodName) prog_11_method_50_code (4 : Nat) (Option.some Jvm.ClassFile.FieldType.int)) ∈ ALL := inT_6 44 rfl rfl
theorem w_1285 : (Jvm.Cond.code ({ cls := "MoonOverTheHillModel", name := "up", desc := "(I)I" } : Jvm.MethodName) prog_11_method_51_code (2 : Nat) (Option.some Jvm.ClassFile.FieldType.int)) ∈ ALL := inT_6 25 rfl rfl
theorem w_1281 : (Jvm.Cond.code ({ cls := "MoonOverTheHillModel", name := "later", desc := "(I)I" } : Jvm.MethodName) prog_11_method_53_code (2 : Nat) (Option.some Jvm.ClassFile.FieldType.int)) ∈ ALL := inT_6 21 rfl rfl
theorem w_1316 : (Jvm.Cond.code ({ cls := "MoonOverTheHillModel", name := "shinesIn", desc := "(III)I" } : Jvm.MethodName) prog_11_method_60_code (7 : Nat) (Option.some Jvm.ClassFile.FieldType.int)) ∈ ALL := inT_6 56 rfl rfl
theorem w_1270 : (Jvm.Cond.code ({ cls := "MoonOverTheHillModel", name := "says", desc := "(II)I" } : Jvm.MethodName) prog_11_method_16_code (5 : Nat) (Option.some Jvm.ClassFile.FieldType.int)) ∈ ALL := inT_6 10 rfl rfl
theorem w_1324 : (Jvm.Cond.code ({ cls := "MoonOverTheHillModel", name := "isOf", desc := "(II)Z" } : Jvm.MethodName) prog_11_method_58_code (3 : Nat) (Option.some Jvm.ClassFile.FieldType.boolean)) ∈ ALL := inT_6 64 rfl rfl
theorem w_1320 : (Jvm.Cond.code ({ cls := "MoonOverTheHillModel", name := "isSo", desc := "(I)I" } : Jvm.MethodName) prog_11_method_17_code (2 : Nat) (Option.some Jvm.ClassFile.FieldType.int)) ∈ ALL := inT_6 60 rfl rfl
theorem w_1330 : (Jvm.Cond.code ({ cls := "MoonOverTheHillModel", name := "ask", desc := "(II)I" } : Jvm.MethodName) prog_11_method_18_code (4 : Nat) (Option.some Jvm.ClassFile.FieldType.int)) ∈ ALL := inT_6 70 rfl rfl
theorem w_1342 : (Jvm.Cond.code ({ cls := "MoonOverTheHillModel", name := "addNotch", desc := "(III)V" } : Jvm.MethodName) prog_11_method_19_code (4 : Nat) (Option.none : Option Jvm.ClassFile.FieldType)) ∈ ALL := inT_6 82 rfl rfl
theorem w_1336 : (Jvm.Cond.code ({ cls := "MoonOverTheHillModel", name := "notch", desc := "(III)I" } : Jvm.MethodName) prog_11_method_20_code (4 : Nat) (Option.some Jvm.ClassFile.FieldType.int)) ∈ ALL := inT_6 76 rfl rfl
theorem w_1346 : (Jvm.Cond.code ({ cls := "MoonOverTheHillModel", name := "stone", desc := "(I)I" } : Jvm.MethodName) prog_11_method_21_code (2 : Nat) (Option.some Jvm.ClassFile.FieldType.int)) ∈ ALL := inT_6 86 rfl rfl
theorem w_1354 : (Jvm.Cond.code ({ cls := "MoonOverTheHillModel", name := "isCloud", desc := "(I)Z" } : Jvm.MethodName) prog_11_method_22_code (3 : Nat) (Option.some Jvm.ClassFile.FieldType.boolean)) ∈ ALL := inT_6 94 rfl rfl
theorem w_1350 : (Jvm.Cond.code ({ cls := "MoonOverTheHillModel", name := "cloud", desc := "(I)I" } : Jvm.MethodName) prog_11_method_23_code (2 : Nat) (Option.some Jvm.ClassFile.FieldType.int)) ∈ ALL := inT_6 90 rfl rfl
theorem w_1358 : (Jvm.Cond.code ({ cls := "MoonOverTheHillModel", name := "clear", desc := "(I)I" } : Jvm.MethodName) prog_11_method_24_code (3 : Nat) (Option.some Jvm.ClassFile.FieldType.int)) ∈ ALL := inT_6 98 rfl rfl
theorem w_1363 : (Jvm.Cond.code ({ cls := "MoonOverTheHillModel", name := "feed", desc := "(I)I" } : Jvm.MethodName) prog_11_method_25_code (2 : Nat) (Option.some Jvm.ClassFile.FieldType.int)) ∈ ALL := inT_6 103 rfl rfl
theorem w_1368 : (Jvm.Cond.code ({ cls := "MoonOverTheHillModel", name := "wipe", desc := "()I" } : Jvm.MethodName) prog_11_method_26_code (2 : Nat) (Option.some Jvm.ClassFile.FieldType.int)) ∈ ALL := inT_6 108 rfl rfl
theorem w_1392 : (Jvm.Cond.code ({ cls := "MoonOverTheHillModel", name := "isLetter", desc := "(I)Z" } : Jvm.MethodName) prog_11_method_27_code (1 : Nat) (Option.some Jvm.ClassFile.FieldType.boolean)) ∈ ALL := inT_6 132 rfl rfl
theorem w_1395 : (Jvm.Cond.code ({ cls := "MoonOverTheHillModel", name := "isDigit", desc := "(I)Z" } : Jvm.MethodName) prog_11_method_28_code (1 : Nat) (Option.some Jvm.ClassFile.FieldType.boolean)) ∈ ALL := inT_6 135 rfl rfl
theorem w_1389 : (Jvm.Cond.code ({ cls := "MoonOverTheHillModel", name := "look", desc := "()V" } : Jvm.MethodName) prog_11_method_29_code (1 : Nat) (Option.none : Option Jvm.ClassFile.FieldType)) ∈ ALL := inT_6 129 rfl rfl
theorem w_1423 : (Jvm.Cond.code ({ cls := "MoonOverTheHillModel", name := "wrong", desc := "()Z" } : Jvm.MethodName) prog_11_method_30_code (1 : Nat) (Option.some Jvm.ClassFile.FieldType.boolean)) ∈ ALL := inT_6 163 rfl rfl
theorem w_681 : (Jvm.Cond.code ({ cls := "java/lang/String", name := "coder", desc := "()B" } : Jvm.MethodName) prog_14_method_152_code (1 : Nat) (Option.some Jvm.ClassFile.FieldType.byte)) ∈ ALL := inT_3 141 rfl rfl
theorem w_677 : (Jvm.Cond.code ({ cls := "java/lang/String", name := "length", desc := "()I" } : Jvm.MethodName) prog_14_method_54_code (1 : Nat) (Option.some Jvm.ClassFile.FieldType.int)) ∈ ALL := inT_3 137 rfl rfl
theorem w_691 : (Jvm.Cond.code ({ cls := "java/lang/String", name := "isLatin1", desc := "()Z" } : Jvm.MethodName) prog_14_method_154_code (1 : Nat) (Option.some Jvm.ClassFile.FieldType.boolean)) ∈ ALL := inT_3 151 rfl rfl
theorem w_702 : (Jvm.Cond.code ({ cls := "jdk/internal/util/Preconditions", name := "checkIndex", desc := "(IILjava/util/function/BiFunction;)I" } : Jvm.MethodName) prog_19_method_11_code (3 : Nat) (Option.some Jvm.ClassFile.FieldType.int)) ∈ ALL := inT_3 162 rfl rfl
theorem w_697 : (Jvm.Cond.code ({ cls := "java/lang/String", name := "checkIndex", desc := "(II)V" } : Jvm.MethodName) prog_14_method_155_code (2 : Nat) (Option.none : Option Jvm.ClassFile.FieldType)) ∈ ALL := inT_3 157 rfl rfl
theorem w_694 : (Jvm.Cond.code ({ cls := "java/lang/StringLatin1", name := "charAt", desc := "([BI)C" } : Jvm.MethodName) prog_15_method_2_code (2 : Nat) (Option.some Jvm.ClassFile.FieldType.char)) ∈ ALL := inT_3 154 rfl rfl
theorem w_711 : (Jvm.Cond.code ({ cls := "java/lang/StringUTF16", name := "length", desc := "([B)I" } : Jvm.MethodName) prog_16_method_6_code (1 : Nat) (Option.some Jvm.ClassFile.FieldType.int)) ∈ ALL := inT_3 171 rfl rfl
theorem w_708 : (Jvm.Cond.code ({ cls := "java/lang/StringUTF16", name := "checkIndex", desc := "(I[B)V" } : Jvm.MethodName) prog_16_method_91_code (2 : Nat) (Option.none : Option Jvm.ClassFile.FieldType)) ∈ ALL := inT_3 168 rfl rfl
theorem w_715 : (Jvm.Cond.code ({ cls := "java/lang/StringUTF16", name := "getChar", desc := "([BI)C" } : Jvm.MethodName) prog_16_method_5_code (2 : Nat) (Option.some Jvm.ClassFile.FieldType.char)) ∈ ALL := inT_3 175 rfl rfl
theorem w_705 : (Jvm.Cond.code ({ cls := "java/lang/StringUTF16", name := "charAt", desc := "([BI)C" } : Jvm.MethodName) prog_16_method_83_code (2 : Nat) (Option.some Jvm.ClassFile.FieldType.char)) ∈ ALL := inT_3 165 rfl rfl
theorem w_687 : (Jvm.Cond.code ({ cls := "java/lang/String", name := "charAt", desc := "(I)C" } : Jvm.MethodName) prog_14_method_56_code (2 : Nat) (Option.some Jvm.ClassFile.FieldType.char)) ∈ ALL := inT_3 147 rfl rfl
theorem w_1405 : (Jvm.Cond.code ({ cls := "MoonOverTheHillModel", name := "isWord", desc := "(Ljava/lang/String;)Z" } : Jvm.MethodName) prog_11_method_31_code (3 : Nat) (Option.some Jvm.ClassFile.FieldType.boolean)) ∈ ALL := inT_6 145 rfl rfl
theorem w_1419 : (Jvm.Cond.code ({ cls := "MoonOverTheHillModel", name := "number", desc := "(III)Z" } : Jvm.MethodName) prog_11_method_32_code (4 : Nat) (Option.some Jvm.ClassFile.FieldType.boolean)) ∈ ALL := inT_6 159 rfl rfl
theorem w_1415 : (Jvm.Cond.code ({ cls := "MoonOverTheHillModel", name := "tells", desc := "(I)Z" } : Jvm.MethodName) prog_11_method_33_code (2 : Nat) (Option.some Jvm.ClassFile.FieldType.boolean)) ∈ ALL := inT_6 155 rfl rfl
theorem w_1411 : (Jvm.Cond.code ({ cls := "MoonOverTheHillModel", name := "askedTold", desc := "(I)Z" } : Jvm.MethodName) prog_11_method_34_code (3 : Nat) (Option.some Jvm.ClassFile.FieldType.boolean)) ∈ ALL := inT_6 151 rfl rfl
theorem w_1432 : (Jvm.Cond.code ({ cls := "MoonOverTheHillModel", name := "cloudTold", desc := "()Z" } : Jvm.MethodName) prog_11_method_35_code (1 : Nat) (Option.some Jvm.ClassFile.FieldType.boolean)) ∈ ALL := inT_6 172 rfl rfl
theorem w_1400 : (Jvm.Cond.code ({ cls := "MoonOverTheHillModel", name := "statement", desc := "()Z" } : Jvm.MethodName) prog_11_method_36_code (2 : Nat) (Option.some Jvm.ClassFile.FieldType.boolean)) ∈ ALL := inT_6 140 rfl rfl
theorem w_1385 : (Jvm.Cond.code ({ cls := "MoonOverTheHillModel", name := "readAll", desc := "()Z" } : Jvm.MethodName) prog_11_method_37_code (1 : Nat) (Option.some Jvm.ClassFile.FieldType.boolean)) ∈ ALL := inT_6 125 rfl rfl
theorem w_1381 : (Jvm.Cond.code ({ cls := "MoonOverTheHillModel", name := "copyAll", desc := "([I[I)V" } : Jvm.MethodName) prog_11_method_108_code (3 : Nat) (Option.none : Option Jvm.ClassFile.FieldType)) ∈ ALL := inT_6 121 rfl rfl
theorem w_1378 : (Jvm.Cond.code ({ cls := "MoonOverTheHillModel", name := "takeFrom", desc := "(LMoonOverTheHillModel;)V" } : Jvm.MethodName) prog_11_method_109_code (3 : Nat) (Option.none : Option Jvm.ClassFile.FieldType)) ∈ ALL := inT_6 118 rfl rfl
theorem w_1372 : (Jvm.Cond.code ({ cls := "MoonOverTheHillModel", name := "sky", desc := "()I" } : Jvm.MethodName) prog_11_method_38_code (2 : Nat) (Option.some Jvm.ClassFile.FieldType.int)) ∈ ALL := inT_6 112 rfl rfl
theorem w_1436 : (Jvm.Cond.code ({ cls := "MoonOverTheHillModel", name := "notchOf", desc := "(II)I" } : Jvm.MethodName) prog_11_method_39_code (3 : Nat) (Option.some Jvm.ClassFile.FieldType.int)) ∈ ALL := inT_6 176 rfl rfl
theorem w_1440 : (Jvm.Cond.code ({ cls := "MoonOverTheHillModel", name := "stoneOf", desc := "(I)I" } : Jvm.MethodName) prog_11_method_40_code (2 : Nat) (Option.some Jvm.ClassFile.FieldType.int)) ∈ ALL := inT_6 180 rfl rfl
theorem w_1454 : (Jvm.Cond.code ({ cls := "MoonOverTheHillModel", name := "lit", desc := "(I)I" } : Jvm.MethodName) prog_11_method_43_code (3 : Nat) (Option.some Jvm.ClassFile.FieldType.int)) ∈ ALL := inT_6 194 rfl rfl
theorem w_1444 : (Jvm.Cond.code ({ cls := "MoonOverTheHillModel", name := "line", desc := "(I)I" } : Jvm.MethodName) prog_11_method_49_code (2 : Nat) (Option.some Jvm.ClassFile.FieldType.int)) ∈ ALL := inT_6 184 rfl rfl
theorem w_1458 : (Jvm.Cond.code ({ cls := "MoonOverTheHillModel", name := "degreeUp", desc := "(I)I" } : Jvm.MethodName) prog_11_method_52_code (2 : Nat) (Option.some Jvm.ClassFile.FieldType.int)) ∈ ALL := inT_6 198 rfl rfl
theorem w_1449 : (Jvm.Cond.code ({ cls := "MoonOverTheHillModel", name := "moon", desc := "(II)I" } : Jvm.MethodName) prog_11_method_54_code (3 : Nat) (Option.some Jvm.ClassFile.FieldType.int)) ∈ ALL := inT_6 189 rfl rfl
theorem w_1462 : (Jvm.Cond.code ({ cls := "MoonOverTheHillModel", name := "slant", desc := "(I)I" } : Jvm.MethodName) prog_11_method_55_code (2 : Nat) (Option.some Jvm.ClassFile.FieldType.int)) ∈ ALL := inT_6 202 rfl rfl
theorem w_1471 : (Jvm.Cond.code ({ cls := "MoonOverTheHillModel", name := "behindOf", desc := "(I)I" } : Jvm.MethodName) prog_11_method_56_code (6 : Nat) (Option.some Jvm.ClassFile.FieldType.int)) ∈ ALL := inT_6 211 rfl rfl
theorem w_1467 : (Jvm.Cond.code ({ cls := "MoonOverTheHillModel", name := "behind", desc := "(I)I" } : Jvm.MethodName) prog_11_method_57_code (2 : Nat) (Option.some Jvm.ClassFile.FieldType.int)) ∈ ALL := inT_6 207 rfl rfl
theorem w_1475 : (Jvm.Cond.code ({ cls := "MoonOverTheHillModel", name := "is", desc := "(II)I" } : Jvm.MethodName) prog_11_method_59_code (3 : Nat) (Option.some Jvm.ClassFile.FieldType.int)) ∈ ALL := inT_6 215 rfl rfl
theorem w_1482 : (Jvm.Cond.code ({ cls := "MoonOverTheHillModel", name := "areMinutes", desc := "(II)Z" } : Jvm.MethodName) prog_11_method_61_code (2 : Nat) (Option.some Jvm.ClassFile.FieldType.boolean)) ∈ ALL := inT_6 222 rfl rfl
theorem w_1479 : (Jvm.Cond.code ({ cls := "MoonOverTheHillModel", name := "shines", desc := "(III)I" } : Jvm.MethodName) prog_11_method_62_code (4 : Nat) (Option.some Jvm.ClassFile.FieldType.int)) ∈ ALL := inT_6 219 rfl rfl
theorem w_1490 : (Jvm.Cond.code ({ cls := "MoonOverTheHillModel", name := "lightIn", desc := "(III)I" } : Jvm.MethodName) prog_11_method_63_code (4 : Nat) (Option.some Jvm.ClassFile.FieldType.int)) ∈ ALL := inT_6 230 rfl rfl
theorem w_1486 : (Jvm.Cond.code ({ cls := "MoonOverTheHillModel", name := "light", desc := "(III)I" } : Jvm.MethodName) prog_11_method_64_code (4 : Nat) (Option.some Jvm.ClassFile.FieldType.int)) ∈ ALL := inT_6 226 rfl rfl
theorem w_1494 : (Jvm.Cond.code ({ cls := "MoonOverTheHillModel", name := "grows", desc := "(I)I" } : Jvm.MethodName) prog_11_method_65_code (2 : Nat) (Option.some Jvm.ClassFile.FieldType.int)) ∈ ALL := inT_6 234 rfl rfl
theorem w_1498 : (Jvm.Cond.code ({ cls := "MoonOverTheHillModel", name := "lights", desc := "(IIII)I" } : Jvm.MethodName) prog_11_method_66_code (7 : Nat) (Option.some Jvm.ClassFile.FieldType.int)) ∈ ALL := inT_6 238 rfl rfl
theorem w_1505 : (Jvm.Cond.code ({ cls := "MoonOverTheHillModel", name := "soonest", desc := "(II)I" } : Jvm.MethodName) prog_11_method_67_code (7 : Nat) (Option.some Jvm.ClassFile.FieldType.int)) ∈ ALL := inT_7 5 rfl rfl
