def RX0 : String := "MoonOverTheHill$Few"
def TX0 : u_T := fun k => match k with
  | 0 => ("MoonOverTheHill$Few", "items", "[I", true)
  | _ => ("MoonOverTheHill$Few", "count", "I", false)
def tyX0 : Nat → FieldType := fun k => match k with
  | 0 => .array .int
  | _ => .int
theorem nmX0 : ∀ a, a < 2 → ∀ b, b < 2 → a ≠ b → (TX0 a).2.1 ≠ (TX0 b).2.1 := by decide +kernel
theorem tyX0_ok : ∀ k, k < 2 → parseFieldDescriptor (TX0 k).2.2.1 = some (tyX0 k) := by decide +kernel
def RX1 : String := "MoonOverTheHill$Hill"
def TX1 : u_T := fun k => match k with
  | 0 => ("MoonOverTheHill$Hill", "from", "LMoonOverTheHill$Few;", true)
  | 1 => ("MoonOverTheHill$Hill", "to", "LMoonOverTheHill$Few;", true)
  | 2 => ("MoonOverTheHill$Hill", "height", "LMoonOverTheHill$Few;", true)
  | _ => ("MoonOverTheHill$Hill", "line", "[I", true)
def tyX1 : Nat → FieldType := fun k => match k with
  | 0 => .object "MoonOverTheHill$Few"
  | 1 => .object "MoonOverTheHill$Few"
  | 2 => .object "MoonOverTheHill$Few"
  | _ => .array .int
theorem nmX1 : ∀ a, a < 4 → ∀ b, b < 4 → a ≠ b → (TX1 a).2.1 ≠ (TX1 b).2.1 := by decide +kernel
theorem tyX1_ok : ∀ k, k < 4 → parseFieldDescriptor (TX1 k).2.2.1 = some (tyX1 k) := by decide +kernel
def RX2 : String := "MoonOverTheHill$Moon"
def TX2 : u_T := fun k => match k with
  | _ => ("MoonOverTheHill$Moon", "now", "LMoonOverTheHill$State;", true)
def tyX2 : Nat → FieldType := fun k => match k with
  | _ => .object "MoonOverTheHill$State"
theorem nmX2 : ∀ a, a < 1 → ∀ b, b < 1 → a ≠ b → (TX2 a).2.1 ≠ (TX2 b).2.1 := by decide +kernel
theorem tyX2_ok : ∀ k, k < 1 → parseFieldDescriptor (TX2 k).2.2.1 = some (tyX2 k) := by decide +kernel
def RX3 : String := "MoonOverTheHill$Places"
def TX3 : u_T := fun k => match k with
  | _ => ("MoonOverTheHill$Places", "often", "[I", true)
def tyX3 : Nat → FieldType := fun k => match k with
  | _ => .array .int
theorem nmX3 : ∀ a, a < 1 → ∀ b, b < 1 → a ≠ b → (TX3 a).2.1 ≠ (TX3 b).2.1 := by decide +kernel
theorem tyX3_ok : ∀ k, k < 1 → parseFieldDescriptor (TX3 k).2.2.1 = some (tyX3 k) := by decide +kernel
def RX4 : String := "MoonOverTheHill$Question"
def TX4 : u_T := fun k => match k with
  | 0 => ("MoonOverTheHill$Question", "about", "I", true)
  | 1 => ("MoonOverTheHill$Question", "a", "I", true)
  | 2 => ("MoonOverTheHill$Question", "b", "I", true)
  | 3 => ("MoonOverTheHill$Question", "c", "I", true)
  | _ => ("MoonOverTheHill$Question", "picture", "LMoonOverTheHill$Shelf;", true)
def tyX4 : Nat → FieldType := fun k => match k with
  | 0 => .int
  | 1 => .int
  | 2 => .int
  | 3 => .int
  | _ => .object "MoonOverTheHill$Shelf"
theorem nmX4 : ∀ a, a < 5 → ∀ b, b < 5 → a ≠ b → (TX4 a).2.1 ≠ (TX4 b).2.1 := by decide +kernel
theorem tyX4_ok : ∀ k, k < 5 → parseFieldDescriptor (TX4 k).2.2.1 = some (tyX4 k) := by decide +kernel
def RX5 : String := "MoonOverTheHill$Shelf"
def TX5 : u_T := fun k => match k with
  | 0 => ("MoonOverTheHill$Shelf", "elements", "[J", true)
  | 1 => ("MoonOverTheHill$Shelf", "content", "I", false)
  | 2 => ("MoonOverTheHill$Shelf", "size", "I", false)
  | _ => ("MoonOverTheHill$Shelf", "day", "I", false)
def tyX5 : Nat → FieldType := fun k => match k with
  | 0 => .array .long
  | 1 => .int
  | 2 => .int
  | _ => .int
theorem nmX5 : ∀ a, a < 4 → ∀ b, b < 4 → a ≠ b → (TX5 a).2.1 ≠ (TX5 b).2.1 := by decide +kernel
theorem tyX5_ok : ∀ k, k < 4 → parseFieldDescriptor (TX5 k).2.2.1 = some (tyX5 k) := by decide +kernel
def RX6 : String := "MoonOverTheHill$State"
def TX6 : u_T := fun k => match k with
  | 0 => ("MoonOverTheHill$State", "off", "I", false)
  | 1 => ("MoonOverTheHill$State", "node", "I", false)
  | 2 => ("MoonOverTheHill$State", "swing", "I", false)
  | 3 => ("MoonOverTheHill$State", "cloud", "I", false)
  | 4 => ("MoonOverTheHill$State", "hill", "LMoonOverTheHill$Hill;", true)
  | 5 => ("MoonOverTheHill$State", "stones", "LMoonOverTheHill$Few;", true)
  | 6 => ("MoonOverTheHill$State", "clouds", "LMoonOverTheHill$Few;", true)
  | 7 => ("MoonOverTheHill$State", "today", "I", false)
  | 8 => ("MoonOverTheHill$State", "looks", "I", false)
  | _ => ("MoonOverTheHill$State", "seed", "I", false)
def tyX6 : Nat → FieldType := fun k => match k with
  | 0 => .int
  | 1 => .int
  | 2 => .int
  | 3 => .int
  | 4 => .object "MoonOverTheHill$Hill"
  | 5 => .object "MoonOverTheHill$Few"
  | 6 => .object "MoonOverTheHill$Few"
  | 7 => .int
  | 8 => .int
  | _ => .int
theorem nmX6 : ∀ a, a < 10 → ∀ b, b < 10 → a ≠ b → (TX6 a).2.1 ≠ (TX6 b).2.1 := by decide +kernel
theorem tyX6_ok : ∀ k, k < 10 → parseFieldDescriptor (TX6 k).2.2.1 = some (tyX6 k) := by decide +kernel
def RX7 : String := "MoonOverTheHill$Tape"
def TX7 : u_T := fun k => match k with
  | 0 => ("MoonOverTheHill$Tape", "bytes", "[I", true)
  | 1 => ("MoonOverTheHill$Tape", "size", "I", false)
  | 2 => ("MoonOverTheHill$Tape", "token", "I", false)
  | 3 => ("MoonOverTheHill$Tape", "start", "I", false)
  | 4 => ("MoonOverTheHill$Tape", "end", "I", false)
  | _ => ("MoonOverTheHill$Tape", "value", "I", false)
def tyX7 : Nat → FieldType := fun k => match k with
  | 0 => .array .int
  | 1 => .int
  | 2 => .int
  | 3 => .int
  | 4 => .int
  | _ => .int
theorem nmX7 : ∀ a, a < 6 → ∀ b, b < 6 → a ≠ b → (TX7 a).2.1 ≠ (TX7 b).2.1 := by decide +kernel
theorem tyX7_ok : ∀ k, k < 6 → parseFieldDescriptor (TX7 k).2.2.1 = some (tyX7 k) := by decide +kernel
def RX8 : String := "MoonOverTheHill"
def TX8 : u_T := fun k => match k with
  | 0 => ("MoonOverTheHill", "now", "LMoonOverTheHill$State;", true)
  | 1 => ("MoonOverTheHill", "draft", "LMoonOverTheHill$State;", true)
  | 2 => ("MoonOverTheHill", "kept", "LMoonOverTheHill$State;", true)
  | 3 => ("MoonOverTheHill", "moon", "LMoonOverTheHill$Moon;", true)
  | 4 => ("MoonOverTheHill", "tape", "LMoonOverTheHill$Tape;", true)
  | 5 => ("MoonOverTheHill", "places", "LMoonOverTheHill$Places;", true)
  | 6 => ("MoonOverTheHill", "shelves", "[LMoonOverTheHill$Shelf;", true)
  | 7 => ("MoonOverTheHill", "refusals", "[I", true)
  | _ => ("MoonOverTheHill", "isKept", "Z", false)
def tyX8 : Nat → FieldType := fun k => match k with
  | 0 => .object "MoonOverTheHill$State"
  | 1 => .object "MoonOverTheHill$State"
  | 2 => .object "MoonOverTheHill$State"
  | 3 => .object "MoonOverTheHill$Moon"
  | 4 => .object "MoonOverTheHill$Tape"
  | 5 => .object "MoonOverTheHill$Places"
  | 6 => .array (.object "MoonOverTheHill$Shelf")
  | 7 => .array .int
  | _ => .boolean
theorem nmX8 : ∀ a, a < 9 → ∀ b, b < 9 → a ≠ b → (TX8 a).2.1 ≠ (TX8 b).2.1 := by decide +kernel
theorem tyX8_ok : ∀ k, k < 9 → parseFieldDescriptor (TX8 k).2.2.1 = some (tyX8 k) := by decide +kernel
def RX9 : String := "MoonOverTheHillModel"
def TX9 : u_T := fun k => match k with
  | 0 => ("MoonOverTheHillModel", "shelf", "[I", true)
  | 1 => ("MoonOverTheHillModel", "rowSort", "[I", true)
  | 2 => ("MoonOverTheHillModel", "rowSize", "[I", true)
  | 3 => ("MoonOverTheHillModel", "rows", "[[J", true)
  | 4 => ("MoonOverTheHillModel", "moved", "[J", true)
  | 5 => ("MoonOverTheHillModel", "eveKind", "[I", true)
  | 6 => ("MoonOverTheHillModel", "eveDay", "[I", true)
  | 7 => ("MoonOverTheHillModel", "tape", "[I", true)
  | 8 => ("MoonOverTheHillModel", "tapeSize", "I", false)
  | 9 => ("MoonOverTheHillModel", "refused", "[I", true)
  | 10 => ("MoonOverTheHillModel", "asked", "[I", true)
  | 11 => ("MoonOverTheHillModel", "notches", "I", false)
  | 12 => ("MoonOverTheHillModel", "notch", "[[I", true)
  | 13 => ("MoonOverTheHillModel", "stones", "I", false)
  | 14 => ("MoonOverTheHillModel", "stone", "[I", true)
  | 15 => ("MoonOverTheHillModel", "clouds", "I", false)
  | 16 => ("MoonOverTheHillModel", "cloud", "[I", true)
  | 17 => ("MoonOverTheHillModel", "today", "I", false)
  | 18 => ("MoonOverTheHillModel", "looks", "I", false)
  | 19 => ("MoonOverTheHillModel", "seed", "I", false)
  | 20 => ("MoonOverTheHillModel", "kept", "LMoonOverTheHillModel;", false)
  | 21 => ("MoonOverTheHillModel", "tried", "LMoonOverTheHillModel;", false)
  | 22 => ("MoonOverTheHillModel", "at", "I", false)
  | 23 => ("MoonOverTheHillModel", "token", "I", false)
  | 24 => ("MoonOverTheHillModel", "from", "I", false)
  | 25 => ("MoonOverTheHillModel", "figures", "I", false)
  | 26 => ("MoonOverTheHillModel", "fault", "I", false)
  | 27 => ("MoonOverTheHillModel", "told", "[I", true)
  | _ => ("MoonOverTheHillModel", "statements", "I", false)
def tyX9 : Nat → FieldType := fun k => match k with
  | 0 => .array .int
  | 1 => .array .int
  | 2 => .array .int
  | 3 => .array (.array .long)
  | 4 => .array .long
  | 5 => .array .int
  | 6 => .array .int
  | 7 => .array .int
  | 8 => .int
  | 9 => .array .int
  | 10 => .array .int
  | 11 => .int
  | 12 => .array (.array .int)
  | 13 => .int
  | 14 => .array .int
  | 15 => .int
  | 16 => .array .int
  | 17 => .int
  | 18 => .int
  | 19 => .int
  | 20 => .object "MoonOverTheHillModel"
  | 21 => .object "MoonOverTheHillModel"
  | 22 => .int
  | 23 => .int
  | 24 => .int
  | 25 => .int
  | 26 => .int
  | 27 => .array .int
  | _ => .int
theorem nmX9 : ∀ a, a < 29 → ∀ b, b < 29 → a ≠ b → (TX9 a).2.1 ≠ (TX9 b).2.1 := by decide +kernel
theorem tyX9_ok : ∀ k, k < 29 → parseFieldDescriptor (TX9 k).2.2.1 = some (tyX9 k) := by decide +kernel
def RJ6 : String := "java/lang/Integer"
def RJ9 : String := "java/lang/Math"
def RJ0 : String := "java/lang/String"
def RJ1 : String := "java/lang/StringLatin1"
def RJ2 : String := "java/lang/StringUTF16"
def RJ10 : String := "java/lang/System"
def RJ7 : String := "java/util/Arrays"
def RJ3 : String := "jdk/internal/util/Preconditions"
abbrev vwCl : List vw_C := [(RX0, TX0, 2), (RX1, TX1, 4), (RX2, TX2, 1), (RX3, TX3, 1), (RX4, TX4, 5), (RX5, TX5, 4), (RX6, TX6, 10), (RX7, TX7, 6), (RX8, TX8, 9), (RX9, TX9, 29)]
def nests : List (String × Nat × MethodName × String) := [("MoonOverTheHill", 9, ⟨"MoonOverTheHill$State", "<init>", "()V"⟩, "MoonOverTheHill"), ("MoonOverTheHill$State", 17, ⟨"MoonOverTheHill$Hill", "<init>", "()V"⟩, "MoonOverTheHill"), ("MoonOverTheHill", 33, ⟨"MoonOverTheHill$Tape", "<init>", "()V"⟩, "MoonOverTheHill"), ("MoonOverTheHill", 40, ⟨"MoonOverTheHill$Places", "<init>", "()V"⟩, "MoonOverTheHill"), ("MoonOverTheHill", 55, ⟨"MoonOverTheHill$Shelf", "<init>", "()V"⟩, "MoonOverTheHill"), ("MoonOverTheHill$Moon", 80, ⟨"MoonOverTheHill", "isIn", "(III)Z"⟩, "MoonOverTheHill"), ("MoonOverTheHill$Hill", 55, ⟨"MoonOverTheHill", "isIn", "(III)Z"⟩, "MoonOverTheHill"), ("MoonOverTheHill$Tape", 105, ⟨"MoonOverTheHill", "isIn", "(III)Z"⟩, "MoonOverTheHill")]
def sites : List (String × Nat × String × List Int32) := [("MoonOverTheHill$Tape", 58, "off", [111, 102, 102]), ("MoonOverTheHill$Tape", 68, "node", [110, 111, 100, 101]), ("MoonOverTheHill$Tape", 70, "swing", [115, 119, 105, 110, 103]), ("MoonOverTheHill$Tape", 72, "notch", [110, 111, 116, 99, 104]), ("MoonOverTheHill$Tape", 84, "stone", [115, 116, 111, 110, 101]), ("MoonOverTheHill$Tape", 94, "cloud", [99, 108, 111, 117, 100]), ("MoonOverTheHillModel", 190, "off", [111, 102, 102]), ("MoonOverTheHillModel", 199, "node", [110, 111, 100, 101]), ("MoonOverTheHillModel", 201, "swing", [115, 119, 105, 110, 103]), ("MoonOverTheHillModel", 203, "notch", [110, 111, 116, 99, 104]), ("MoonOverTheHillModel", 204, "stone", [115, 116, 111, 110, 101]), ("MoonOverTheHillModel", 205, "cloud", [99, 108, 111, 117, 100])]
