def tyL (cA : Nat → ClassId) : List (ClassId × FieldType) := [(cA 0, .int), (cA 1, .long), (cA 2, .boolean), (cA 3, .object "MoonOverTheHill$Shelf"), (cA 4, .array .int), (cA 5, .array .long)]
/-- a constant text: an object of String with these bytes -/
def StrOK (A : Nat → Prop) (U : State) (H : Heap) (a : Nat) (w : List Int32) : Prop := va_O "java/lang/String" a A U H ∧ va_OF "java/lang/String" "coder" "B" (.int 0) a A U H ∧ ∃ v : Nat, va_OF "java/lang/String" "value" "[B" (.ref v) a A U H ∧ va_T .byte v w.length (fun j => .int (w.getD j 0)) A U H
theorem StrOK.moved {A : Nat → Prop} {u U : State} {H : Heap} {a : Nat} {w : List Int32} (hvm : u.vm.Alike U.vm) (h : StrOK A u H a w) : StrOK A U H a w := by
  obtain ⟨h1, h2, v, h3, h4⟩ := h
  exact ⟨va_O.moved hvm h1, va_OF.moved hvm h2, v, va_OF.moved hvm h3, va_T.moved hvm h4⟩
theorem StrOK.kept {A : Nat → Prop} {U : State} {H H1 : Heap} {a : Nat} {w : List Int32} (h : StrOK A U H a w) (hq : ∀ a : Nat, a < H.size → ¬ A a → H1[a]? = H[a]?) : StrOK A U H1 a w := by
  obtain ⟨h1, h2, v, h3, h4⟩ := h
  exact ⟨h1.kept hq, h2.kept hq, v, h3.kept hq, h4.kept hq⟩
abbrev cN : String := "java/lang/String"
abbrev cP : String := "jdk/internal/util/Preconditions"
abbrev fP : String := "Ljava/util/function/BiFunction;"
/-- what the machine holds beside the worlds: the constant texts, two statics; nothing of it lies at bs or above -/
def StrE (bs : Nat) (U : State) (H : Heap) : Prop := (∀ q ∈ sites, ∃ a : Nat, vk_R q.1 q.2.1 q.2.2.1 a U ∧ StrOK (fun z => bs ≤ z) U H a q.2.2.2) ∧ va_Z cN "COMPACT_STRINGS" "Z" (.int 1) (fun z => bs ≤ z) U H ∧ va_Zq cP "SIOOBE_FORMATTER" fP (fun z => bs ≤ z) U H
