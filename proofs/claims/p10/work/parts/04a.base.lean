/-! ===== the layer: one list of words for every method; contracts; rows ===== -/
abbrev MI : Type := MethodName × ByteArray × Nat × Option FieldType
def ALL : List Cond := lw_tbl.filter goodWord
theorem inA (i : Nat) {w : Cond} (h : lw_tbl[i]? = some w ∧ goodWord w = true) : w ∈ ALL := List.mem_filter.mpr ⟨List.mem_of_getElem? h.1, h.2⟩
theorem inAs {ws : List Cond} (is : List Nat) (h : ws = is.filterMap (fun i => lw_tbl[i]?)) (hg : ws.all goodWord = true) : ∀ w ∈ ws, w ∈ ALL := by
  intro w hw
  have h1 := List.all_eq_true.mp hg w hw
  rw [h] at hw
  obtain ⟨i, -, hi⟩ := List.mem_filterMap.mp hw
  exact inA i ⟨hi, h1⟩
theorem allGood {ws : List Cond} (h : ∀ w ∈ ws, w ∈ ALL) : GoodIn ALL ws := fun w hw => ⟨h w hw, good_of_word (List.mem_filter.mp (h w hw)).2⟩
def cdw (mi : MI) : Cond := Cond.code mi.1 mi.2.1 mi.2.2.1 mi.2.2.2
def wk (mi : MI) : List Cond := cdw mi :: ALL
theorem wk_in {mi : MI} (h : cdw mi ∈ ALL) : ∀ w ∈ wk mi, w ∈ ALL := fun w hw => (List.mem_cons.mp hw).elim (fun e => e ▸ h) id
def goodY (mi : MI) (n : Nat) : Prop := cdw mi ∈ ALL ∧ (mi.1.cls ≠ "java/lang/invoke/MethodHandle" ∧ mi.1.cls ≠ "java/lang/invoke/VarHandle" ∧ (parseMethodDescriptor mi.1.desc).map (fun d => d.parameters.length) = some n ∧ mi.2.2.1 ≤ 16) ∧ plainFor mi.1 = true
/-- the machine has no entry of its own for Math's methods on ints -/
theorem jm_rows : (Jvm.natives.all fun r => r.cls != "java/lang/Math" || !(r.desc == "(II)I" || r.desc == "(I)I")) = true := by decide +kernel
theorem jm_plain {x : MethodName} (hc : x.cls = "java/lang/Math") (hd : (x.desc == "(II)I" || x.desc == "(I)I") = true) : plainFor x = true := by
  unfold plainFor
  rw [Bool.or_eq_true]; right
  rw [Option.isNone_iff_eq_none, NativeRow.find?, List.find?_eq_none]
  intro r hr h
  have h1 := List.all_eq_true.mp jm_rows r hr
  simp only [Bool.and_eq_true, beq_iff_eq] at h
  rw [h.1.2, h.2, hc, hd] at h1
  simp at h1
/-- a virtual call's link: own class, index, receiver's class, method, how many parameters -/
def LkV (own : String) (idx : Nat) (mi : MI) (n : Nat) : Prop := (∀ w ∈ ([.methodLink own idx mi.1, .instanceMethod mi.1, .selects mi.1.cls mi.1 mi.1, .initialized mi.1.cls] : List Cond), w ∈ ALL) ∧ goodY mi n
def LkS (own : String) (idx : Nat) (mi : MI) (n : Nat) : Prop := (∀ w ∈ ([.methodLink own idx mi.1, .static mi.1, .initialized mi.1.cls] : List Cond), w ∈ ALL) ∧ goodY mi n
def LkSN (own : String) (idx : Nat) (mi : MI) (n : Nat) (host : String) : Prop := ((own, idx, mi.1, host) ∈ nests ∧ ∀ w ∈ ([.static mi.1, .initialized mi.1.cls] : List Cond), w ∈ ALL) ∧ goodY mi n
def LkI (own : String) (idx : Nat) (mi : MI) (n : Nat) : Prop := (∀ w ∈ ([.methodLink own idx mi.1, .instanceMethod mi.1, .initialized mi.1.cls] : List Cond), w ∈ ALL) ∧ goodY mi n ∧ mi.1.name = "<init>" ∧ mi.2.2.2 = none
def LkIN (own : String) (idx : Nat) (mi : MI) (n : Nat) (host : String) : Prop := ((own, idx, mi.1, host) ∈ nests ∧ ∀ w ∈ ([.instanceMethod mi.1, .initialized mi.1.cls] : List Cond), w ∈ ALL) ∧ goodY mi n ∧ mi.1.name = "<init>" ∧ mi.2.2.2 = none
def tyL (cA : Nat → ClassId) : List (ClassId × FieldType) := [(cA 0, .int), (cA 1, .long), (cA 2, .boolean), (cA 3, .object "MoonOverTheHill$Shelf"), (cA 4, .array .int), (cA 5, .array .long)]
/-- a constant text: an object of String with these bytes -/
def StrOK (A : Nat → Prop) (U : State) (H : Heap) (a : Nat) (w : List Int32) : Prop := va_O "java/lang/String" a A U H ∧ va_OF "java/lang/String" "coder" "B" (.int 0) a A U H ∧ ∃ v : Nat, va_OF "java/lang/String" "value" "[B" (.ref v) a A U H ∧ va_T .byte v w.length (fun j => .int (w.getD j 0)) A U H
theorem StrOK.moved {A : Nat → Prop} {u U : State} {H : Heap} {a : Nat} {w : List Int32} (hvm : u.vm.Alike U.vm) (h : StrOK A u H a w) : StrOK A U H a w := by
  obtain ⟨h1, h2, v, h3, h4⟩ := h
  exact ⟨va_O.moved hvm h1, va_OF.moved hvm h2, v, va_OF.moved hvm h3, va_T.moved hvm h4⟩
theorem StrOK.kept {A : Nat → Prop} {U : State} {H H1 : Heap} {a : Nat} {w : List Int32} (h : StrOK A U H a w) (hq : ∀ a : Nat, a < H.size → ¬ A a → H1[a]? = H[a]?) : StrOK A U H1 a w := by
  obtain ⟨h1, h2, v, h3, h4⟩ := h
  exact ⟨h1.kept hq, h2.kept hq, v, h3.kept hq, h4.kept hq⟩
abbrev cN : String := "java/lang/String"
abbrev cP : String := "jdk/internal/util/Preconditions"
abbrev fP : String := "Ljava/util/function/BiFunction;"
/-- what the machine holds beside the worlds: the constant texts, two statics; nothing of it lies at bs or above -/
def StrE (bs : Nat) (U : State) (H : Heap) : Prop := (∀ q ∈ sites, ∃ a : Nat, vk_R q.1 q.2.1 q.2.2.1 a U ∧ StrOK (fun z => bs ≤ z) U H a q.2.2.2) ∧ va_Z cN "COMPACT_STRINGS" "Z" (.int 1) (fun z => bs ≤ z) U H ∧ va_Zq cP "SIOOBE_FORMATTER" fP (fun z => bs ≤ z) U H
theorem StrE.same {bs : Nat} {u U : State} {H : Heap} (hv : U.vm = u.vm) (h : StrE bs u H) : StrE bs U H := by
  have hvm : u.vm.Alike U.vm := by rw [hv]; exact Vm.Alike.refl u.vm
  refine ⟨fun q hq => ?_, va_Z.moved hvm h.2.1, va_Zq.moved hvm h.2.2⟩
  obtain ⟨a, h1, h2⟩ := h.1 q hq
  exact ⟨a, vk_R.same hv h1, h2.moved hvm⟩
theorem StrE.warm {bs : Nat} {s U : State} {H : Heap} (hW : s.WarmedH U.vm) (h : StrE bs s H) : StrE bs U H := by
  refine ⟨fun q hq => ?_, va_Z.moved hW.alike h.2.1, va_Zq.moved hW.alike h.2.2⟩
  obtain ⟨a, h1, h2⟩ := h.1 q hq
  exact ⟨a, vk_R.warm hW h1, h2.moved hW.alike⟩
theorem StrE.kept {bs : Nat} {U : State} {H H1 : Heap} (h : StrE bs U H) (hq : ∀ a : Nat, a < H.size → ¬ (bs ≤ a) → H1[a]? = H[a]?) : StrE bs U H1 := by
  refine ⟨fun q h0 => ?_, va_Z.kept h.2.1 hq, va_Zq.kept h.2.2 hq⟩
  obtain ⟨a, h1, h2⟩ := h.1 q h0
  exact ⟨a, h1, h2.kept hq⟩
