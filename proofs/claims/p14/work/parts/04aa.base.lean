/-! ===== the layer: one list of words for every method; contracts; rows ===== -/
abbrev MI : Type := MethodName × ByteArray × Nat × Option FieldType
def ALL : List Cond := lw_tbl.filter goodWord
theorem inA (i : Nat) {w : Cond} (h : lw_tbl[i]? = some w ∧ goodWord w = true) : w ∈ ALL := List.mem_filter.mpr ⟨List.mem_of_getElem? h.1, h.2⟩
theorem inAs {ws : List Cond} (is : List Nat) (h : ws = is.filterMap (fun i => lw_tbl[i]?)) (hg : ws.all goodWord = true) : ∀ w ∈ ws, w ∈ ALL := by
  intro w hw
  have h1 := List.all_eq_true.mp hg w hw
  rw [h] at hw
  obtain ⟨i, -, hi⟩ := List.mem_filterMap.mp hw
  exact inA i ⟨hi, h1⟩
theorem allGood {ws : List Cond} (h : ∀ w ∈ ws, w ∈ ALL) : GoodIn ALL ws := fun w hw => ⟨h w hw, good_of_word (List.mem_filter.mp (h w hw)).2⟩
def cdw (mi : MI) : Cond := Cond.code mi.1 mi.2.1 mi.2.2.1 mi.2.2.2
def wk (mi : MI) : List Cond := cdw mi :: ALL
theorem wk_in {mi : MI} (h : cdw mi ∈ ALL) : ∀ w ∈ wk mi, w ∈ ALL := fun w hw => (List.mem_cons.mp hw).elim (fun e => e ▸ h) id
def goodY (mi : MI) (n : Nat) : Prop := cdw mi ∈ ALL ∧ (mi.1.cls ≠ "java/lang/invoke/MethodHandle" ∧ mi.1.cls ≠ "java/lang/invoke/VarHandle" ∧ (parseMethodDescriptor mi.1.desc).map (fun d => d.parameters.length) = some n ∧ mi.2.2.1 ≤ 16) ∧ plainFor mi.1 = true
/-- the machine has no entry of its own for Math's methods on ints -/
theorem jm_rows : (Jvm.natives.all fun r => r.cls != "java/lang/Math" || !(r.desc == "(II)I" || r.desc == "(I)I")) = true := by decide +kernel
