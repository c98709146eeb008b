/-! ===== the layer: one list of words for every method; contracts; rows ===== -/
abbrev MI : Type := MethodName × ByteArray × Nat × Option FieldType
def ALL : List Cond := lw_tbl.filter goodWord
theorem inA (i : Nat) {w : Cond} (h : lw_tbl[i]? = some w ∧ goodWord w = true) : w ∈ ALL := List.mem_filter.mpr ⟨List.mem_of_getElem? h.1, h.2⟩
theorem inAs {ws : List Cond} (is : List Nat) (h : ws = is.filterMap (fun i => lw_tbl[i]?)) (hg : ws.all goodWord = true) : ∀ w ∈ ws, w ∈ ALL := by
  intro w hw
  have h1 := List.all_eq_true.mp hg w hw
  rw [h] at hw
  obtain ⟨i, -, hi⟩ := List.mem_filterMap.mp hw
  exact inA i ⟨hi, h1⟩
theorem allGood {ws : List Cond} (h : ∀ w ∈ ws, w ∈ ALL) : GoodIn ALL ws := fun w hw => ⟨h w hw, good_of_word (List.mem_filter.mp (h w hw)).2⟩
def cdw (mi : MI) : Cond := Cond.code mi.1 mi.2.1 mi.2.2.1 mi.2.2.2
def wk (mi : MI) : List Cond := cdw mi :: ALL
theorem wk_in {mi : MI} (h : cdw mi ∈ ALL) : ∀ w ∈ wk mi, w ∈ ALL := fun w hw => (List.mem_cons.mp hw).elim (fun e => e ▸ h) id
def goodY (mi : MI) (n : Nat) : Prop := cdw mi ∈ ALL ∧ (mi.1.cls ≠ "java/lang/invoke/MethodHandle" ∧ mi.1.cls ≠ "java/lang/invoke/VarHandle" ∧ (parseMethodDescriptor mi.1.desc).map (fun d => d.parameters.length) = some n ∧ mi.2.2.1 ≤ 16) ∧ plainFor mi.1 = true
/-- the machine has no entry of its own for Math's methods on ints -/
theorem jm_rows : (Jvm.natives.all fun r => r.cls != "java/lang/Math" || !(r.desc == "(II)I" || r.desc == "(I)I")) = true := by decide +kernel
theorem jm_plain {x : MethodName} (hc : x.cls = "java/lang/Math") (hd : (x.desc == "(II)I" || x.desc == "(I)I") = true) : plainFor x = true := by
  unfold plainFor
  rw [Bool.or_eq_true]; right
  rw [Option.isNone_iff_eq_none, NativeRow.find?, List.find?_eq_none]
  intro r hr h
  have h1 := List.all_eq_true.mp jm_rows r hr
  simp only [Bool.and_eq_true, beq_iff_eq] at h
  rw [h.1.2, h.2, hc, hd] at h1
  simp at h1
/-- a virtual call's link: own class, index, receiver's class, method, how many parameters -/
def LkV (own : String) (idx : Nat) (mi : MI) (n : Nat) : Prop := (∀ w ∈ ([.methodLink own idx mi.1, .instanceMethod mi.1, .selects mi.1.cls mi.1 mi.1, .initialized mi.1.cls] : List Cond), w ∈ ALL) ∧ goodY mi n
def LkS (own : String) (idx : Nat) (mi : MI) (n : Nat) : Prop := (∀ w ∈ ([.methodLink own idx mi.1, .static mi.1, .initialized mi.1.cls] : List Cond), w ∈ ALL) ∧ goodY mi n
def LkSN (own : String) (idx : Nat) (mi : MI) (n : Nat) (host : String) : Prop := ((own, idx, mi.1, host) ∈ nests ∧ ∀ w ∈ ([.static mi.1, .initialized mi.1.cls] : List Cond), w ∈ ALL) ∧ goodY mi n
def LkI (own : String) (idx : Nat) (mi : MI) (n : Nat) : Prop := (∀ w ∈ ([.methodLink own idx mi.1, .instanceMethod mi.1, .initialized mi.1.cls] : List Cond), w ∈ ALL) ∧ goodY mi n ∧ mi.1.name = "<init>" ∧ mi.2.2.2 = none
def LkIN (own : String) (idx : Nat) (mi : MI) (n : Nat) (host : String) : Prop := ((own, idx, mi.1, host) ∈ nests ∧ ∀ w ∈ ([.instanceMethod mi.1, .initialized mi.1.cls] : List Cond), w ∈ ALL) ∧ goodY mi n ∧ mi.1.name = "<init>" ∧ mi.2.2.2 = none
def tyL (cA : Nat → ClassId) : List (ClassId × FieldType) := [(cA 0, .int), (cA 1, .long), (cA 2, .boolean), (cA 3, .object "MoonOverTheHill$Shelf"), (cA 4, .array .int), (cA 5, .array .long)]
/-- a constant text: an object of String with these bytes -/
def StrOK (A : Nat → Prop) (U : State) (H : Heap) (a : Nat) (w : List Int32) : Prop := va_O "java/lang/String" a A U H ∧ va_OF "java/lang/String" "coder" "B" (.int 0) a A U H ∧ ∃ v : Nat, va_OF "java/lang/String" "value" "[B" (.ref v) a A U H ∧ va_T .byte v w.length (fun j => .int (w.getD j 0)) A U H
theorem StrOK.moved {A : Nat → Prop} {u U : State} {H : Heap} {a : Nat} {w : List Int32} (hvm : u.vm.Alike U.vm) (h : StrOK A u H a w) : StrOK A U H a w := by
  obtain ⟨h1, h2, v, h3, h4⟩ := h
  exact ⟨va_O.moved hvm h1, va_OF.moved hvm h2, v, va_OF.moved hvm h3, va_T.moved hvm h4⟩
theorem StrOK.kept {A : Nat → Prop} {U : State} {H H1 : Heap} {a : Nat} {w : List Int32} (h : StrOK A U H a w) (hq : ∀ a : Nat, a < H.size → ¬ A a → H1[a]? = H[a]?) : StrOK A U H1 a w := by
  obtain ⟨h1, h2, v, h3, h4⟩ := h
  exact ⟨h1.kept hq, h2.kept hq, v, h3.kept hq, h4.kept hq⟩
abbrev cN : String := "java/lang/String"
abbrev cP : String := "jdk/internal/util/Preconditions"
abbrev fP : String := "Ljava/util/function/BiFunction;"
/-- what the machine holds beside the worlds: the constant texts, two statics; nothing of it lies at bs or above -/
def StrE (bs : Nat) (U : State) (H : Heap) : Prop := (∀ q ∈ sites, ∃ a : Nat, vk_R q.1 q.2.1 q.2.2.1 a U ∧ StrOK (fun z => bs ≤ z) U H a q.2.2.2) ∧ va_Z cN "COMPACT_STRINGS" "Z" (.int 1) (fun z => bs ≤ z) U H ∧ va_Zq cP "SIOOBE_FORMATTER" fP (fun z => bs ≤ z) U H
theorem StrE.same {bs : Nat} {u U : State} {H : Heap} (hv : U.vm = u.vm) (h : StrE bs u H) : StrE bs U H := by
  have hvm : u.vm.Alike U.vm := by rw [hv]; exact Vm.Alike.refl u.vm
  refine ⟨fun q hq => ?_, va_Z.moved hvm h.2.1, va_Zq.moved hvm h.2.2⟩
  obtain ⟨a, h1, h2⟩ := h.1 q hq
  exact ⟨a, vk_R.same hv h1, h2.moved hvm⟩
theorem StrE.warm {bs : Nat} {s U : State} {H : Heap} (hW : s.WarmedH U.vm) (h : StrE bs s H) : StrE bs U H := by
  refine ⟨fun q hq => ?_, va_Z.moved hW.alike h.2.1, va_Zq.moved hW.alike h.2.2⟩
  obtain ⟨a, h1, h2⟩ := h.1 q hq
  exact ⟨a, vk_R.warm hW h1, h2.moved hW.alike⟩
theorem StrE.kept {bs : Nat} {U : State} {H H1 : Heap} (h : StrE bs U H) (hq : ∀ a : Nat, a < H.size → ¬ (bs ≤ a) → H1[a]? = H[a]?) : StrE bs U H1 := by
  refine ⟨fun q h0 => ?_, va_Z.kept h.2.1 hq, va_Zq.kept h.2.2 hq⟩
  obtain ⟨a, h1, h2⟩ := h.1 q h0
  exact ⟨a, h1, h2.kept hq⟩
/-- links of nest mates: no words that go from caller to callee by themselves -/
def NN (U : State) : Prop := ∀ q ∈ nests, va_Nw (.methodLinkNest q.1 q.2.1 q.2.2.1 q.2.2.2) U
/-- what every method takes for granted; cA 9 is the base: worlds lie there and above -/
abbrev KK (D : va_G) (cA : Nat → ClassId) (U : State) : Prop := va_K D vwCl (tyL cA) U ∧ NN U ∧ StrE (cA 9) U U.heap ∧ cA 9 ≤ U.heap.size
theorem KK.call {D : va_G} {cA : Nat → ClassId} {U : State} {g : JFrame} {mk : MethodId} {a : Array Value} (h : KK D cA U) : KK D cA (U.calling g mk a) := ⟨va_K.moved (u := U) (U := U.calling g mk a) (Vm.Alike.refl U.vm) h.1, fun q hq => va_Nw.same (u := U) (U := U.calling g mk a) rfl rfl (h.2.1 q hq), StrE.same (u := U) (U := U.calling g mk a) rfl h.2.2.1, h.2.2.2⟩
theorem keptB {A : Nat → Prop} {H0 H : Heap} {locs : List Loc} {bs : Nat} (hS : va_S A H0 H locs) (hAb : ∀ q, A q → bs ≤ q) : ∀ a : Nat, a < H0.size → ¬ (bs ≤ a) → H[a]? = H0[a]? := fun a h1 h2 => hS.2.1 a h1 (fun z => h2 (hAb a z))
theorem KK.at {D : va_G} {cA : Nat → ClassId} {s U : State} {A : Nat → Prop} {H : Heap} {locs : List Loc} (h : KK D cA s) (hS : va_S A s.heap H locs) (hAb : ∀ q, A q → cA 9 ≤ q) (hU : U.heap = H) (hW : s.WarmedH U.vm) : KK D cA U :=
  ⟨va_K.moved hW.alike h.1, fun q hq => va_Nw.warmM hW (h.2.1 q hq), by rw [hU]; exact (h.2.2.1.kept (keptB hS hAb)).warm hW, by rw [hU]; exact Nat.le_trans h.2.2.2 hS.1⟩
abbrev rmOf (d mc ms : Nat) : Room := { frames := d, cells := mc, slots := ms, locals := 35 * d }
def roQ (v : Option Value) : Array Value → State → Outcome → State → Prop := fun _ st o t => o = .returned v ∧ t.heap = st.heap
def RO (mi : MI) (d : Nat) (D : va_G) (cA : Nat → ClassId) (av : List Value) (ws : va_W) (v : Option Value) : Prop := ∀ l : Launch, Met l mi.1 (wk mi) (rmOf d 0 0) (va_Pc av (fun U => va_P D vwCl ws U.heap ∧ KK D cA U)) (roQ v) 0 0 (fun _ => False)
def rwQ (D : va_G) (A : Nat → Prop) (post : Option Value → va_W → Prop) : Array Value → State → Outcome → State → Prop := fun _ st o t => (∃ v ws', o = .returned v ∧ post v ws' ∧ va_P D vwCl ws' t.heap ∧ va_D A ws') ∧ va_F A st t
def RW (mi : MI) (d mc ms : Nat) (D : va_G) (cA : Nat → ClassId) (av : List Value) (ws : va_W) (post : Option Value → va_W → Prop) : Prop := ∀ (l : Launch) (sz : Nat), Met l mi.1 (wk mi) (rmOf d mc ms) (va_Pc av (fun U => U.heap.size = sz ∧ va_P D vwCl ws U.heap ∧ KK D cA U ∧ va_D (fun q => cA 9 ≤ q) ws)) (rwQ D (va_A ws sz) post) mc ms (va_A ws sz)
theorem RO.ofW {mi : MI} {d : Nat} {D : va_G} {cA : Nat → ClassId} {av : List Value} {ws : va_W} {v : Option Value} (hy : plainFor mi.1 = true) (hn : (lg_sl av).length ≤ mi.2.2.1)
    (body : ∀ (l : Launch) (p : Program) (e : Env) (s : State) (m : MethodId) (below : List Frame) (meth : Method) (c : Code), CallFix p m c mi.2.1 mi.2.2.1 s av.toArray ALL mi.1.cls → meth.sig.returnType = mi.2.2.2 → meth.locks = false → KK D cA s → va_P D vwCl ws s.heap → va_S (fun _ => False) s.heap s.heap [] → (∀ q : Nat, False → cA 9 ≤ q) → ∀ ls, lv_has ls mi.2.2.1 (lv_args 0 av) → W p l e (rmOf d 0 0) s m av.toArray below meth c s.heap [] 0 0 (MQ below (roQ v) av.toArray s 0 0 (fun _ => False)) (F0 m 0 ls [])) : RO mi d D cA av ws v := by
  intro l
  refine va_MetF (cc := mi.2.1) (maxL := mi.2.2.1) (ret := mi.2.2.2) hy rfl ?_
  intro p e s m args' below meth c s₁ B hml hv
  obtain ⟨rfl, hP, hK⟩ := hv
  have hts := atoms_spec (ws := wk mi) B.pre
  rw [lg_entry_eq]
  exact body l p e s m below meth c ⟨B.exec, B.bytes, hml, findClass_of_methodNamed B.named, fun w hw => hts w (List.mem_cons_of_mem _ hw)⟩ B.returns B.notSynchronized hK hP va_S.rf (fun _ h => h.elim) _ (lv_entry av hn)
theorem RW.ofW {mi : MI} {d mc ms : Nat} {D : va_G} {cA : Nat → ClassId} {av : List Value} {ws : va_W} {post : Option Value → va_W → Prop} (hy : plainFor mi.1 = true) (hn : (lg_sl av).length ≤ mi.2.2.1)
    (body : ∀ (l : Launch) (p : Program) (e : Env) (s : State) (m : MethodId) (below : List Frame) (meth : Method) (c : Code) (A : Nat → Prop) (H : Heap) (locs : List Loc), CallFix p m c mi.2.1 mi.2.2.1 s av.toArray ALL mi.1.cls → meth.sig.returnType = mi.2.2.2 → meth.locks = false → meth.name = mi.1.name → KK D cA s → va_P D vwCl ws H → va_D A ws → va_S A s.heap H locs → (∀ q, s.heap.size ≤ q → A q) → (∀ q, A q → cA 9 ≤ q) → ∀ ls, lv_has ls mi.2.2.1 (lv_args 0 av) → W p l e (rmOf d mc ms) s m av.toArray below meth c H locs 0 0 (MQ below (rwQ D A post) av.toArray s mc ms A) (F0 m 0 ls [])) : RW mi d mc ms D cA av ws post := by
  intro l sz
  refine va_MetF (cc := mi.2.1) (maxL := mi.2.2.1) (ret := mi.2.2.2) hy rfl ?_
  intro p e s m args' below meth c s₁ B hml hv
  obtain ⟨rfl, hsz, hP, hK, hD0⟩ := hv
  have hts := atoms_spec (ws := wk mi) B.pre
  have hnm : meth.name = mi.1.name := (name_of_methodNamed B.named B.method).1
  subst hsz
  have hD := hD0.self (sz := s.heap.size)
  rw [lg_entry_eq]
  have hF : CallFix p m c mi.2.1 mi.2.2.1 s av.toArray ALL mi.1.cls := ⟨B.exec, B.bytes, hml, findClass_of_methodNamed B.named, fun w hw => hts w (List.mem_cons_of_mem _ hw)⟩
  have hA : ∀ q, s.heap.size ≤ q → va_A ws s.heap.size q := fun q h => Or.inr h
  have hAb : ∀ q, va_A ws s.heap.size q → cA 9 ≤ q := by
    rintro q (⟨k, e, h⟩ | h)
    · exact hD0.2 k _ h
    · exact Nat.le_trans hK.2.2.2 h
  have hl := lv_entry av hn
  generalize (lg_sl av ++ List.replicate (mi.2.2.1 - (lg_sl av).length) Slot.unset).toArray = ls at hl ⊢
  have hr := B.returns
  have hs := B.notSynchronized
  clear B hts hn hy hml
  generalize va_A ws s.heap.size = A at hA hAb hD ⊢
  exact body l p e s m below meth c A s.heap [] hF hr hs hnm hK hP hD va_S.rf hA hAb ls hl
