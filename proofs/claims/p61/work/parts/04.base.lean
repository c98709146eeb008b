/-! ===== the layer: one list of words for every method; contracts; rows ===== -/
abbrev MI : Type := MethodName × ByteArray × Nat × Option FieldType
def ALL : List Cond := lw_tbl.filter goodWord
theorem inA (i : Nat) {w : Cond} (h : lw_tbl[i]? = some w ∧ goodWord w = true) : w ∈ ALL := List.mem_filter.mpr ⟨List.mem_of_getElem? h.1, h.2⟩
theorem inAs {ws : List Cond} (is : List Nat) (h : ws = is.filterMap (fun i => lw_tbl[i]?)) (hg : ws.all goodWord = true) : ∀ w ∈ ws, w ∈ ALL := by
  intro w hw
  have h1 := List.all_eq_true.mp hg w hw
  rw [h] at hw
  obtain ⟨i, -, hi⟩ := List.mem_filterMap.mp hw
  exact inA i ⟨hi, h1⟩
theorem allGood {ws : List Cond} (h : ∀ w ∈ ws, w ∈ ALL) : GoodIn ALL ws := fun w hw => ⟨h w hw, good_of_word (List.mem_filter.mp (h w hw)).2⟩
def cdw (mi : MI) : Cond := Cond.code mi.1 mi.2.1 mi.2.2.1 mi.2.2.2
def wk (mi : MI) : List Cond := cdw mi :: ALL
theorem wk_in {mi : MI} (h : cdw mi ∈ ALL) : ∀ w ∈ wk mi, w ∈ ALL := fun w hw => (List.mem_cons.mp hw).elim (fun e => e ▸ h) id
def goodY (mi : MI) (n : Nat) : Prop := cdw mi ∈ ALL ∧ (mi.1.cls ≠ "java/lang/invoke/MethodHandle" ∧ mi.1.cls ≠ "java/lang/invoke/VarHandle" ∧ (parseMethodDescriptor mi.1.desc).map (fun d => d.parameters.length) = some n ∧ mi.2.2.1 ≤ 16) ∧ plainFor mi.1 = true
/-- the machine has no entry of its own for Math's methods on ints -/
theorem jm_rows : (Jvm.natives.all fun r => r.cls != "java/lang/Math" || !(r.desc == "(II)I" || r.desc == "(I)I")) = true := by decide +kernel
theorem jm_plain {x : MethodName} (hc : x.cls = "java/lang/Math") (hd : (x.desc == "(II)I" || x.desc == "(I)I") = true) : plainFor x = true := by
  unfold plainFor
  rw [Bool.or_eq_true]; right
  rw [Option.isNone_iff_eq_none, NativeRow.find?, List.find?_eq_none]
  intro r hr h
  have h1 := List.all_eq_true.mp jm_rows r hr
  simp only [Bool.and_eq_true, beq_iff_eq] at h
  rw [h.1.2, h.2, hc, hd] at h1
  simp at h1
/-- a virtual call's link: own class, index, receiver's class, method, how many parameters -/
def LkV (own : String) (idx : Nat) (mi : MI) (n : Nat) : Prop := (∀ w ∈ ([.methodLink own idx mi.1, .instanceMethod mi.1, .selects mi.1.cls mi.1 mi.1, .initialized mi.1.cls] : List Cond), w ∈ ALL) ∧ goodY mi n
def LkS (own : String) (idx : Nat) (mi : MI) (n : Nat) : Prop := (∀ w ∈ ([.methodLink own idx mi.1, .static mi.1, .initialized mi.1.cls] : List Cond), w ∈ ALL) ∧ goodY mi n
def LkSN (own : String) (idx : Nat) (mi : MI) (n : Nat) (host : String) : Prop := ((own, idx, mi.1, host) ∈ nests ∧ ∀ w ∈ ([.static mi.1, .initialized mi.1.cls] : List Cond), w ∈ ALL) ∧ goodY mi n
def LkI (own : String) (idx : Nat) (mi : MI) (n : Nat) : Prop := (∀ w ∈ ([.methodLink own idx mi.1, .instanceMethod mi.1, .initialized mi.1.cls] : List Cond), w ∈ ALL) ∧ goodY mi n ∧ mi.1.name = "<init>" ∧ mi.2.2.2 = none
def LkIN (own : String) (idx : Nat) (mi : MI) (n : Nat) (host : String) : Prop := ((own, idx, mi.1, host) ∈ nests ∧ ∀ w ∈ ([.instanceMethod mi.1, .initialized mi.1.cls] : List Cond), w ∈ ALL) ∧ goodY mi n ∧ mi.1.name = "<init>" ∧ mi.2.2.2 = none
def tyL (cA : Nat → ClassId) : List (ClassId × FieldType) := [(cA 0, .int), (cA 1, .long), (cA 2, .boolean), (cA 3, .object "MoonOverTheHill$Shelf"), (cA 4, .array .int), (cA 5, .array .long)]
/-- a constant text: an object of String with these bytes -/
def StrOK (A : Nat → Prop) (U : State) (H : Heap) (a : Nat) (w : List Int32) : Prop := va_O "java/lang/String" a A U H ∧ va_OF "java/lang/String" "coder" "B" (.int 0) a A U H ∧ ∃ v : Nat, va_OF "java/lang/String" "value" "[B" (.ref v) a A U H ∧ va_T .byte v w.length (fun j => .int (w.getD j 0)) A U H
theorem StrOK.moved {A : Nat → Prop} {u U : State} {H : Heap} {a : Nat} {w : List Int32} (hvm : u.vm.Alike U.vm) (h : StrOK A u H a w) : StrOK A U H a w := by
  obtain ⟨h1, h2, v, h3, h4⟩ := h
  exact ⟨va_O.moved hvm h1, va_OF.moved hvm h2, v, va_OF.moved hvm h3, va_T.moved hvm h4⟩
theorem StrOK.kept {A : Nat → Prop} {U : State} {H H1 : Heap} {a : Nat} {w : List Int32} (h : StrOK A U H a w) (hq : ∀ a : Nat, a < H.size → ¬ A a → H1[a]? = H[a]?) : StrOK A U H1 a w := by
  obtain ⟨h1, h2, v, h3, h4⟩ := h
  exact ⟨h1.kept hq, h2.kept hq, v, h3.kept hq, h4.kept hq⟩
abbrev cN : String := "java/lang/String"
abbrev cP : String := "jdk/internal/util/Preconditions"
abbrev fP : String := "Ljava/util/function/BiFunction;"
/-- what the machine holds beside the worlds: the constant texts, two statics; nothing of it lies at bs or above -/
def StrE (bs : Nat) (U : State) (H : Heap) : Prop := (∀ q ∈ sites, ∃ a : Nat, vk_R q.1 q.2.1 q.2.2.1 a U ∧ StrOK (fun z => bs ≤ z) U H a q.2.2.2) ∧ va_Z cN "COMPACT_STRINGS" "Z" (.int 1) (fun z => bs ≤ z) U H ∧ va_Zq cP "SIOOBE_FORMATTER" fP (fun z => bs ≤ z) U H
theorem StrE.same {bs : Nat} {u U : State} {H : Heap} (hv : U.vm = u.vm) (h : StrE bs u H) : StrE bs U H := by
  have hvm : u.vm.Alike U.vm := by rw [hv]; exact Vm.Alike.refl u.vm
  refine ⟨fun q hq => ?_, va_Z.moved hvm h.2.1, va_Zq.moved hvm h.2.2⟩
  obtain ⟨a, h1, h2⟩ := h.1 q hq
  exact ⟨a, vk_R.same hv h1, h2.moved hvm⟩
theorem StrE.warm {bs : Nat} {s U : State} {H : Heap} (hW : s.WarmedH U.vm) (h : StrE bs s H) : StrE bs U H := by
  refine ⟨fun q hq => ?_, va_Z.moved hW.alike h.2.1, va_Zq.moved hW.alike h.2.2⟩
  obtain ⟨a, h1, h2⟩ := h.1 q hq
  exact ⟨a, vk_R.warm hW h1, h2.moved hW.alike⟩
theorem StrE.kept {bs : Nat} {U : State} {H H1 : Heap} (h : StrE bs U H) (hq : ∀ a : Nat, a < H.size → ¬ (bs ≤ a) → H1[a]? = H[a]?) : StrE bs U H1 := by
  refine ⟨fun q h0 => ?_, va_Z.kept h.2.1 hq, va_Zq.kept h.2.2 hq⟩
  obtain ⟨a, h1, h2⟩ := h.1 q h0
  exact ⟨a, h1, h2.kept hq⟩
/-- links of nest mates: no words that go from caller to callee by themselves -/
def NN (U : State) : Prop := ∀ q ∈ nests, va_Nw (.methodLinkNest q.1 q.2.1 q.2.2.1 q.2.2.2) U
/-- what every method takes for granted; cA 9 is the base: worlds lie there and above -/
abbrev KK (D : va_G) (cA : Nat → ClassId) (U : State) : Prop := va_K D vwCl (tyL cA) U ∧ NN U ∧ StrE (cA 9) U U.heap ∧ cA 9 ≤ U.heap.size
theorem KK.call {D : va_G} {cA : Nat → ClassId} {U : State} {g : JFrame} {mk : MethodId} {a : Array Value} (h : KK D cA U) : KK D cA (U.calling g mk a) := ⟨va_K.moved (u := U) (U := U.calling g mk a) (Vm.Alike.refl U.vm) h.1, fun q hq => va_Nw.same (u := U) (U := U.calling g mk a) rfl rfl (h.2.1 q hq), StrE.same (u := U) (U := U.calling g mk a) rfl h.2.2.1, h.2.2.2⟩
theorem keptB {A : Nat → Prop} {H0 H : Heap} {locs : List Loc} {bs : Nat} (hS : va_S A H0 H locs) (hAb : ∀ q, A q → bs ≤ q) : ∀ a : Nat, a < H0.size → ¬ (bs ≤ a) → H[a]? = H0[a]? := fun a h1 h2 => hS.2.1 a h1 (fun z => h2 (hAb a z))
theorem KK.at {D : va_G} {cA : Nat → ClassId} {s U : State} {A : Nat → Prop} {H : Heap} {locs : List Loc} (h : KK D cA s) (hS : va_S A s.heap H locs) (hAb : ∀ q, A q → cA 9 ≤ q) (hU : U.heap = H) (hW : s.WarmedH U.vm) : KK D cA U :=
  ⟨va_K.moved hW.alike h.1, fun q hq => va_Nw.warmM hW (h.2.1 q hq), by rw [hU]; exact (h.2.2.1.kept (keptB hS hAb)).warm hW, by rw [hU]; exact Nat.le_trans h.2.2.2 hS.1⟩
abbrev rmOf (d mc ms : Nat) : Room := { frames := d, cells := mc, slots := ms, locals := 35 * d }
def roQ (v : Option Value) : Array Value → State → Outcome → State → Prop := fun _ st o t => o = .returned v ∧ t.heap = st.heap
def RO (mi : MI) (d : Nat) (D : va_G) (cA : Nat → ClassId) (av : List Value) (ws : va_W) (v : Option Value) : Prop := ∀ l : Launch, Met l mi.1 (wk mi) (rmOf d 0 0) (va_Pc av (fun U => va_P D vwCl ws U.heap ∧ KK D cA U)) (roQ v) 0 0 (fun _ => False)
def rwQ (D : va_G) (A : Nat → Prop) (post : Option Value → va_W → Prop) : Array Value → State → Outcome → State → Prop := fun _ st o t => (∃ v ws', o = .returned v ∧ post v ws' ∧ va_P D vwCl ws' t.heap ∧ va_D A ws') ∧ va_F A st t
def RW (mi : MI) (d mc ms : Nat) (D : va_G) (cA : Nat → ClassId) (av : List Value) (ws : va_W) (post : Option Value → va_W → Prop) : Prop := ∀ (l : Launch) (sz : Nat), Met l mi.1 (wk mi) (rmOf d mc ms) (va_Pc av (fun U => U.heap.size = sz ∧ va_P D vwCl ws U.heap ∧ KK D cA U ∧ va_D (fun q => cA 9 ≤ q) ws)) (rwQ D (va_A ws sz) post) mc ms (va_A ws sz)
theorem RO.ofW {mi : MI} {d : Nat} {D : va_G} {cA : Nat → ClassId} {av : List Value} {ws : va_W} {v : Option Value} (hy : plainFor mi.1 = true) (hn : (lg_sl av).length ≤ mi.2.2.1)
    (body : ∀ (l : Launch) (p : Program) (e : Env) (s : State) (m : MethodId) (below : List Frame) (meth : Method) (c : Code), CallFix p m c mi.2.1 mi.2.2.1 s av.toArray ALL mi.1.cls → meth.sig.returnType = mi.2.2.2 → meth.locks = false → KK D cA s → va_P D vwCl ws s.heap → va_S (fun _ => False) s.heap s.heap [] → (∀ q : Nat, False → cA 9 ≤ q) → ∀ ls, lv_has ls mi.2.2.1 (lv_args 0 av) → W p l e (rmOf d 0 0) s m av.toArray below meth c s.heap [] 0 0 (MQ below (roQ v) av.toArray s 0 0 (fun _ => False)) (F0 m 0 ls [])) : RO mi d D cA av ws v := by
  intro l
  refine va_MetF (cc := mi.2.1) (maxL := mi.2.2.1) (ret := mi.2.2.2) hy rfl ?_
  intro p e s m args' below meth c s₁ B hml hv
  obtain ⟨rfl, hP, hK⟩ := hv
  have hts := atoms_spec (ws := wk mi) B.pre
  rw [lg_entry_eq]
  exact body l p e s m below meth c ⟨B.exec, B.bytes, hml, findClass_of_methodNamed B.named, fun w hw => hts w (List.mem_cons_of_mem _ hw)⟩ B.returns B.notSynchronized hK hP va_S.rf (fun _ h => h.elim) _ (lv_entry av hn)
theorem RW.ofW {mi : MI} {d mc ms : Nat} {D : va_G} {cA : Nat → ClassId} {av : List Value} {ws : va_W} {post : Option Value → va_W → Prop} (hy : plainFor mi.1 = true) (hn : (lg_sl av).length ≤ mi.2.2.1)
    (body : ∀ (l : Launch) (p : Program) (e : Env) (s : State) (m : MethodId) (below : List Frame) (meth : Method) (c : Code) (A : Nat → Prop) (H : Heap) (locs : List Loc), CallFix p m c mi.2.1 mi.2.2.1 s av.toArray ALL mi.1.cls → meth.sig.returnType = mi.2.2.2 → meth.locks = false → meth.name = mi.1.name → KK D cA s → va_P D vwCl ws H → va_D A ws → va_S A s.heap H locs → (∀ q, s.heap.size ≤ q → A q) → (∀ q, A q → cA 9 ≤ q) → ∀ ls, lv_has ls mi.2.2.1 (lv_args 0 av) → W p l e (rmOf d mc ms) s m av.toArray below meth c H locs 0 0 (MQ below (rwQ D A post) av.toArray s mc ms A) (F0 m 0 ls [])) : RW mi d mc ms D cA av ws post := by
  intro l sz
  refine va_MetF (cc := mi.2.1) (maxL := mi.2.2.1) (ret := mi.2.2.2) hy rfl ?_
  intro p e s m args' below meth c s₁ B hml hv
  obtain ⟨rfl, hsz, hP, hK, hD0⟩ := hv
  have hts := atoms_spec (ws := wk mi) B.pre
  have hnm : meth.name = mi.1.name := (name_of_methodNamed B.named B.method).1
  subst hsz
  have hD := hD0.self (sz := s.heap.size)
  rw [lg_entry_eq]
  have hF : CallFix p m c mi.2.1 mi.2.2.1 s av.toArray ALL mi.1.cls := ⟨B.exec, B.bytes, hml, findClass_of_methodNamed B.named, fun w hw => hts w (List.mem_cons_of_mem _ hw)⟩
  have hA : ∀ q, s.heap.size ≤ q → va_A ws s.heap.size q := fun q h => Or.inr h
  have hAb : ∀ q, va_A ws s.heap.size q → cA 9 ≤ q := by
    rintro q (⟨k, e, h⟩ | h)
    · exact hD0.2 k _ h
    · exact Nat.le_trans hK.2.2.2 h
  have hl := lv_entry av hn
  generalize (lg_sl av ++ List.replicate (mi.2.2.1 - (lg_sl av).length) Slot.unset).toArray = ls at hl ⊢
  have hr := B.returns
  have hs := B.notSynchronized
  clear B hts hn hy hml
  generalize va_A ws s.heap.size = A at hA hAb hD ⊢
  exact body l p e s m below meth c A s.heap [] hF hr hs hnm hK hP hD va_S.rf hA hAb ls hl
/-- decoding, out of a method's table -/
theorem dd {cc : ByteArray} {T : List (Nat × ClassFile.Instr × Nat)} (hT : T.all (fun q => decide (decode cc q.1 = .ok q.2)) = true) (i : Nat) {pc len : Nat} {ins : ClassFile.Instr} (h : T[i]? = some (pc, ins, len)) : decode cc pc = .ok (ins, len) := by
  have h1 := List.all_eq_true.mp hT _ (List.mem_of_getElem? h)
  rw [decide_eq_true_iff] at h1
  exact h1
def bI (b : Bool) : Int32 := if b then 1 else 0
theorem bI_0 {b : Bool} (h : bI b = 0) : b = false := by cases b <;> first | rfl | exact absurd h (by decide)
theorem bI_1 {b : Bool} (h : ¬ bI b = 0) : b = true := by cases b <;> first | rfl | exact absurd rfl h
theorem bI_nar (b : Bool) : narrow .boolean (.int (bI b)) = .int (bI b) := by cases b <;> rfl
def jrem (x y : Int32) : Int32 := x - x / y * y
def inb (i : Int32) (n : Nat) : Bool := decide (¬ (i < 0 ∨ n ≤ i.toNatClampNeg))
theorem inb_in {i : Int32} {n : Nat} (h : inb i n = true) : vp_in i n := by unfold vp_in; exact of_decide_eq_true h
/-- a guard -/
def gd {α : Type} (b : Bool) (k : Option α) : Option α := match b with
  | true => k
  | false => none
theorem gd_some {α : Type} {b : Bool} {k : Option α} {r : α} (h : gd b k = some r) : b = true ∧ k = some r := by cases b with
  | true => exact ⟨rfl, h⟩
  | false => cases h
/-- a choice on a boolean that is known as data -/
def bf {α : Sort _} (b : Bool) (x y : α) : α := match b with
  | true => x
  | false => y
section XR
variable {p : Program} {l : Launch} {e : Env} {R : Room} {s : State} {m : MethodId} {args : Array Value} {below : List Frame} {meth : Method} {c : Code} {H : Heap} {locs : List Loc} {cells slots : Nat} {Q : State → Prop}
variable {cc : ByteArray} {pc nL : Nat} {ls : Array Slot} {rest : List Value} {own : String} {α : Type}
theorem x_irem (hx : p.tables.exec = Jvm.exec) (hb : c.code = cc) {x y : Int32} (hdg : decode cc pc = .ok (.irem, 1)) (hne : ¬ y = 0) (k : W p l e R s m args below meth c H locs cells slots Q (F0 m (pc + 1) ls (.int (jrem x y) :: rest))) : W p l e R s m args below meth c H locs cells slots Q (F0 m pc ls (.int y :: .int x :: rest)) := lv_irem hx hb hdg hne k
theorem x_if_eq {A B ρ : α} (hx : p.tables.exec = Jvm.exec) (hb : c.code = cc) {x : Int32} {off : Int} {tgt : Nat} (hdg : decode cc pc = .ok (.ifCond .eq off, 3)) (ht : (pc : Int) + off = (tgt : Int)) (h : (if x = 0 then A else B) = ρ) (kt : x = 0 → A = ρ → W p l e R s m args below meth c H locs cells slots Q (F0 m tgt ls rest)) (kf : ¬ x = 0 → B = ρ → W p l e R s m args below meth c H locs cells slots Q (F0 m (pc + 3) ls rest)) : W p l e R s m args below meth c H locs cells slots Q (F0 m pc ls (.int x :: rest)) := lv_if_eq hx hb hdg ht (fun q => kt q (by rw [if_pos q] at h; exact h)) (fun q => kf q (by rw [if_neg q] at h; exact h))
theorem x_if_ne {A B ρ : α} (hx : p.tables.exec = Jvm.exec) (hb : c.code = cc) {x : Int32} {off : Int} {tgt : Nat} (hdg : decode cc pc = .ok (.ifCond .ne off, 3)) (ht : (pc : Int) + off = (tgt : Int)) (h : (if x = 0 then B else A) = ρ) (kt : ¬ x = 0 → A = ρ → W p l e R s m args below meth c H locs cells slots Q (F0 m tgt ls rest)) (kf : x = 0 → B = ρ → W p l e R s m args below meth c H locs cells slots Q (F0 m (pc + 3) ls rest)) : W p l e R s m args below meth c H locs cells slots Q (F0 m pc ls (.int x :: rest)) := lv_if_ne hx hb hdg ht (fun q => kt q (by rw [if_neg q] at h; exact h)) (fun q => kf q (by rw [if_pos q] at h; exact h))
theorem x_if_lt {A B ρ : α} (hx : p.tables.exec = Jvm.exec) (hb : c.code = cc) {x : Int32} {off : Int} {tgt : Nat} (hdg : decode cc pc = .ok (.ifCond .lt off, 3)) (ht : (pc : Int) + off = (tgt : Int)) (h : (if x < 0 then A else B) = ρ) (kt : x < 0 → A = ρ → W p l e R s m args below meth c H locs cells slots Q (F0 m tgt ls rest)) (kf : ¬ x < 0 → B = ρ → W p l e R s m args below meth c H locs cells slots Q (F0 m (pc + 3) ls rest)) : W p l e R s m args below meth c H locs cells slots Q (F0 m pc ls (.int x :: rest)) := lv_if_lt hx hb hdg ht (fun q => kt q (by rw [if_pos q] at h; exact h)) (fun q => kf q (by rw [if_neg q] at h; exact h))
theorem x_if_ge {A B ρ : α} (hx : p.tables.exec = Jvm.exec) (hb : c.code = cc) {x : Int32} {off : Int} {tgt : Nat} (hdg : decode cc pc = .ok (.ifCond .ge off, 3)) (ht : (pc : Int) + off = (tgt : Int)) (h : (if 0 ≤ x then A else B) = ρ) (kt : 0 ≤ x → A = ρ → W p l e R s m args below meth c H locs cells slots Q (F0 m tgt ls rest)) (kf : ¬ 0 ≤ x → B = ρ → W p l e R s m args below meth c H locs cells slots Q (F0 m (pc + 3) ls rest)) : W p l e R s m args below meth c H locs cells slots Q (F0 m pc ls (.int x :: rest)) := lv_if_ge hx hb hdg ht (fun q => kt q (by rw [if_pos q] at h; exact h)) (fun q => kf q (by rw [if_neg q] at h; exact h))
theorem x_if_gt {A B ρ : α} (hx : p.tables.exec = Jvm.exec) (hb : c.code = cc) {x : Int32} {off : Int} {tgt : Nat} (hdg : decode cc pc = .ok (.ifCond .gt off, 3)) (ht : (pc : Int) + off = (tgt : Int)) (h : (if 0 < x then A else B) = ρ) (kt : 0 < x → A = ρ → W p l e R s m args below meth c H locs cells slots Q (F0 m tgt ls rest)) (kf : ¬ 0 < x → B = ρ → W p l e R s m args below meth c H locs cells slots Q (F0 m (pc + 3) ls rest)) : W p l e R s m args below meth c H locs cells slots Q (F0 m pc ls (.int x :: rest)) := lv_if_gt hx hb hdg ht (fun q => kt q (by rw [if_pos q] at h; exact h)) (fun q => kf q (by rw [if_neg q] at h; exact h))
theorem x_if_le {A B ρ : α} (hx : p.tables.exec = Jvm.exec) (hb : c.code = cc) {x : Int32} {off : Int} {tgt : Nat} (hdg : decode cc pc = .ok (.ifCond .le off, 3)) (ht : (pc : Int) + off = (tgt : Int)) (h : (if x ≤ 0 then A else B) = ρ) (kt : x ≤ 0 → A = ρ → W p l e R s m args below meth c H locs cells slots Q (F0 m tgt ls rest)) (kf : ¬ x ≤ 0 → B = ρ → W p l e R s m args below meth c H locs cells slots Q (F0 m (pc + 3) ls rest)) : W p l e R s m args below meth c H locs cells slots Q (F0 m pc ls (.int x :: rest)) := lv_if_le hx hb hdg ht (fun q => kt q (by rw [if_pos q] at h; exact h)) (fun q => kf q (by rw [if_neg q] at h; exact h))
theorem x_bif_eq {b : Bool} {A B ρ : α} (hx : p.tables.exec = Jvm.exec) (hb : c.code = cc) {off : Int} {tgt : Nat} (hdg : decode cc pc = .ok (.ifCond .eq off, 3)) (ht : (pc : Int) + off = (tgt : Int)) (h : bf b B A = ρ) (kt : b = false → A = ρ → W p l e R s m args below meth c H locs cells slots Q (F0 m tgt ls rest)) (kf : b = true → B = ρ → W p l e R s m args below meth c H locs cells slots Q (F0 m (pc + 3) ls rest)) : W p l e R s m args below meth c H locs cells slots Q (F0 m pc ls (.int (bI b) :: rest)) := lv_if_eq hx hb hdg ht (fun q => kt (bI_0 q) (by rw [bI_0 q] at h; exact h)) (fun q => kf (bI_1 q) (by rw [bI_1 q] at h; exact h))
theorem x_bif_ne {b : Bool} {A B ρ : α} (hx : p.tables.exec = Jvm.exec) (hb : c.code = cc) {off : Int} {tgt : Nat} (hdg : decode cc pc = .ok (.ifCond .ne off, 3)) (ht : (pc : Int) + off = (tgt : Int)) (h : bf b A B = ρ) (kt : b = true → A = ρ → W p l e R s m args below meth c H locs cells slots Q (F0 m tgt ls rest)) (kf : b = false → B = ρ → W p l e R s m args below meth c H locs cells slots Q (F0 m (pc + 3) ls rest)) : W p l e R s m args below meth c H locs cells slots Q (F0 m pc ls (.int (bI b) :: rest)) := lv_if_ne hx hb hdg ht (fun q => kt (bI_1 q) (by rw [bI_1 q] at h; exact h)) (fun q => kf (bI_0 q) (by rw [bI_0 q] at h; exact h))
theorem x_icmp_eq {A B ρ : α} (hx : p.tables.exec = Jvm.exec) (hb : c.code = cc) {x y : Int32} {off : Int} {tgt : Nat} (hdg : decode cc pc = .ok (.if_icmp .eq off, 3)) (ht : (pc : Int) + off = (tgt : Int)) (h : (if x = y then A else B) = ρ) (kt : x = y → A = ρ → W p l e R s m args below meth c H locs cells slots Q (F0 m tgt ls rest)) (kf : ¬ x = y → B = ρ → W p l e R s m args below meth c H locs cells slots Q (F0 m (pc + 3) ls rest)) : W p l e R s m args below meth c H locs cells slots Q (F0 m pc ls (.int y :: .int x :: rest)) := lv_icmp_eq hx hb hdg ht (fun q => kt q (by rw [if_pos q] at h; exact h)) (fun q => kf q (by rw [if_neg q] at h; exact h))
theorem x_icmp_ne {A B ρ : α} (hx : p.tables.exec = Jvm.exec) (hb : c.code = cc) {x y : Int32} {off : Int} {tgt : Nat} (hdg : decode cc pc = .ok (.if_icmp .ne off, 3)) (ht : (pc : Int) + off = (tgt : Int)) (h : (if x = y then B else A) = ρ) (kt : ¬ x = y → A = ρ → W p l e R s m args below meth c H locs cells slots Q (F0 m tgt ls rest)) (kf : x = y → B = ρ → W p l e R s m args below meth c H locs cells slots Q (F0 m (pc + 3) ls rest)) : W p l e R s m args below meth c H locs cells slots Q (F0 m pc ls (.int y :: .int x :: rest)) := lv_icmp_ne hx hb hdg ht (fun q => kt q (by rw [if_neg q] at h; exact h)) (fun q => kf q (by rw [if_pos q] at h; exact h))
theorem x_icmp_lt {A B ρ : α} (hx : p.tables.exec = Jvm.exec) (hb : c.code = cc) {x y : Int32} {off : Int} {tgt : Nat} (hdg : decode cc pc = .ok (.if_icmp .lt off, 3)) (ht : (pc : Int) + off = (tgt : Int)) (h : (if x < y then A else B) = ρ) (kt : x < y → A = ρ → W p l e R s m args below meth c H locs cells slots Q (F0 m tgt ls rest)) (kf : ¬ x < y → B = ρ → W p l e R s m args below meth c H locs cells slots Q (F0 m (pc + 3) ls rest)) : W p l e R s m args below meth c H locs cells slots Q (F0 m pc ls (.int y :: .int x :: rest)) := lv_icmp_lt hx hb hdg ht (fun q => kt q (by rw [if_pos q] at h; exact h)) (fun q => kf q (by rw [if_neg q] at h; exact h))
theorem x_icmp_ge {A B ρ : α} (hx : p.tables.exec = Jvm.exec) (hb : c.code = cc) {x y : Int32} {off : Int} {tgt : Nat} (hdg : decode cc pc = .ok (.if_icmp .ge off, 3)) (ht : (pc : Int) + off = (tgt : Int)) (h : (if y ≤ x then A else B) = ρ) (kt : y ≤ x → A = ρ → W p l e R s m args below meth c H locs cells slots Q (F0 m tgt ls rest)) (kf : ¬ y ≤ x → B = ρ → W p l e R s m args below meth c H locs cells slots Q (F0 m (pc + 3) ls rest)) : W p l e R s m args below meth c H locs cells slots Q (F0 m pc ls (.int y :: .int x :: rest)) := lv_icmp_ge hx hb hdg ht (fun q => kt q (by rw [if_pos q] at h; exact h)) (fun q => kf q (by rw [if_neg q] at h; exact h))
theorem x_icmp_gt {A B ρ : α} (hx : p.tables.exec = Jvm.exec) (hb : c.code = cc) {x y : Int32} {off : Int} {tgt : Nat} (hdg : decode cc pc = .ok (.if_icmp .gt off, 3)) (ht : (pc : Int) + off = (tgt : Int)) (h : (if y < x then A else B) = ρ) (kt : y < x → A = ρ → W p l e R s m args below meth c H locs cells slots Q (F0 m tgt ls rest)) (kf : ¬ y < x → B = ρ → W p l e R s m args below meth c H locs cells slots Q (F0 m (pc + 3) ls rest)) : W p l e R s m args below meth c H locs cells slots Q (F0 m pc ls (.int y :: .int x :: rest)) := lv_icmp_gt hx hb hdg ht (fun q => kt q (by rw [if_pos q] at h; exact h)) (fun q => kf q (by rw [if_neg q] at h; exact h))
theorem x_icmp_le {A B ρ : α} (hx : p.tables.exec = Jvm.exec) (hb : c.code = cc) {x y : Int32} {off : Int} {tgt : Nat} (hdg : decode cc pc = .ok (.if_icmp .le off, 3)) (ht : (pc : Int) + off = (tgt : Int)) (h : (if x ≤ y then A else B) = ρ) (kt : x ≤ y → A = ρ → W p l e R s m args below meth c H locs cells slots Q (F0 m tgt ls rest)) (kf : ¬ x ≤ y → B = ρ → W p l e R s m args below meth c H locs cells slots Q (F0 m (pc + 3) ls rest)) : W p l e R s m args below meth c H locs cells slots Q (F0 m pc ls (.int y :: .int x :: rest)) := lv_icmp_le hx hb hdg ht (fun q => kt q (by rw [if_pos q] at h; exact h)) (fun q => kf q (by rw [if_neg q] at h; exact h))
/-- fields -/
def LkF (own : String) (idx ci k : Nat) : Prop := ∃ (C : String) (T : u_T) (N : Nat), vwCl[ci]? = some (C, T, N) ∧ (∀ w ∈ u_ws C T N, w ∈ ALL) ∧ k < N ∧ Cond.fieldLink own idx (T k).1 (T k).2.1 (T k).2.2.1 ∈ ALL
def LkP (own : String) (idx ci k : Nat) (fin : Bool) (ty : FieldType) : Prop := ∃ (C : String) (T : u_T) (N : Nat) (t0 : Nat → FieldType), vwCl[ci]? = some (C, T, N) ∧ (∀ w ∈ u_ws C T N, w ∈ ALL) ∧ k < N ∧ Cond.fieldLink own idx (T k).1 (T k).2.1 (T k).2.2.1 ∈ ALL ∧ (∀ k, k < N → parseFieldDescriptor (T k).2.2.1 = some (t0 k)) ∧ (∀ a, a < N → ∀ b, b < N → a ≠ b → (T a).2.1 ≠ (T b).2.1) ∧ (T k).2.2.2 = fin ∧ parseFieldDescriptor (T k).2.2.1 = some ty ∧ (fin = true → (T k).1 = own)
variable {D : va_G} {cA : Nat → ClassId} {A : Nat → Prop} {a : Nat} {ws : va_W} {H0 : Heap} {idx ci k : Nat} {fs : List Value} {v : Value}
theorem getF (F : CallFix p m c cc nL s args ALL own) (hK : KK D cA s) (hP : va_P D vwCl ws H) (G : LkF own idx ci k) (q0 : Nat) (he : ws[q0]? = some (a, .inr (ci, fs))) (hv : fs[k]? = some v) (hdg : decode cc pc = .ok (.getfield idx, 3)) (kk : W p l e R s m args below meth c H locs cells slots Q (F0 m (pc + 3) ls (v :: rest))) : W p l e R s m args below meth c H locs cells slots Q (F0 m pc ls (.ref a :: rest)) := by
  obtain ⟨C, T, N, h1, h2, h3, h4⟩ := G
  exact va_get F.1 F.2.1 F.2.2.2.2 h2 F.2.2.2.1 hK.1 hP q0 he h1 k h3 (F.2.2.2.2 _ h4) (fun _ q => q) hv hdg kk
theorem putF {ty : FieldType} (F : CallFix p m c cc nL s args ALL own) (hK : KK D cA s) (hP : va_P D vwCl ws H) (hD : va_D A ws) (hS : va_S A H0 H locs) (G : LkP own idx ci k false ty) (q0 : Nat) (he : ws[q0]? = some (a, .inr (ci, fs))) (hl : k < fs.length) (hn : narrow ty v = v) (hfit : fits ty v = true) {ws' : va_W} (hw : ws.set q0 (a, .inr (ci, fs.set k v)) = ws') (hdg : decode cc pc = .ok (.putfield idx, 3))
    (kk : ∀ (H1 : Heap) (locs1 : List Loc), va_P D vwCl ws' H1 → va_D A ws' → va_S A H0 H1 locs1 → W p l e R s m args below meth c H1 locs1 cells slots Q (F0 m (pc + 3) ls rest)) : W p l e R s m args below meth c H locs cells slots Q (F0 m pc ls (v :: .ref a :: rest)) := by
  obtain ⟨C, T, N, t0, h1, h2, h3, h4, h5, h6, h7, h8, -⟩ := G
  subst hw
  exact va_put F.1 F.2.1 F.2.2.2.2 h2 t0 h5 h6 F.2.2.2.1 hK.1 hP hD hS q0 he h1 k h3 (F.2.2.2.2 _ h4) (fun _ q => q) h7 h8 hn hfit hl hdg kk
theorem putFF {ty : FieldType} (F : CallFix p m c cc nL s args ALL own) (hnm : meth.name = "<init>") (hK : KK D cA s) (hP : va_P D vwCl ws H) (hD : va_D A ws) (hS : va_S A H0 H locs) (G : LkP own idx ci k true ty) (q0 : Nat) (he : ws[q0]? = some (a, .inr (ci, fs))) (hl : k < fs.length) (hn : narrow ty v = v) (hfit : fits ty v = true) {ws' : va_W} (hw : ws.set q0 (a, .inr (ci, fs.set k v)) = ws') (hdg : decode cc pc = .ok (.putfield idx, 3))
    (kk : ∀ (H1 : Heap) (locs1 : List Loc), va_P D vwCl ws' H1 → va_D A ws' → va_S A H0 H1 locs1 → W p l e R s m args below meth c H1 locs1 cells slots Q (F0 m (pc + 3) ls rest)) : W p l e R s m args below meth c H locs cells slots Q (F0 m pc ls (v :: .ref a :: rest)) := by
  obtain ⟨C, T, N, t0, h1, h2, h3, h4, h5, h6, h7, h8, h9⟩ := G
  subst hw
  exact va_putF F.1 F.2.1 F.2.2.2.2 h2 t0 h5 h6 F.2.2.2.1 hK.1 hP hD hS q0 he h1 k h3 (F.2.2.2.2 _ h4) (fun _ q => q) h7 hnm (h9 rfl) h8 hn hfit hl hdg kk
/-- arrays -/
theorem aldI {n : Nat} {f : Nat → Int32} {i : Int32} {r : α} {K : Option α} (F : CallFix p m c cc nL s args ALL own) (hK : KK D cA s) (hP : va_P D vwCl ws H) (q0 : Nat) (ha : ws[q0]? = some (a, .inl (cA 0, n, .inl f))) (h : gd (inb i n) K = some r) (hdg : decode cc pc = .ok (.iaload, 1))
    (kk : inb i n = true → K = some r → W p l e R s m args below meth c H locs cells slots Q (F0 m (pc + 1) ls (.int (f i.toNatClampNeg) :: rest))) : W p l e R s m args below meth c H locs cells slots Q (F0 m pc ls (.int i :: .ref a :: rest)) :=
  va_iald F.1 F.2.1 hK.1 hP q0 0 ha rfl (inb_in (gd_some h).1) hdg (kk (gd_some h).1 (gd_some h).2)
theorem aldL {n : Nat} {f : Nat → Int64} {i : Int32} {r : α} {K : Option α} (F : CallFix p m c cc nL s args ALL own) (hK : KK D cA s) (hP : va_P D vwCl ws H) (q0 : Nat) (ha : ws[q0]? = some (a, .inl (cA 1, n, .inr (.inl f)))) (h : gd (inb i n) K = some r) (hdg : decode cc pc = .ok (.laload, 1))
    (kk : inb i n = true → K = some r → W p l e R s m args below meth c H locs cells slots Q (F0 m (pc + 1) ls (.long (f i.toNatClampNeg) :: rest))) : W p l e R s m args below meth c H locs cells slots Q (F0 m pc ls (.int i :: .ref a :: rest)) :=
  va_lald F.1 F.2.1 hK.1 hP q0 1 ha rfl (inb_in (gd_some h).1) hdg (kk (gd_some h).1 (gd_some h).2)
theorem aldZ {n : Nat} {f : Nat → Int32} {i : Int32} {r : α} {K : Option α} (F : CallFix p m c cc nL s args ALL own) (hK : KK D cA s) (hP : va_P D vwCl ws H) (q0 : Nat) (ha : ws[q0]? = some (a, .inl (cA 2, n, .inl f))) (h : gd (inb i n) K = some r) (hdg : decode cc pc = .ok (.baload, 1))
    (kk : inb i n = true → K = some r → W p l e R s m args below meth c H locs cells slots Q (F0 m (pc + 1) ls (.int (f i.toNatClampNeg) :: rest))) : W p l e R s m args below meth c H locs cells slots Q (F0 m pc ls (.int i :: .ref a :: rest)) :=
  va_zald F.1 F.2.1 hK.1 hP q0 2 ha rfl (inb_in (gd_some h).1) hdg (kk (gd_some h).1 (gd_some h).2)
theorem alen {x : vp_A} {ty : FieldType} {cy : ClassId} (F : CallFix p m c cc nL s args ALL own) (hK : KK D cA s) (hP : va_P D vwCl ws H) (q0 t0 : Nat) (ha : ws[q0]? = some (a, .inl (cy, x))) (ht : (tyL cA)[t0]? = some (cy, ty)) {v : Int32} (hv : Int32.ofNat x.1 = v) (hdg : decode cc pc = .ok (.arraylength, 1))
    (kk : W p l e R s m args below meth c H locs cells slots Q (F0 m (pc + 1) ls (.int v :: rest))) : W p l e R s m args below meth c H locs cells slots Q (F0 m pc ls (.ref a :: rest)) :=
  va_alen F.1 F.2.1 hK.1 hP q0 t0 ha ht hv hdg kk
theorem astI {n : Nat} {f : Nat → Int32} {i x : Int32} {r : α} {K : Option α} (F : CallFix p m c cc nL s args ALL own) (hK : KK D cA s) (hP : va_P D vwCl ws H) (hD : va_D A ws) (hS : va_S A H0 H locs) (q0 : Nat) (ha : ws[q0]? = some (a, .inl (cA 0, n, .inl f))) (h : gd (inb i n) K = some r) {ws' : va_W} (hw : ws.set q0 (a, .inl (cA 0, n, .inl (upd f i.toNatClampNeg x))) = ws') (hdg : decode cc pc = .ok (.iastore, 1))
    (kk : inb i n = true → K = some r → ∀ (H1 : Heap) (locs1 : List Loc), va_P D vwCl ws' H1 → va_D A ws' → va_S A H0 H1 locs1 → W p l e R s m args below meth c H1 locs1 cells slots Q (F0 m (pc + 1) ls rest)) : W p l e R s m args below meth c H locs cells slots Q (F0 m pc ls (.int x :: .int i :: .ref a :: rest)) := by
  subst hw
  exact va_iast F.1 F.2.1 hK.1 hP hD hS q0 0 ha rfl (inb_in (gd_some h).1) hdg (kk (gd_some h).1 (gd_some h).2)
theorem astZ {n : Nat} {f : Nat → Int32} {i x : Int32} {r : α} {K : Option α} (F : CallFix p m c cc nL s args ALL own) (hK : KK D cA s) (hP : va_P D vwCl ws H) (hD : va_D A ws) (hS : va_S A H0 H locs) (q0 : Nat) (ha : ws[q0]? = some (a, .inl (cA 2, n, .inl f))) (h : gd (inb i n) K = some r) {ws' : va_W} (hw : ws.set q0 (a, .inl (cA 2, n, .inl (upd f i.toNatClampNeg (vp_nar .boolean x)))) = ws') (hdg : decode cc pc = .ok (.bastore, 1))
    (kk : inb i n = true → K = some r → ∀ (H1 : Heap) (locs1 : List Loc), va_P D vwCl ws' H1 → va_D A ws' → va_S A H0 H1 locs1 → W p l e R s m args below meth c H1 locs1 cells slots Q (F0 m (pc + 1) ls rest)) : W p l e R s m args below meth c H locs cells slots Q (F0 m pc ls (.int x :: .int i :: .ref a :: rest)) := by
  subst hw
  exact va_zast F.1 F.2.1 hK.1 hP hD hS q0 2 ha rfl (inb_in (gd_some h).1) hdg (kk (gd_some h).1 (gd_some h).2)
theorem astL {n : Nat} {f : Nat → Int64} {i : Int32} {x : Int64} {r : α} {K : Option α} (F : CallFix p m c cc nL s args ALL own) (hK : KK D cA s) (hP : va_P D vwCl ws H) (hD : va_D A ws) (hS : va_S A H0 H locs) (q0 : Nat) (ha : ws[q0]? = some (a, .inl (cA 1, n, .inr (.inl f)))) (h : gd (inb i n) K = some r) {ws' : va_W} (hw : ws.set q0 (a, .inl (cA 1, n, .inr (.inl (vp_updL f i.toNatClampNeg x)))) = ws') (hdg : decode cc pc = .ok (.lastore, 1))
    (kk : inb i n = true → K = some r → ∀ (H1 : Heap) (locs1 : List Loc), va_P D vwCl ws' H1 → va_D A ws' → va_S A H0 H1 locs1 → W p l e R s m args below meth c H1 locs1 cells slots Q (F0 m (pc + 1) ls rest)) : W p l e R s m args below meth c H locs cells slots Q (F0 m pc ls (.long x :: .int i :: .ref a :: rest)) := by
  subst hw
  exact va_last F.1 F.2.1 hK.1 hP hD hS q0 1 ha rfl (inb_in (gd_some h).1) hdg (kk (gd_some h).1 (gd_some h).2)
end XR
section XC
variable {p : Program} {l : Launch} {e : Env} {s : State} {m : MethodId} {args : Array Value} {below : List Frame} {meth : Method} {c : Code} {H : Heap} {locs : List Loc} {cells slots : Nat} {Q : State → Prop}
variable {cc : ByteArray} {pc nL : Nat} {ls : Array Slot} {rest st : List Value} {own : String} {D : va_G} {cA : Nat → ClassId} {A : Nat → Prop} {ws wc : va_W} {H0 : Heap}
variable {mi : MI} {d d' mc ms mcR msR n idx b : Nat} {As av : List Value} {v : Option Value} {Pc : Array Value → State → Prop} {Qc : Array Value → State → Outcome → State → Prop} {free : Addr → Prop} {lv : List (Nat × Value)}
def PreC (s : State) (H : Heap) (Pc : Array Value → State → Prop) (av : List Value) : Prop := FrameBlind Pc ∧ ∀ U : State, U.heap = H → s.WarmedH U.vm → Pc av.toArray U
theorem preRO (hK : KK D cA s) (hS : va_S A s.heap H locs) (hAb : ∀ q, A q → cA 9 ≤ q) (hP : va_P D vwCl wc H) : PreC s H (va_Pc av (fun U => va_P D vwCl wc U.heap ∧ KK D cA U)) av :=
  ⟨fun a U g mk q => by obtain ⟨q0, qP, qK⟩ := q; exact ⟨q0, qP, qK.call⟩, fun U hU hW => ⟨rfl, by rw [hU]; exact hP, hK.at hS hAb hU hW⟩⟩
theorem preRW (hK : KK D cA s) (hS : va_S A s.heap H locs) (hAb : ∀ q, A q → cA 9 ≤ q) (hP : va_P D vwCl wc H) (hD : va_D A wc) : PreC s H (va_Pc av (fun U => U.heap.size = H.size ∧ va_P D vwCl wc U.heap ∧ KK D cA U ∧ va_D (fun q => cA 9 ≤ q) wc)) av :=
  ⟨fun a U g mk q => by obtain ⟨q0, q1, qP, qK, qD⟩ := q; exact ⟨q0, q1, qP, qK.call, qD⟩, fun U hU hW => ⟨rfl, by rw [hU], by rw [hU]; exact hP, hK.at hS hAb hU hW, hD.weaken (fun _ q _ h => hAb q.1 h)⟩⟩
theorem room_ok {k : Nat} (hd : d' + 1 ≤ d) (hk : k ≤ 16) : (rmOf d' mc ms).frames + 1 ≤ (rmOf d mcR msR).frames ∧ 8 + (k + 11) + (rmOf d' mc ms).locals ≤ (rmOf d mcR msR).locals := ⟨hd, by show 8 + (k + 11) + 35 * d' ≤ 35 * d; omega⟩
theorem lkIn {ws : List Cond} (h : ∀ w ∈ ws, w ∈ ALL) (F : ∀ w ∈ ALL, w.before args s = true) {w : Cond} (hw : w ∈ ws) : w.before args s = true := F w (h w hw)
def Rcv (s : State) (H : Heap) (C : String) (b : Addr) : Prop := ∃ cellB : Cell, H[b]? = some cellB ∧ cellB.vm.isStatics = false ∧ s.vm.findClass C = some cellB.cls
theorem rcv {q0 ci : Nat} {fs : List Value} {r : vw_C} (hK : KK D cA s) (hP : va_P D vwCl ws H) (he : ws[q0]? = some (b, .inr (ci, fs))) (hc : vwCl[ci]? = some r) : Rcv s H r.1 b := va_recv hK.1 hP hc he
theorem rV (F : CallFix p m c cc nL s args ALL own) (hM : Met l mi.1 (wk mi) (rmOf d' mc ms) Pc Qc mc ms free) (lk : LkV own idx mi n) (hd : d' + 1 ≤ d) (hp : PreC s H Pc (.ref b :: As)) (hr : Rcv s H mi.1.cls b) (hn : As.length = n) (hls : lv_has ls nL lv) (hst : st = As.reverse ++ .ref b :: rest) (hcat : (rest.map fun v => v.category).sum ≤ 8) (hdg : decode cc pc = .ok (.invokevirtual idx, 3)) (hf : cells + mc ≤ mcR ∧ slots + ms ≤ msR) :
    va_Run p l e (rmOf d mcR msR) s m args below meth c H locs cells slots mc ms (F0 m pc ls st) rest (Qc (Value.ref b :: As).toArray) free := by
  obtain ⟨hl, h1, ⟨h2, h3, h4, h5⟩, -⟩ := lk
  have hG : GoodIn ALL (wsV own idx mi.1.cls mi.1 (wk mi)) := allGood (fun w hw => (List.mem_append.mp hw).elim (hl w) (wk_in h1 w))
  exact va_runV F hM (cwV (bytes := mi.2.1) (maxL := mi.2.2.1) (ret := mi.2.2.2) n F.2.2.2.2 hG rfl rfl rfl ⟨rfl, h2, h3, h4⟩ (room_ok hd h5)) ⟨hp.1, hr, hp.2⟩ rfl hn hls.1 hst (lv_room hcat) hdg hf
theorem rS (F : CallFix p m c cc nL s args ALL own) (hM : Met l mi.1 (wk mi) (rmOf d' mc ms) Pc Qc mc ms free) (lk : LkS own idx mi n) (hd : d' + 1 ≤ d) (hp : PreC s H Pc As) (hn : As.length = n) (hls : lv_has ls nL lv) (hst : st = As.reverse ++ rest) (hcat : (rest.map fun v => v.category).sum ≤ 8) (hdg : decode cc pc = .ok (.invokestatic idx, 3)) (hf : cells + mc ≤ mcR ∧ slots + ms ≤ msR) :
    va_Run p l e (rmOf d mcR msR) s m args below meth c H locs cells slots mc ms (F0 m pc ls st) rest (Qc As.toArray) free := by
  obtain ⟨hl, h1, ⟨h2, h3, h4, h5⟩, -⟩ := lk
  have hcb := callB_of (R := rmOf d mcR msR) (own := own) (index := idx) (y := mi.1) (bytes := mi.2.1) (maxL := mi.2.2.1) (ret := mi.2.2.2) (ws := wk mi) (ws' := ALL) (rm := rmOf d' mc ms) (mc := mc) (ms := ms) n F.2.2.2.2 (allGood (wk_in h1)) rfl rfl rfl (lkIn hl F.2.2.2.2 (by first | exact List.Mem.head _ | exact List.Mem.tail _ (List.Mem.head _) | exact List.Mem.tail _ (List.Mem.tail _ (List.Mem.head _)) | exact List.Mem.tail _ (List.Mem.tail _ (List.Mem.tail _ (List.Mem.head _))) | exact List.Mem.tail _ (List.Mem.tail _ (List.Mem.tail _ (List.Mem.tail _ (List.Mem.head _)))))) (lkIn hl F.2.2.2.2 (by first | exact List.Mem.head _ | exact List.Mem.tail _ (List.Mem.head _) | exact List.Mem.tail _ (List.Mem.tail _ (List.Mem.head _)) | exact List.Mem.tail _ (List.Mem.tail _ (List.Mem.tail _ (List.Mem.head _))) | exact List.Mem.tail _ (List.Mem.tail _ (List.Mem.tail _ (List.Mem.tail _ (List.Mem.head _)))))) ⟨h2, h3, h4⟩ (room_ok hd h5)
  exact va_runS F hM ⟨hcb, lkIn hl F.2.2.2.2 (by first | exact List.Mem.head _ | exact List.Mem.tail _ (List.Mem.head _) | exact List.Mem.tail _ (List.Mem.tail _ (List.Mem.head _)))⟩ ⟨hp.1, hp.2⟩ rfl hn hls.1 hst (lv_room hcat) hdg hf
theorem rSN {host : String} (hK : KK D cA s) (F : CallFix p m c cc nL s args ALL own) (hM : Met l mi.1 (wk mi) (rmOf d' mc ms) Pc Qc mc ms free) (lk : LkSN own idx mi n host) (hd : d' + 1 ≤ d) (hp : PreC s H Pc As) (hn : As.length = n) (hls : lv_has ls nL lv) (hst : st = As.reverse ++ rest) (hcat : (rest.map fun v => v.category).sum ≤ 8) (hdg : decode cc pc = .ok (.invokestatic idx, 3)) (hf : cells + mc ≤ mcR ∧ slots + ms ≤ msR) :
    va_Run p l e (rmOf d mcR msR) s m args below meth c H locs cells slots mc ms (F0 m pc ls st) rest (Qc As.toArray) free := by
  obtain ⟨hl, h1, ⟨h2, h3, h4, h5⟩, -⟩ := lk
  have hcb := va_cnB (R := rmOf d mcR msR) (own := own) (host := host) (index := idx) (y := mi.1) (bytes := mi.2.1) (maxL := mi.2.2.1) (ret := mi.2.2.2) (ws := wk mi) (ws' := ALL) (rm := rmOf d' mc ms) (mc := mc) (ms := ms) n F.2.2.2.2 (allGood (wk_in h1)) rfl rfl rfl (hK.2.1 (own, idx, mi.1, host) hl.1) (lkIn hl.2 F.2.2.2.2 (by first | exact List.Mem.head _ | exact List.Mem.tail _ (List.Mem.head _) | exact List.Mem.tail _ (List.Mem.tail _ (List.Mem.head _)) | exact List.Mem.tail _ (List.Mem.tail _ (List.Mem.tail _ (List.Mem.head _))) | exact List.Mem.tail _ (List.Mem.tail _ (List.Mem.tail _ (List.Mem.tail _ (List.Mem.head _)))))) ⟨h2, h3, h4⟩ (room_ok hd h5)
  exact va_runSN F hM ⟨hcb, lkIn hl.2 F.2.2.2.2 (by first | exact List.Mem.head _ | exact List.Mem.tail _ (List.Mem.head _) | exact List.Mem.tail _ (List.Mem.tail _ (List.Mem.head _))), trivial⟩ ⟨hp.1, hp.2⟩ rfl hn hls.1 hst (lv_room hcat) hdg hf
theorem rI (F : CallFix p m c cc nL s args ALL own) (hM : Met l mi.1 (wk mi) (rmOf d' mc ms) Pc Qc mc ms free) (lk : LkI own idx mi n) (hd : d' + 1 ≤ d) (hp : PreC s H Pc (.ref b :: As)) (hn : As.length = n) (hls : lv_has ls nL lv) (hst : st = As.reverse ++ .ref b :: rest) (hcat : (rest.map fun v => v.category).sum ≤ 8) (hdg : decode cc pc = .ok (.invokespecial idx, 3)) (hf : cells + mc ≤ mcR ∧ slots + ms ≤ msR) :
    va_Run p l e (rmOf d mcR msR) s m args below meth c H locs cells slots mc ms (F0 m pc ls st) rest (Qc (Value.ref b :: As).toArray) free := by
  obtain ⟨hl, ⟨h1, ⟨h2, h3, h4, h5⟩, -⟩, h6, h7⟩ := lk
  have h1' : cdw mi ∈ ALL := h1
  have hcw : wk mi = Cond.code mi.1 mi.2.1 mi.2.2.1 none :: ALL := by unfold wk cdw; rw [h7]
  exact va_runI F hM (cwI n F.2.2.2.2 (allGood (wk_in h1)) hcw rfl rfl (lkIn hl F.2.2.2.2 (by first | exact List.Mem.head _ | exact List.Mem.tail _ (List.Mem.head _) | exact List.Mem.tail _ (List.Mem.tail _ (List.Mem.head _)) | exact List.Mem.tail _ (List.Mem.tail _ (List.Mem.tail _ (List.Mem.head _))) | exact List.Mem.tail _ (List.Mem.tail _ (List.Mem.tail _ (List.Mem.tail _ (List.Mem.head _)))))) (lkIn hl F.2.2.2.2 (by first | exact List.Mem.head _ | exact List.Mem.tail _ (List.Mem.head _) | exact List.Mem.tail _ (List.Mem.tail _ (List.Mem.head _)) | exact List.Mem.tail _ (List.Mem.tail _ (List.Mem.tail _ (List.Mem.head _))) | exact List.Mem.tail _ (List.Mem.tail _ (List.Mem.tail _ (List.Mem.tail _ (List.Mem.head _)))))) (lkIn hl F.2.2.2.2 (by first | exact List.Mem.head _ | exact List.Mem.tail _ (List.Mem.head _) | exact List.Mem.tail _ (List.Mem.tail _ (List.Mem.head _)) | exact List.Mem.tail _ (List.Mem.tail _ (List.Mem.tail _ (List.Mem.head _))) | exact List.Mem.tail _ (List.Mem.tail _ (List.Mem.tail _ (List.Mem.tail _ (List.Mem.head _)))))) h6 ⟨h2, h3, h4⟩ (room_ok hd h5)) ⟨hp.1, hp.2⟩ rfl hn hls.1 hst (lv_room hcat) hdg hf
theorem rIN {host : String} (hK : KK D cA s) (F : CallFix p m c cc nL s args ALL own) (hM : Met l mi.1 (wk mi) (rmOf d' mc ms) Pc Qc mc ms free) (lk : LkIN own idx mi n host) (hd : d' + 1 ≤ d) (hp : PreC s H Pc (.ref b :: As)) (hn : As.length = n) (hls : lv_has ls nL lv) (hst : st = As.reverse ++ .ref b :: rest) (hcat : (rest.map fun v => v.category).sum ≤ 8) (hdg : decode cc pc = .ok (.invokespecial idx, 3)) (hf : cells + mc ≤ mcR ∧ slots + ms ≤ msR) :
    va_Run p l e (rmOf d mcR msR) s m args below meth c H locs cells slots mc ms (F0 m pc ls st) rest (Qc (Value.ref b :: As).toArray) free := by
  obtain ⟨hl, ⟨h1, ⟨h2, h3, h4, h5⟩, -⟩, h6, h7⟩ := lk
  have hcw : wk mi = Cond.code mi.1 mi.2.1 mi.2.2.1 none :: ALL := by unfold wk cdw; rw [h7]
  have hcb := va_cnB (R := rmOf d mcR msR) (own := own) (host := host) (index := idx) (y := mi.1) (bytes := mi.2.1) (maxL := mi.2.2.1) (ret := none) (ws := wk mi) (ws' := ALL) (rm := rmOf d' mc ms) (mc := mc) (ms := ms) n F.2.2.2.2 (allGood (wk_in h1)) hcw rfl rfl (hK.2.1 (own, idx, mi.1, host) hl.1) (lkIn hl.2 F.2.2.2.2 (by first | exact List.Mem.head _ | exact List.Mem.tail _ (List.Mem.head _) | exact List.Mem.tail _ (List.Mem.tail _ (List.Mem.head _)) | exact List.Mem.tail _ (List.Mem.tail _ (List.Mem.tail _ (List.Mem.head _))) | exact List.Mem.tail _ (List.Mem.tail _ (List.Mem.tail _ (List.Mem.tail _ (List.Mem.head _)))))) ⟨h2, h3, h4⟩ (room_ok hd h5)
  exact va_runIN F hM ⟨hcb, h6, lkIn hl.2 F.2.2.2.2 (by first | exact List.Mem.head _ | exact List.Mem.tail _ (List.Mem.head _) | exact List.Mem.tail _ (List.Mem.tail _ (List.Mem.head _)))⟩ ⟨hp.1, hp.2⟩ rfl hn hls.1 hst (lv_room hcat) hdg hf
theorem ro_go {R : Room} {a : Array Value} {st' : List Value} (run : va_Run p l e R s m args below meth c H locs cells slots 0 0 (F0 m pc ls st) rest (roQ v a) (fun _ => False)) (hst' : v.toList ++ rest = st') (kk : W p l e R s m args below meth c H locs cells slots Q (F0 m (pc + 3) ls st')) : W p l e R s m args below meth c H locs cells slots Q (F0 m pc ls st) := by
  intro T hT X
  obtain ⟨v', st₀, t, T', L, h0, X', hL, e1, e2, ⟨ho, hh⟩, go⟩ := run T hT X
  cases ho
  have hLn : L = [] := List.eq_nil_iff_forall_not_mem.mpr fun q hq => hL q hq
  subst hLn
  rw [List.append_nil] at X'
  subst hst'
  obtain ⟨t2, a1, b1⟩ := kk T' (e1.trans (hh.trans h0)) X'
  exact ⟨t2, go t2 a1, b1⟩
theorem rw_go {R : Room} {a : Array Value} {A1 : Nat → Prop} {post : Option Value → va_W → Prop} (run : va_Run p l e R s m args below meth c H locs cells slots mc ms (F0 m pc ls st) rest (rwQ D A1 post a) A1) (hS : va_S A H0 H locs) (hA : ∀ q, A1 q → A q)
    (kk : ∀ (v : Option Value) (ws' : va_W) (H1 : Heap) (locs1 : List Loc), post v ws' → va_P D vwCl ws' H1 → va_D A1 ws' → H.size ≤ H1.size → (∀ q : Nat, q < H.size → ¬ A1 q → H1[q]? = H[q]?) → va_S A H0 H1 locs1 → W p l e R s m args below meth c H1 locs1 (cells + mc) (slots + ms) Q (F0 m (pc + 3) ls (v.toList ++ rest))) : W p l e R s m args below meth c H locs cells slots Q (F0 m pc ls st) := by
  intro T hT X
  obtain ⟨v', st₀, t, T', L, h0, X', hL, e1, e2, ⟨⟨v, ws', ho, hpost, hP', hD'⟩, hz, hk⟩, go⟩ := run T hT X
  cases ho
  rw [h0] at hz hk
  obtain ⟨t2, a1, b1⟩ := kk v' ws' T'.heap (locs ++ L) hpost (by rw [e1]; exact hP') hD' (by rw [e1]; exact hz) (fun q h1 h2 => by rw [e1]; exact hk q h1 h2)
    ⟨Nat.le_trans hS.1 (by rw [e1]; exact hz), fun q h1 h2 => by rw [e1, hk q (Nat.lt_of_lt_of_le h1 hS.1) (fun z => h2 (hA q z))]; exact hS.2.1 q h1 h2, fun q hq => by
      rcases List.mem_append.mp hq with h | h
      · exact hS.2.2 q h
      · exact hA _ (hL q h)⟩ T' rfl X'
  exact ⟨t2, go t2 a1, b1⟩
theorem freeAll (hD : va_D A ws) (hS : va_S A H0 H locs) (hA : ∀ q, H0.size ≤ q → A q) : ∀ q, va_A ws H.size q → A q := by
  rintro q (⟨k, e, h⟩ | h)
  · exact hD.2 k (q, e) h
  · exact hA q (Nat.le_trans hS.1 h)
/-- a call over the whole world -/
theorem rw_all {R : Room} {a : Array Value} {post : Option Value → va_W → Prop} (hD : va_D A ws) (hA : ∀ q, H0.size ≤ q → A q) (hS : va_S A H0 H locs) (run : va_Run p l e R s m args below meth c H locs cells slots mc ms (F0 m pc ls st) rest (rwQ D (va_A ws H.size) post a) (va_A ws H.size))
    (kk : ∀ (v : Option Value) (ws' : va_W) (H1 : Heap) (locs1 : List Loc), post v ws' → va_P D vwCl ws' H1 → va_D A ws' → va_S A H0 H1 locs1 → W p l e R s m args below meth c H1 locs1 (cells + mc) (slots + ms) Q (F0 m (pc + 3) ls (v.toList ++ rest))) : W p l e R s m args below meth c H locs cells slots Q (F0 m pc ls st) :=
  rw_go run hS (freeAll hD hS hA) (fun v ws' H1 locs1 h1 h2 h3 _ _ h6 => kk v ws' H1 locs1 h1 h2 (h3.weaken (fun _ q _ hq => freeAll hD hS hA q.1 hq)) h6)
theorem va_P_iff {cl : List vw_C} : va_P D cl ws H ↔ ∀ q ∈ ws, va_at D cl q H := ⟨fun h q hq => by obtain ⟨i, hi⟩ := List.getElem?_of_mem hq; exact h i q hi, fun h k q hk => h q (List.mem_of_getElem? hk)⟩
theorem va_D_iff : va_D A ws ↔ (ws.map (·.1)).Nodup ∧ ∀ q ∈ ws, A q.1 := by
  constructor
  · intro h
    refine ⟨List.pairwise_iff_getElem.mpr fun i j hi hj hij he => ?_, fun q hq => by obtain ⟨i, hi⟩ := List.getElem?_of_mem hq; exact h.2 i q hi⟩
    rw [List.length_map] at hi hj
    rw [List.getElem_map, List.getElem_map] at he
    have := h.1 i j ws[i] ws[j] (List.getElem?_eq_getElem hi) (List.getElem?_eq_getElem hj) he
    omega
  · rintro ⟨h1, h2⟩
    refine ⟨fun i j x y hi hj hxy => ?_, fun k q hk => h2 q (List.mem_of_getElem? hk)⟩
    have key : ∀ (i j : Nat) (x y : Nat × va_E), ws[i]? = some x → ws[j]? = some y → x.1 = y.1 → ¬ i < j := by
      intro i j x y hi hj hxy hij
      obtain ⟨hil, hi⟩ := List.getElem?_eq_some_iff.mp hi
      obtain ⟨hjl, hj⟩ := List.getElem?_eq_some_iff.mp hj
      refine List.pairwise_iff_getElem.mp h1 i j (by rw [List.length_map]; exact hil) (by rw [List.length_map]; exact hjl) hij ?_
      rw [List.getElem_map, List.getElem_map, hi, hj]
      exact hxy
    have h3 := key i j x y hi hj hxy
    have h4 := key j i y x hj hi hxy.symm
    omega
theorem va_P_perm {cl : List vw_C} {w1 w2 : va_W} (h : va_P D cl w1 H) (hp : ∀ q ∈ w2, q ∈ w1) : va_P D cl w2 H := va_P_iff.mpr fun q hq => va_P_iff.mp h q (hp q hq)
/-- the middle of a world goes through a call -/
theorem segJoin {L1 S L2 S' : va_W} {H1 : Heap} (hP : va_P D vwCl (L1 ++ (S ++ L2)) H) (hD : va_D A (L1 ++ (S ++ L2))) (hF : ∀ q, va_A S H.size q → A q) (hk : ∀ q : Nat, q < H.size → ¬ va_A S H.size q → H1[q]? = H[q]?) (hP1 : va_P D vwCl S' H1) (hD1 : va_D (va_A S H.size) S') : va_P D vwCl (L1 ++ (S' ++ L2)) H1 ∧ va_D A (L1 ++ (S' ++ L2)) := by
  have hP' := va_P_iff.mp hP
  obtain ⟨hN, hA⟩ := va_D_iff.mp hD
  obtain ⟨hN1, hA1⟩ := va_D_iff.mp hD1
  have apart : ∀ q ∈ L1 ++ L2, q.1 < H.size ∧ ¬ va_A S H.size q.1 := by
    intro q hq
    have hq' : q ∈ L1 ++ (S ++ L2) := by
      rcases List.mem_append.mp hq with h | h
      · exact List.mem_append_left _ h
      · exact List.mem_append_right _ (List.mem_append_right _ h)
    have hlt := (hP' q hq').lt
    refine ⟨hlt, ?_⟩
    rintro (⟨k, e, h⟩ | h)
    · have hs : (q.1, e) ∈ S := List.mem_of_getElem? h
      rw [List.map_append, List.map_append] at hN
      rcases List.mem_append.mp hq with h | h
      · exact (List.nodup_append.mp hN).2.2 q.1 (List.mem_map_of_mem h) q.1 (List.mem_append_left _ (List.mem_map_of_mem (f := (·.1)) hs)) rfl
      · exact (List.nodup_append.mp (List.nodup_append.mp hN).2.1).2.2 q.1 (List.mem_map_of_mem (f := (·.1)) hs) q.1 (List.mem_map_of_mem h) rfl
    · omega
  refine ⟨va_P_iff.mpr fun q hq => ?_, va_D_iff.mpr ⟨?_, fun q hq => ?_⟩⟩
  · rcases List.mem_append.mp hq with h | h
    · have ha := apart q (List.mem_append_left _ h)
      exact (hP' q (List.mem_append_left _ h)).kept (hk q.1 ha.1 ha.2)
    · rcases List.mem_append.mp h with h | h
      · exact va_P_iff.mp hP1 q h
      · have ha := apart q (List.mem_append_right _ h)
        exact (hP' q (List.mem_append_right _ (List.mem_append_right _ h))).kept (hk q.1 ha.1 ha.2)
  · rw [List.map_append, List.map_append] at hN ⊢
    obtain ⟨n1, n2, n3⟩ := List.nodup_append.mp hN
    obtain ⟨n4, n5, n6⟩ := List.nodup_append.mp n2
    have ne : ∀ x ∈ (L1 ++ L2).map (·.1), ∀ y ∈ S'.map (·.1), x ≠ y := by
      intro x hx y hy hxy
      obtain ⟨q, hq, rfl⟩ := List.mem_map.mp hx
      obtain ⟨r, hr, rfl⟩ := List.mem_map.mp hy
      exact (apart q hq).2 (by rw [hxy]; exact hA1 r hr)
    refine List.nodup_append.mpr ⟨n1, List.nodup_append.mpr ⟨hN1, n5, fun x hx y hy hxy => ne y (by rw [List.map_append]; exact List.mem_append_right _ hy) x hx hxy.symm⟩, fun x hx y hy hxy => ?_⟩
    rcases List.mem_append.mp hy with h | h
    · exact ne x (by rw [List.map_append]; exact List.mem_append_left _ hx) y h hxy
    · exact n3 x hx y (List.mem_append_right _ h) hxy
  · rcases List.mem_append.mp hq with h | h
    · exact hA q (List.mem_append_left _ h)
    · rcases List.mem_append.mp h with h | h
      · exact hF q.1 (hA1 q h)
      · exact hA q (List.mem_append_right _ (List.mem_append_right _ h))
theorem segP {cl : List vw_C} {L1 S L2 : va_W} (hP : va_P D cl (L1 ++ (S ++ L2)) H) : va_P D cl S H := va_P_perm hP fun _ h => List.mem_append_right _ (List.mem_append_left _ h)
theorem segD {L1 S L2 : va_W} (hD : va_D A (L1 ++ (S ++ L2))) : va_D A S := by
  obtain ⟨h1, h2⟩ := va_D_iff.mp hD
  rw [List.map_append, List.map_append] at h1
  exact va_D_iff.mpr ⟨(List.nodup_append.mp (List.nodup_append.mp h1).2.1).1, fun q hq => h2 q (List.mem_append_right _ (List.mem_append_left _ hq))⟩
theorem rw_seg {R : Room} {a : Array Value} {post : Option Value → va_W → Prop} {L1 S L2 : va_W} (hP : va_P D vwCl (L1 ++ (S ++ L2)) H) (hD : va_D A (L1 ++ (S ++ L2))) (hA : ∀ q, H0.size ≤ q → A q) (hS : va_S A H0 H locs) (run : va_Run p l e R s m args below meth c H locs cells slots mc ms (F0 m pc ls st) rest (rwQ D (va_A S H.size) post a) (va_A S H.size))
    (kk : ∀ (v : Option Value) (S' : va_W) (H1 : Heap) (locs1 : List Loc), post v S' → va_P D vwCl (L1 ++ (S' ++ L2)) H1 → va_D A (L1 ++ (S' ++ L2)) → va_S A H0 H1 locs1 → W p l e R s m args below meth c H1 locs1 (cells + mc) (slots + ms) Q (F0 m (pc + 3) ls (v.toList ++ rest))) : W p l e R s m args below meth c H locs cells slots Q (F0 m pc ls st) :=
  rw_go run hS (freeAll (segD hD) hS hA) (fun v S' H1 locs1 h1 h2 h3 _ h5 h6 => by
    obtain ⟨a1, a2⟩ := segJoin hP hD (freeAll (segD hD) hS hA) h5 h2 h3
    exact kk v S' H1 locs1 h1 a1 a2 h6)
/-- ends -/
theorem ro_i {R : Room} {x : Int32} (F : CallFix p m c cc nL s args ALL own) (hr : meth.sig.returnType = some .int) (hlk : meth.locks = false) (hv : some (Value.int x) = v) (hdg : decode cc pc = .ok (.ireturn, 1)) : W p l e R s m args below meth c s.heap [] 0 0 (MQ below (roQ v) args s 0 0 (fun _ => False)) (F0 m pc ls [.int x]) := W.iret F.1 F.2.1 hr (fun t ht _ => ⟨by rw [hv], ht⟩) (fun _ h => by cases h) hdg hlk
theorem ro_z {R : Room} {x : Int32} (F : CallFix p m c cc nL s args ALL own) (hr : meth.sig.returnType = some .boolean) (hn : narrow .boolean (.int x) = .int x) (hlk : meth.locks = false) (hv : some (Value.int x) = v) (hdg : decode cc pc = .ok (.ireturn, 1)) : W p l e R s m args below meth c s.heap [] 0 0 (MQ below (roQ v) args s 0 0 (fun _ => False)) (F0 m pc ls [.int x]) := W.zret F.1 F.2.1 hr hn (fun t ht _ => ⟨by rw [hv], ht⟩) (fun _ h => by cases h) hdg hlk
theorem ro_l {R : Room} {x : Int64} (F : CallFix p m c cc nL s args ALL own) (hr : meth.sig.returnType = some .long) (hlk : meth.locks = false) (hv : some (Value.long x) = v) (hdg : decode cc pc = .ok (.lreturn, 1)) : W p l e R s m args below meth c s.heap [] 0 0 (MQ below (roQ v) args s 0 0 (fun _ => False)) (F0 m pc ls [.long x]) := W.lret F.1 F.2.1 hr (fun t ht _ => ⟨by rw [hv], ht⟩) (fun _ h => by cases h) hdg hlk
theorem ro_a {R : Room} {x : Value} {rt : FieldType} (F : CallFix p m c cc nL s args ALL own) (hr : meth.sig.returnType = some rt) (hrt : (∃ n, rt = .object n) ∨ ∃ t, rt = .array t) (hx : x = .null ∨ ∃ a, x = .ref a) (hlk : meth.locks = false) (hv : some x = v) (hdg : decode cc pc = .ok (.areturn, 1)) : W p l e R s m args below meth c s.heap [] 0 0 (MQ below (roQ v) args s 0 0 (fun _ => False)) (F0 m pc ls [x]) := W.aret F.1 F.2.1 hr hrt hx (fun t ht _ => ⟨by rw [hv], ht⟩) (fun _ h => by cases h) hdg hlk
theorem rw_i {R : Room} {x : Int32} {post : Option Value → va_W → Prop} (F : CallFix p m c cc nL s args ALL own) (hP : va_P D vwCl ws H) (hD : va_D A ws) (hS : va_S A s.heap H locs) (hr : meth.sig.returnType = some .int) (hlk : meth.locks = false) (hc : cells ≤ mc ∧ slots ≤ ms) (hv : post (some (.int x)) ws) (hdg : decode cc pc = .ok (.ireturn, 1)) : W p l e R s m args below meth c H locs cells slots (MQ below (rwQ D A post) args s mc ms A) (F0 m pc ls [.int x]) := W.widen hc.1 hc.2 (W.iret F.1 F.2.1 hr (fun t ht _ => ⟨⟨_, ws, rfl, hv, by rw [ht]; exact hP, hD⟩, hS.F ht⟩) hS.2.2 hdg hlk)
theorem rw_z {R : Room} {x : Int32} {post : Option Value → va_W → Prop} (F : CallFix p m c cc nL s args ALL own) (hP : va_P D vwCl ws H) (hD : va_D A ws) (hS : va_S A s.heap H locs) (hr : meth.sig.returnType = some .boolean) (hn : narrow .boolean (.int x) = .int x) (hlk : meth.locks = false) (hc : cells ≤ mc ∧ slots ≤ ms) (hv : post (some (.int x)) ws) (hdg : decode cc pc = .ok (.ireturn, 1)) : W p l e R s m args below meth c H locs cells slots (MQ below (rwQ D A post) args s mc ms A) (F0 m pc ls [.int x]) := W.widen hc.1 hc.2 (W.zret F.1 F.2.1 hr hn (fun t ht _ => ⟨⟨_, ws, rfl, hv, by rw [ht]; exact hP, hD⟩, hS.F ht⟩) hS.2.2 hdg hlk)
theorem rw_v {R : Room} {post : Option Value → va_W → Prop} (F : CallFix p m c cc nL s args ALL own) (hP : va_P D vwCl ws H) (hD : va_D A ws) (hS : va_S A s.heap H locs) (hr : meth.sig.returnType = none) (hlk : meth.locks = false) (hc : cells ≤ mc ∧ slots ≤ ms) (hv : post none ws) (hdg : decode cc pc = .ok (.return_, 1)) : W p l e R s m args below meth c H locs cells slots (MQ below (rwQ D A post) args s mc ms A) (F0 m pc ls []) := W.widen hc.1 hc.2 (W.vret F.1 F.2.1 hr (fun t ht _ => ⟨⟨_, ws, rfl, hv, by rw [ht]; exact hP, hD⟩, hS.F ht⟩) hS.2.2 hdg hlk)
end XC
def exq (V : Option Value) (W' : va_W) : Option Value → va_W → Prop := fun v ws' => v = V ∧ ws' = W'
def putAll (ws : va_W) (is : List Nat) (w1 : va_W) : va_W := (is.zip w1).foldl (fun w q => w.set q.1 q.2) ws
theorem putAll_get (is : List Nat) : ∀ (ws w1 : va_W), (∀ i ∈ is, i < ws.length) → is.length = w1.length → is.Nodup → (∀ (j i : Nat), is[j]? = some i → (putAll ws is w1)[i]? = w1[j]?) ∧ (∀ k, k ∉ is → (putAll ws is w1)[k]? = ws[k]?) ∧ (putAll ws is w1).length = ws.length := by
  induction is with
  | nil => exact fun ws w1 _ _ _ => ⟨fun j i h => by simp at h, fun k _ => rfl, rfl⟩
  | cons a is ih =>
    intro ws w1 hl hlen hnd
    cases w1 with
    | nil => cases hlen
    | cons b w1 =>
      have hnd' := List.nodup_cons.mp hnd
      obtain ⟨h1, h2, h3⟩ := ih (ws.set a b) w1 (fun i hi => by rw [List.length_set]; exact hl i (List.mem_cons_of_mem _ hi)) (Nat.succ.inj hlen) hnd'.2
      have e : putAll ws (a :: is) (b :: w1) = putAll (ws.set a b) is w1 := rfl
      rw [e]
      refine ⟨fun j i h => ?_, fun k hk => ?_, by rw [h3, List.length_set]⟩
      · cases j with
        | zero =>
          rw [List.getElem?_cons_zero] at h
          cases h
          rw [h2 a hnd'.1, List.getElem?_set_self (hl a List.mem_cons_self)]
          rfl
        | succ j =>
          rw [List.getElem?_cons_succ] at h
          exact h1 j i h
      · have hka : a ≠ k := fun q => hk (q ▸ List.mem_cons_self)
        rw [h2 k (fun q => hk (List.mem_cons_of_mem _ q)), List.getElem?_set_ne hka]
theorem putAll_app (is1 is2 : List Nat) (w1 w2 ws : va_W) (h : is1.length = w1.length) : putAll ws (is1 ++ is2) (w1 ++ w2) = putAll (putAll ws is1 w1) is2 w2 := by
  unfold putAll
  rw [List.zip_append h, List.foldl_append]
theorem putAll_range (S : va_W) : ∀ (L1 L2 S' : va_W), S'.length = S.length → putAll (L1 ++ (S ++ L2)) (List.range' L1.length S.length) S' = L1 ++ (S' ++ L2) := by
  induction S with
  | nil =>
    intro L1 L2 S' h
    cases S' with
    | nil => rfl
    | cons => cases h
  | cons a S ih =>
    intro L1 L2 S' h
    cases S' with
    | nil => cases h
    | cons b S' =>
      have e : (L1 ++ ((a :: S) ++ L2)).set L1.length b = (L1 ++ [b]) ++ (S ++ L2) := by simp
      have h1 := ih (L1 ++ [b]) L2 S' (Nat.succ.inj h)
      rw [List.length_append] at h1
      show putAll ((L1 ++ ((a :: S) ++ L2)).set L1.length b) (List.range' (L1.length + 1) S.length) S' = _
      rw [e]
      exact h1.trans (by simp)
/-- a stretch of a world anew -/
theorem jsx {ws W' L1 S L2 S' : va_W} {is : List Nat} (h1 : ws = L1 ++ (S ++ L2)) (h2 : L1 ++ (S' ++ L2) = W') (hl : S'.length = S.length) (his : is = List.range' L1.length S.length) : putAll ws is S' = W' := by rw [h1, his, putAll_range S L1 L2 S' hl, h2]
section XD
variable {p : Program} {l : Launch} {e : Env} {s : State} {m : MethodId} {args : Array Value} {below : List Frame} {meth : Method} {c : Code} {H : Heap} {locs : List Loc} {cells slots : Nat} {Q : State → Prop} {R : Room}
variable {cc : ByteArray} {pc nL : Nat} {ls : Array Slot} {rest st : List Value} {own : String} {D : va_G} {cA : Nat → ClassId} {A : Nat → Prop} {ws wc : va_W} {H0 : Heap} {mc ms idx : Nat} {α : Type}
theorem sel_at {is : List Nat} (hC : is.map (fun i => ws[i]?) = wc.map some) {k : Nat} {q : Nat × va_E} (hq : wc[k]? = some q) : ∃ i, is[k]? = some i ∧ ws[i]? = some q := by
  have h1 : (is.map (fun i => ws[i]?))[k]? = some (some q) := by rw [hC, List.getElem?_map, hq]; rfl
  rw [List.getElem?_map] at h1
  cases hi : is[k]? with
  | none => rw [hi] at h1; cases h1
  | some i => rw [hi] at h1; exact ⟨i, rfl, Option.some.inj h1⟩
theorem selP {cl : List vw_C} {is : List Nat} (hP : va_P D cl ws H) (hC : is.map (fun i => ws[i]?) = wc.map some) : va_P D cl wc H := fun k q hq => by obtain ⟨i, -, h⟩ := sel_at hC hq; exact hP i q h
/-- behind a call over cells by their places: the world, the callee's cells put in their places -/
theorem reJoin {is : List Nat} {w1 : va_W} {H1 : Heap} (hP : va_P D vwCl ws H) (hD : va_D A ws) (hC : is.map (fun i => ws[i]?) = wc.map some) (hn : va_nd is = true) (hk : ∀ q : Nat, q < H.size → ¬ va_A wc H.size q → H1[q]? = H[q]?) (hP1 : va_P D vwCl w1 H1) (hfst : w1.map (·.1) = wc.map (·.1)) : va_P D vwCl (putAll ws is w1) H1 ∧ va_D A (putAll ws is w1) := by
  have hlen : is.length = wc.length := by have := congrArg List.length hC; simpa using this
  have hlen1 : is.length = w1.length := by have := congrArg List.length hfst; simp at this; omega
  have hnd : is.Nodup := List.pairwise_iff_getElem.mpr fun i j hi hj hij he => by
    have := va_nd_inj is hn i j is[i] (List.getElem?_eq_getElem hi) (by rw [he]; exact List.getElem?_eq_getElem hj)
    omega
  have hlt : ∀ i ∈ is, i < ws.length := by
    intro i hi
    obtain ⟨k, hk⟩ := List.getElem?_of_mem hi
    have hkl : k < wc.length := by rw [← hlen]; exact (List.getElem?_eq_some_iff.mp hk).1
    obtain ⟨i', h1, h2⟩ := sel_at hC (List.getElem?_eq_getElem hkl)
    rw [hk] at h1
    cases h1
    exact (List.getElem?_eq_some_iff.mp h2).1
  obtain ⟨g1, g2, g3⟩ := putAll_get is ws w1 hlt hlen1 hnd
  have hin : ∀ (k : Nat) (q : Nat × va_E), (putAll ws is w1)[k]? = some q → (∃ j : Nat, is[j]? = some k ∧ w1[j]? = some q) ∨ (k ∉ is ∧ ws[k]? = some q) := by
    intro k q hq
    by_cases hki : k ∈ is
    · obtain ⟨j, hj⟩ := List.getElem?_of_mem hki
      exact Or.inl ⟨j, hj, by rw [← g1 j k hj]; exact hq⟩
    · exact Or.inr ⟨hki, by rw [← g2 k hki]; exact hq⟩
  have addr : ∀ (j : Nat) (q : Nat × va_E), w1[j]? = some q → ∃ q0, wc[j]? = some q0 ∧ q0.1 = q.1 := by
    intro j q hq
    have h1 : (w1.map (·.1))[j]? = some q.1 := by rw [List.getElem?_map, hq]; rfl
    rw [hfst, List.getElem?_map] at h1
    cases hc : wc[j]? with
    | none => rw [hc] at h1; cases h1
    | some q0 => rw [hc] at h1; exact ⟨q0, rfl, Option.some.inj h1⟩
  have old : ∀ (k : Nat) (q : Nat × va_E), (putAll ws is w1)[k]? = some q → ∃ q0, ws[k]? = some q0 ∧ q0.1 = q.1 := by
    intro k q hq
    rcases hin k q hq with ⟨j, h1, h2⟩ | ⟨-, h2⟩
    · obtain ⟨q0, h3, h4⟩ := addr j q h2
      obtain ⟨i, h5, h6⟩ := sel_at hC h3
      rw [h1] at h5
      cases h5
      exact ⟨q0, h6, h4⟩
    · exact ⟨q, h2, rfl⟩
  refine ⟨fun k q hq => ?_, fun i j x y hi hj hxy => ?_, fun k q hq => ?_⟩
  · rcases hin k q hq with ⟨j, -, h2⟩ | ⟨h1, h2⟩
    · exact hP1 j q h2
    · have hlt2 := (hP k q h2).lt
      refine (hP k q h2).kept (hk q.1 hlt2 ?_)
      rintro (⟨k2, e, h⟩ | h)
      · obtain ⟨i, h3, h4⟩ := sel_at hC h
        have hik := hD.1 i k (q.1, e) q h4 h2 rfl
        subst hik
        exact h1 (List.mem_of_getElem? h3)
      · omega
  · obtain ⟨x0, h1, h2⟩ := old i x hi
    obtain ⟨y0, h3, h4⟩ := old j y hj
    exact hD.1 i j x0 y0 h1 h3 (h2.trans (hxy.trans h4.symm))
  · obtain ⟨q0, h1, h2⟩ := old k q hq
    rw [← h2]
    exact hD.2 k q0 h1
theorem selD {is : List Nat} (hD : va_D A ws) (hn : va_nd is = true) (hC : is.map (fun i => ws[i]?) = wc.map some) : va_D A wc := hD.sub is hn hC
theorem selF {is : List Nat} (hD : va_D A ws) (hC : is.map (fun i => ws[i]?) = wc.map some) (hA : ∀ q, H0.size ≤ q → A q) (hS : va_S A H0 H locs) : ∀ q, va_A wc H.size q → A q := by
  rintro q (⟨k, e, h⟩ | h)
  · obtain ⟨i, -, h2⟩ := sel_at hC h
    exact hD.2 i (q, e) h2
  · exact hA q (Nat.le_trans hS.1 h)
theorem rwe {V : Option Value} {wc' W' : va_W} {a : Array Value} {st' : List Value} (hP : va_P D vwCl ws H) (hD : va_D A ws) (hS : va_S A H0 H locs) (hA : ∀ q, H0.size ≤ q → A q) (is : List Nat) (hC : is.map (fun i => ws[i]?) = wc.map some) (hn : va_nd is = true) (hfst : wc'.map (·.1) = wc.map (·.1)) (run : va_Run p l e R s m args below meth c H locs cells slots mc ms (F0 m pc ls st) rest (rwQ D (va_A wc H.size) (exq V wc') a) (va_A wc H.size)) (hW : putAll ws is wc' = W') (hst : V.toList ++ rest = st')
    (kk : ∀ (H1 : Heap) (locs1 : List Loc), va_P D vwCl W' H1 → va_D A W' → va_S A H0 H1 locs1 → W p l e R s m args below meth c H1 locs1 (cells + mc) (slots + ms) Q (F0 m (pc + 3) ls st')) : W p l e R s m args below meth c H locs cells slots Q (F0 m pc ls st) :=
  rw_go run hS (selF hD hC hA hS) (fun v ws' H1 locs1 h1 h2 h3 _ h5 h6 => by
    obtain ⟨rfl, rfl⟩ := h1
    obtain ⟨a1, a2⟩ := reJoin hP hD hC hn h5 h2 hfst
    subst hW
    subst hst
    exact kk H1 locs1 a1 a2 h6)
theorem rwe_all {V : Option Value} {W' : va_W} {a : Array Value} {st' : List Value} (hD : va_D A ws) (hS : va_S A H0 H locs) (hA : ∀ q, H0.size ≤ q → A q) (run : va_Run p l e R s m args below meth c H locs cells slots mc ms (F0 m pc ls st) rest (rwQ D (va_A ws H.size) (exq V W') a) (va_A ws H.size)) (hst : V.toList ++ rest = st')
    (kk : ∀ (H1 : Heap) (locs1 : List Loc), va_P D vwCl W' H1 → va_D A W' → va_S A H0 H1 locs1 → W p l e R s m args below meth c H1 locs1 (cells + mc) (slots + ms) Q (F0 m (pc + 3) ls st')) : W p l e R s m args below meth c H locs cells slots Q (F0 m pc ls st) :=
  rw_all hD hA hS run (fun v ws' H1 locs1 h1 h2 h3 h4 => by
    obtain ⟨rfl, rfl⟩ := h1
    subst hst
    exact kk H1 locs1 h2 h3 h4)
theorem gL {L M : va_W} {i : Nat} {v : Nat × va_E} (h : L[i]? = some v) : (L ++ M)[i]? = some v := by rw [List.getElem?_append_left (List.getElem?_eq_some_iff.mp h).1]; exact h
theorem gR {L M : va_W} {n i : Nat} {v : Nat × va_E} (hl : L.length = n) (h : M[i]? = some v) : (L ++ M)[n + i]? = some v := by rw [List.getElem?_append_right (by omega), hl, Nat.add_sub_cancel_left]; exact h
theorem sL {L M L' : va_W} {i : Nat} {v : Nat × va_E} (hi : i < L.length) (h : L.set i v = L') : (L ++ M).set i v = L' ++ M := by rw [List.set_append_left _ _ hi, h]
theorem sR {L M M' : va_W} {n i : Nat} {v : Nat × va_E} (hl : L.length = n) (h : M.set i v = M') : (L ++ M).set (n + i) v = L ++ M' := by rw [List.set_append_right _ _ (by omega), hl, Nat.add_sub_cancel_left, h]
theorem preP {cl : List vw_C} {L M : va_W} (hP : va_P D cl (L ++ M) H) : va_P D cl L H := va_P_perm hP fun _ h => List.mem_append_left _ h
theorem preD {L M : va_W} (hD : va_D A (L ++ M)) : va_D A L := by
  obtain ⟨h1, h2⟩ := va_D_iff.mp hD
  rw [List.map_append] at h1
  exact va_D_iff.mpr ⟨(List.nodup_append.mp h1).1, fun q hq => h2 q (List.mem_append_left _ hq)⟩
theorem sufP {cl : List vw_C} {L M : va_W} (hP : va_P D cl (L ++ M) H) : va_P D cl M H := va_P_perm hP fun _ h => List.mem_append_right _ h
/-- switches -/
theorem x_ts {A B ρ : α} (hx : p.tables.exec = Jvm.exec) (hb : c.code = cc) {dflt lo hi : Int} {offs : Array Int} {len : Nat} {x : Int32} (v : Int32) {off : Int} {tgt : Nat} (hdg : decode cc pc = .ok (.tableswitch dflt lo hi offs, len)) (h : (if x = v then A else B) = ρ) (h1 : ¬ v.toInt < lo) (h2 : ¬ hi < v.toInt) (ho : offs[(v.toInt - lo).toNat]? = some off) (ht : (pc : Int) + off = (tgt : Int))
    (kt : x = v → A = ρ → W p l e R s m args below meth c H locs cells slots Q (F0 m tgt ls rest)) (kf : ¬ x = v → B = ρ → W p l e R s m args below meth c H locs cells slots Q (F0 m pc ls (.int x :: rest))) : W p l e R s m args below meth c H locs cells slots Q (F0 m pc ls (.int x :: rest)) := by
  by_cases q : x = v
  · rw [if_pos q] at h
    have q' := q
    subst q'
    exact lv_tableIn hx hb hdg h1 h2 ho ht (kt q h)
  · rw [if_neg q] at h
    exact kf q h
theorem ts_out {x : Int32} {lo : Int} {vs : List Int32} (hv : ∀ i, i < vs.length → (vs.getD i 0).toInt = lo + i) (hne : ∀ v ∈ vs, ¬ x = v) : x.toInt < lo ∨ lo + vs.length - 1 < x.toInt := by
  rcases Int.lt_or_le x.toInt lo with h | h
  · exact Or.inl h
  · rcases Int.lt_or_le (lo + vs.length - 1) x.toInt with h2 | h2
    · exact Or.inr h2
    · exfalso
      have hi : (x.toInt - lo).toNat < vs.length := by omega
      have h3 := hv _ hi
      rw [show lo + ((x.toInt - lo).toNat : Int) = x.toInt by omega] at h3
      have h4 := Int32.toInt_inj.mp h3
      refine hne (vs.getD (x.toInt - lo).toNat 0) ?_ h4.symm
      rw [List.getD_eq_getElem?_getD, List.getElem?_eq_getElem hi]
      exact List.getElem_mem hi
end XD
/-- a choice on an optional reference -/
def oM {α : Type} (o : Option Nat) (A : α) (B : Nat → α) : α := match o with
  | none => A
  | some k => B k
abbrev Wro (d : Nat) (v : Option Value) (p : Program) (l : Launch) (e : Env) (s : State) (m : MethodId) (args : Array Value) (below : List Frame) (meth : Method) (c : Code) (pc : Nat) (ls : Array Slot) (st : List Value) : Prop := W p l e (rmOf d 0 0) s m args below meth c s.heap [] 0 0 (MQ below (roQ v) args s 0 0 (fun _ => False)) (F0 m pc ls st)
abbrev Wrw (d mc ms : Nat) (D : va_G) (A : Nat → Prop) (post : Option Value → va_W → Prop) (p : Program) (l : Launch) (e : Env) (s : State) (m : MethodId) (args : Array Value) (below : List Frame) (meth : Method) (c : Code) (H : Heap) (locs : List Loc) (cells slots pc : Nat) (ls : Array Slot) (st : List Value) : Prop := W p l e (rmOf d mc ms) s m args below meth c H locs cells slots (MQ below (rwQ D A post) args s mc ms A) (F0 m pc ls st)
theorem emP {D : va_G} {cl : List vw_C} {H : Heap} : va_P D cl [] H := fun k q h => by simp at h
theorem Nat_nd {l : List Nat} (h : va_nd l = true) : va_nd l = true := h
theorem nd_sh (k : Nat) : va_nd [46+2*k, 46+2*k+1] = true := by simp [va_nd]
theorem bI_fit (b : Bool) : fits .boolean (.int (bI b)) = true := by cases b <;> rfl
theorem inb_lt {i : Int32} {n : Nat} (h : inb i n = true) : i.toNatClampNeg < n := Nat.not_le.mp fun q => inb_in h (Or.inr q)
def jushr (x y : Int32) : Int32 := (x.toUInt32 >>> (y.toUInt32 &&& Int32.toUInt32 31)).toInt32
section XE
variable {p : Program} {l : Launch} {e : Env} {R : Room} {s : State} {m : MethodId} {args : Array Value} {below : List Frame} {meth : Method} {c : Code} {H : Heap} {locs : List Loc} {cells slots : Nat} {Q : State → Prop}
variable {cc : ByteArray} {pc nL : Nat} {ls : Array Slot} {rest : List Value} {own : String} {α : Type} {D : va_G} {cA : Nat → ClassId} {ws : va_W} {a : Nat}
/-- an array of shelves, an array of arrays: the element's cell -/
theorem aldS {n : Nat} {f : Nat → Option Nat} {g : Nat → Nat} {i : Int32} {r : α} {K : Option α} {cy : ClassId} {C : String} (F : CallFix p m c cc nL s args ALL own) (hK : KK D cA s) (hP : va_P D vwCl ws H) (q0 : Nat) (ha : ws[q0]? = some (a, .inl (cy, n, .inr (.inr (.inr (.inr f)))))) (t0 : Nat) (ht : (tyL cA)[t0]? = some (cy, .object C)) (hf : ∀ j, f j = some (g j)) (h : gd (inb i n) K = some r) (hdg : decode cc pc = .ok (.aaload, 1))
    (kk : inb i n = true → K = some r → W p l e R s m args below meth c H locs cells slots Q (F0 m (pc + 1) ls (.ref (g i.toNatClampNeg) :: rest))) : W p l e R s m args below meth c H locs cells slots Q (F0 m pc ls (.int i :: .ref a :: rest)) := by
  have h1 := kk (gd_some h).1 (gd_some h).2
  refine va_aldq F.1 F.2.1 hK.1 hP q0 t0 ha ht (inb_in (gd_some h).1) hdg ?_
  rw [hf]
  exact h1
theorem aldA {n : Nat} {f : Nat → Option Nat} {g : Nat → Nat} {i : Int32} {r : α} {K : Option α} {cy : ClassId} {ty : FieldType} (F : CallFix p m c cc nL s args ALL own) (hK : KK D cA s) (hP : va_P D vwCl ws H) (q0 : Nat) (ha : ws[q0]? = some (a, .inl (cy, n, .inr (.inr (.inr (.inr f)))))) (t0 : Nat) (ht : (tyL cA)[t0]? = some (cy, .array ty)) (hf : ∀ j, f j = some (g j)) (h : gd (inb i n) K = some r) (hdg : decode cc pc = .ok (.aaload, 1))
    (kk : inb i n = true → K = some r → W p l e R s m args below meth c H locs cells slots Q (F0 m (pc + 1) ls (.ref (g i.toNatClampNeg) :: rest))) : W p l e R s m args below meth c H locs cells slots Q (F0 m pc ls (.int i :: .ref a :: rest)) := by
  have hin := inb_in (gd_some h).1
  have hlt : i.toNatClampNeg < n := Nat.not_le.mp fun q => hin (Or.inr q)
  refine W.aald (v := .ref (g i.toNatClampNeg)) (ty := .array ty) F.1 F.2.1 (hP q0 _ ha) ((hK.1.2 t0 _ ht).1 n (fun j => va_rf (f j))) rfl (fun q => by cases q) (by show ¬ (i < 0 ∨ (arrV _ _ _).slots.size ≤ _); rw [arrV_size]; exact hin) (by show (arrV _ _ _).slots[_]? = _; rw [arrV_read _ _ hlt, hf]; rfl) rfl rfl hdg (kk (gd_some h).1 (gd_some h).2)
end XE
theorem nar_int (x : Int32) : narrow .int (.int x) = .int x := rfl
theorem fit_int (x : Int32) : fits .int (.int x) = true := rfl
theorem jc2 {ws : va_W} {i j : Nat} {x y : Nat × va_E} (ha : ws[i]? = some x) (hb : ws[j]? = some y) : [i, j].map (fun k => ws[k]?) = [x, y].map some := by simp [ha, hb]
theorem js2 {ws W' : va_W} {i j : Nat} {x y : Nat × va_E} (ha : ws[i]? = some x) (h : ws.set j y = W') : putAll ws [i, j] [x, y] = W' := by
  show (ws.set i x).set j y = W'
  have e : ws.set i x = ws := by
    obtain ⟨hi, he⟩ := List.getElem?_eq_some_iff.mp ha
    rw [← he]
    exact List.set_getElem_self hi
  rw [e]
  exact h
theorem nd2 {i j : Nat} (h : i ≠ j) : va_nd [i, j] = true := by simp [va_nd, h]
def acok (sp dp n : Int32) (n0 n1 : Nat) : Bool := decide (¬ sp < 0) && (decide (¬ dp < 0) && (decide (¬ n < 0) && (decide (sp.toNatClampNeg + n.toNatClampNeg ≤ n0) && decide (dp.toNatClampNeg + n.toNatClampNeg ≤ n1))))
theorem acok_of {sp dp n : Int32} {n0 n1 : Nat} (h : acok sp dp n n0 n1 = true) : ¬ sp < 0 ∧ ¬ dp < 0 ∧ ¬ n < 0 ∧ sp.toNatClampNeg + n.toNatClampNeg ≤ n0 ∧ dp.toNatClampNeg + n.toNatClampNeg ≤ n1 := by
  unfold acok at h
  simp only [Bool.and_eq_true, decide_eq_true_eq] at h
  exact h
def LkA (own : String) (idx : Nat) : Prop := Cond.methodLink own idx arraycopyName ∈ ALL ∧ Cond.native arraycopyName ∈ ALL ∧ Cond.static arraycopyName ∈ ALL ∧ Cond.initialized "java/lang/System" ∈ ALL
def LkN (own : String) (idx ci n : Nat) (fs : List Value) : Prop := ∃ (C : String) (T : u_T) (t0 : Nat → FieldType), vwCl[ci]? = some (C, T, n) ∧ (∀ w ∈ u_ws C T n, w ∈ ALL) ∧ (∀ k, k < n → parseFieldDescriptor (T k).2.2.1 = some (t0 k)) ∧ Cond.classLink own idx C ∈ ALL ∧ Cond.instantiable C n ∈ ALL ∧ Cond.initialized C ∈ ALL ∧ ∀ j, j < n → defaultValue (t0 j) = vp_V fs j
def LkO (own : String) (idx : Nat) : Prop := Cond.methodLink own idx Lib.objectInit ∈ ALL ∧ Cond.instanceMethod Lib.objectInit ∈ ALL ∧ Cond.code Lib.objectInit ⟨#[0xb1]⟩ 1 none ∈ ALL
section XN
variable {p : Program} {l : Launch} {e : Env} {R : Room} {s : State} {m : MethodId} {args : Array Value} {below : List Frame} {meth : Method} {c : Code} {H : Heap} {locs : List Loc} {cells slots : Nat} {Q : State → Prop}
variable {cc : ByteArray} {pc nL : Nat} {ls : Array Slot} {rest : List Value} {own : String} {α : Type} {D : va_G} {cA : Nat → ClassId} {A : Nat → Prop} {ws : va_W} {a idx : Nat} {H0 : Heap} {lv : List (Nat × Value)}
theorem acopyI {a0 n0 n1 : Nat} {f g : Nat → Int32} {sp dp n : Int32} {r : α} {K : Option α} (F : CallFix p m c cc nL s args ALL own) (hK : KK D cA s) (hP : va_P D vwCl ws H) (hD : va_D A ws) (hS : va_S A H0 H locs) (G : LkA own idx) (hls : lv_has ls nL lv) (q0 q1 : Nat) (ha0 : ws[q0]? = some (a0, .inl (cA 0, n0, .inl f))) (ha1 : ws[q1]? = some (a, .inl (cA 0, n1, .inl g))) (h : gd (acok sp dp n n0 n1) K = some r) {ws' : va_W} (hw : ws.set q1 (a, .inl (cA 0, n1, .inl (va_cpy f g sp.toNatClampNeg dp.toNatClampNeg n.toNatClampNeg))) = ws')
    (hframes : 1 ≤ R.frames) (hlocals : (rest.map fun v => v.category).sum + (nativeFrameWords "java/lang/System" "arraycopy" 5 + 11) ≤ R.locals) (hdg : decode cc pc = .ok (.invokestatic idx, 3))
    (kk : K = some r → ∀ (H1 : Heap) (locs1 : List Loc), va_P D vwCl ws' H1 → va_D A ws' → va_S A H0 H1 locs1 → W p l e R s m args below meth c H1 locs1 cells slots Q (F0 m (pc + 3) ls rest)) : W p l e R s m args below meth c H locs cells slots Q (F0 m pc ls (.int n :: .int dp :: .ref a :: .int sp :: .ref a0 :: rest)) := by
  obtain ⟨hg, h⟩ := gd_some h
  obtain ⟨h1, h2, h3, h4, h5⟩ := acok_of hg
  subst hw
  exact va_copyi F.1 F.2.1 (F.2.2.1.trans hls.1.symm) F.2.2.2.1 (F.2.2.2.2 _ G.1) (F.2.2.2.2 _ G.2.1) (F.2.2.2.2 _ G.2.2.1) (F.2.2.2.2 _ G.2.2.2) hK.1 hP hD hS q0 q1 0 0 (ty := .int) ha0 ha1 rfl rfl rfl h1 h2 h3 h4 h5 (fun _ _ => rfl) hframes hlocals hdg (kk h)
theorem acopyL {a0 n0 n1 : Nat} {f g : Nat → Int64} {sp dp n : Int32} {r : α} {K : Option α} (F : CallFix p m c cc nL s args ALL own) (hK : KK D cA s) (hP : va_P D vwCl ws H) (hD : va_D A ws) (hS : va_S A H0 H locs) (G : LkA own idx) (hls : lv_has ls nL lv) (q0 q1 : Nat) (ha0 : ws[q0]? = some (a0, .inl (cA 1, n0, .inr (.inl f)))) (ha1 : ws[q1]? = some (a, .inl (cA 1, n1, .inr (.inl g)))) (h : gd (acok sp dp n n0 n1) K = some r) {ws' : va_W} (hw : ws.set q1 (a, .inl (cA 1, n1, .inr (.inl (va_cpy f g sp.toNatClampNeg dp.toNatClampNeg n.toNatClampNeg)))) = ws')
    (hframes : 1 ≤ R.frames) (hlocals : (rest.map fun v => v.category).sum + (nativeFrameWords "java/lang/System" "arraycopy" 5 + 11) ≤ R.locals) (hdg : decode cc pc = .ok (.invokestatic idx, 3))
    (kk : K = some r → ∀ (H1 : Heap) (locs1 : List Loc), va_P D vwCl ws' H1 → va_D A ws' → va_S A H0 H1 locs1 → W p l e R s m args below meth c H1 locs1 cells slots Q (F0 m (pc + 3) ls rest)) : W p l e R s m args below meth c H locs cells slots Q (F0 m pc ls (.int n :: .int dp :: .ref a :: .int sp :: .ref a0 :: rest)) := by
  obtain ⟨hg, h⟩ := gd_some h
  obtain ⟨h1, h2, h3, h4, h5⟩ := acok_of hg
  subst hw
  exact va_copyl F.1 F.2.1 (F.2.2.1.trans hls.1.symm) F.2.2.2.1 (F.2.2.2.2 _ G.1) (F.2.2.2.2 _ G.2.1) (F.2.2.2.2 _ G.2.2.1) (F.2.2.2.2 _ G.2.2.2) hK.1 hP hD hS q0 q1 1 1 (ty := .long) ha0 ha1 rfl rfl rfl h1 h2 h3 h4 h5 (fun _ _ => rfl) hframes hlocals hdg (kk h)
theorem newO {ci n : Nat} {fs : List Value} (F : CallFix p m c cc nL s args ALL own) (hK : KK D cA s) (hP : va_P D vwCl ws H) (hD : va_D A ws) (hS : va_S A H0 H locs) (hA : ∀ q, H0.size ≤ q → A q) (G : LkN own idx ci n fs) (hcells : cells + 1 ≤ R.cells) (hslots : slots + n ≤ R.slots) (hdg : decode cc pc = .ok (.new idx, 3))
    (kk : ∀ (q : Nat) (H1 : Heap), va_P D vwCl (ws ++ [(q, .inr (ci, fs))]) H1 → va_D A (ws ++ [(q, .inr (ci, fs))]) → va_S A H0 H1 locs → W p l e R s m args below meth c H1 locs (cells + 1) (slots + n) Q (F0 m (pc + 3) ls (.ref q :: rest))) : W p l e R s m args below meth c H locs cells slots Q (F0 m pc ls rest) := by
  obtain ⟨C, T, t0, h1, h2, h3, h4, h5, h6, h7⟩ := G
  exact va_new F.1 F.2.1 F.2.2.2.2 h2 t0 h3 F.2.2.2.1 (F.2.2.2.2 _ h4) (F.2.2.2.2 _ h5) (F.2.2.2.2 _ h6) hK.1 hP hD hS hA h1 h7 hcells hslots hdg kk
theorem oinit (F : CallFix p m c cc nL s args ALL own) (G : LkO own idx) (hls : lv_has ls nL lv) (hframes : 1 ≤ R.frames) (hlocals : (rest.map fun v => v.category).sum + 12 ≤ R.locals) (hdg : decode cc pc = .ok (.invokespecial idx, 3))
    (kk : W p l e R s m args below meth c H locs cells slots Q (F0 m (pc + 3) ls rest)) : W p l e R s m args below meth c H locs cells slots Q (F0 m pc ls (.ref a :: rest)) :=
  W.objInit F.1 F.2.1 F.2.2.2.1 (F.2.2.2.2 _ G.1) (F.2.2.2.2 _ G.2.1) (F.2.2.2.2 _ G.2.2) rfl (hls.1.trans F.2.2.1.symm) rfl hdg hframes (by show 2 * 0 + _ + 12 ≤ _; omega) kk
/-- a new array of a known kind -/
theorem newA {atype : ArrayType} {ty : FieldType} {t0 : Nat} {N' : Nat} {n : Int32} {a0 : (Nat → Int32) ⊕ (Nat → Int64) ⊕ (Nat → UInt32) ⊕ (Nat → UInt64) ⊕ (Nat → Option Nat)} (F : CallFix p m c cc nL s args ALL own) (hK : KK D cA s) (hP : va_P D vwCl ws H) (hD : va_D A ws) (hS : va_S A H0 H locs) (hA : ∀ q, H0.size ≤ q → A q) (harr : Cond.arrayClass (newarray.typeOf atype) ∈ ALL) (hty : newarray.typeOf atype = ty) (ht : (tyL cA)[t0]? = some (cA t0, ty)) (hob : ∀ U c1 c2, va_RA U c1 ty → va_RA U c2 ty → c1 = c2)
    (ha : ∀ cB : ClassId, vp_cell cB (N', a0) = arrV cB N' (fun _ => defaultValue ty)) (hn : ¬ n < 0) (hN : n.toNatClampNeg = N') (hbytes : N' * componentBytes ty ≤ 536870912) (hcells : cells + 1 ≤ R.cells) (hslots : slots + N' ≤ R.slots) (hdg : decode cc pc = .ok (.newarray atype, 2))
    (kk : ∀ (q : Nat) (H1 : Heap), va_P D vwCl (ws ++ [(q, .inl (cA t0, N', a0))]) H1 → va_D A (ws ++ [(q, .inl (cA t0, N', a0))]) → va_S A H0 H1 locs → W p l e R s m args below meth c H1 locs (cells + 1) (slots + N') Q (F0 m (pc + 2) ls (.ref q :: rest))) : W p l e R s m args below meth c H locs cells slots Q (F0 m pc ls (.int n :: rest)) := by
  refine va_newa F.1 F.2.1 (F.2.2.2.2 _ harr) hty hK.1 hP hD hS hA (a0 := (N', a0)) ha hn hN hbytes hcells hslots hdg (fun q cB H1 hK1 hP1 hD1 hS1 => ?_)
  have e1 : cB = cA t0 := hob s cB (cA t0) (hK1.2 6 (cB, ty) (by show (tyL cA ++ [(cB, ty)])[6]? = _; rfl)).2 (hK.1.2 t0 _ ht).2
  subst e1
  exact kk q H1 hP1 hD1 hS1
theorem ra_int (U : State) (c1 c2 : ClassId) (h1 : va_RA U c1 .int) (h2 : va_RA U c2 .int) : c1 = c2 := Option.some.inj ((show U.vm.findClass _ = some c1 from h1).symm.trans h2)
theorem ra_long (U : State) (c1 c2 : ClassId) (h1 : va_RA U c1 .long) (h2 : va_RA U c2 .long) : c1 = c2 := Option.some.inj ((show U.vm.findClass _ = some c1 from h1).symm.trans h2)
theorem ra_bool (U : State) (c1 c2 : ClassId) (h1 : va_RA U c1 .boolean) (h2 : va_RA U c2 .boolean) : c1 = c2 := Option.some.inj ((show U.vm.findClass _ = some c1 from h1).symm.trans h2)
theorem vc_int (N' : Nat) (cB : ClassId) : vp_cell cB (N', .inl (fun _ => (0 : Int32))) = arrV cB N' (fun _ => defaultValue .int) := by rw [vp_cell_i]; rfl
theorem vc_bool (N' : Nat) (cB : ClassId) : vp_cell cB (N', .inl (fun _ => (0 : Int32))) = arrV cB N' (fun _ => defaultValue .boolean) := by rw [vp_cell_i]; rfl
theorem vc_long (N' : Nat) (cB : ClassId) : vp_cell cB (N', .inr (.inl (fun _ => (0 : Int64)))) = arrV cB N' (fun _ => defaultValue .long) := by rw [vp_cell_l]; rfl
end XN
theorem jc_last {L : va_W} {n : Nat} {x : Nat × va_E} (hl : L.length = n) : [n].map (fun i => (L ++ [x])[i]?) = [x].map some := by subst hl; simp
theorem js_last {L : va_W} {n : Nat} {x y : Nat × va_E} (hl : L.length = n) : putAll (L ++ [x]) [n] [y] = L ++ [y] := by subst hl; simp [putAll]
/-! ===== methods that read beside the worlds: constant texts ===== -/
def ROX (mi : MI) (d : Nat) (D : va_G) (cA : Nat → ClassId) (av : List Value) (ws : va_W) (E : State → Prop) (v : Option Value) : Prop := ∀ l : Launch, Met l mi.1 (wk mi) (rmOf d 0 0) (va_Pc av (fun U => va_P D vwCl ws U.heap ∧ KK D cA U ∧ E U)) (roQ v) 0 0 (fun _ => False)
theorem ROX.ofW {mi : MI} {d : Nat} {D : va_G} {cA : Nat → ClassId} {av : List Value} {ws : va_W} {E : State → Prop} {v : Option Value} (hy : plainFor mi.1 = true) (hn : (lg_sl av).length ≤ mi.2.2.1)
    (body : ∀ (l : Launch) (p : Program) (e : Env) (s : State) (m : MethodId) (below : List Frame) (meth : Method) (c : Code), CallFix p m c mi.2.1 mi.2.2.1 s av.toArray ALL mi.1.cls → meth.sig.returnType = mi.2.2.2 → meth.locks = false → KK D cA s → va_P D vwCl ws s.heap → va_S (fun _ => False) s.heap s.heap [] → (∀ q : Nat, False → cA 9 ≤ q) → E s → ∀ ls, lv_has ls mi.2.2.1 (lv_args 0 av) → W p l e (rmOf d 0 0) s m av.toArray below meth c s.heap [] 0 0 (MQ below (roQ v) av.toArray s 0 0 (fun _ => False)) (F0 m 0 ls [])) : ROX mi d D cA av ws E v := by
  intro l
  refine va_MetF (cc := mi.2.1) (maxL := mi.2.2.1) (ret := mi.2.2.2) hy rfl ?_
  intro p e s m args' below meth c s₁ B hml hv
  obtain ⟨rfl, hP, hK, hE⟩ := hv
  have hts := atoms_spec (ws := wk mi) B.pre
  rw [lg_entry_eq]
  exact body l p e s m below meth c ⟨B.exec, B.bytes, hml, findClass_of_methodNamed B.named, fun w hw => hts w (List.mem_cons_of_mem _ hw)⟩ B.returns B.notSynchronized hK hP va_S.rf (fun _ h => h.elim) hE _ (lv_entry av hn)
abbrev isStr (cA : Nat → ClassId) (a : Nat) (w : List Int32) (U : State) : Prop := StrOK (fun z => cA 9 ≤ z) U U.heap a w
abbrev isByt (cA : Nat → ClassId) (v : Nat) (w : List Int32) (U : State) : Prop := va_T .byte v w.length (fun j => .int (w.getD j 0)) (fun z => cA 9 ≤ z) U U.heap
section XS2
variable {p : Program} {l : Launch} {e : Env} {R : Room} {s : State} {m : MethodId} {args : Array Value} {below : List Frame} {meth : Method} {c : Code} {H : Heap} {locs : List Loc} {cells slots : Nat} {Q : State → Prop}
variable {cc : ByteArray} {pc nL : Nat} {ls : Array Slot} {rest : List Value} {own : String} {D : va_G} {cA : Nat → ClassId} {A : Nat → Prop} {ws wc : va_W} {a idx : Nat} {av : List Value} {w : List Int32}
theorem preStr (hK : KK D cA s) (hS : va_S A s.heap H locs) (hAb : ∀ q, A q → cA 9 ≤ q) (hP : va_P D vwCl wc H) (hE : isStr cA a w s) : PreC s H (va_Pc av (fun U => va_P D vwCl wc U.heap ∧ KK D cA U ∧ isStr cA a w U)) av :=
  ⟨fun a U g mk q => by obtain ⟨q0, qP, qK, qE⟩ := q; exact ⟨q0, qP, qK.call, StrOK.moved (u := U) (U := U.calling g mk a) (Vm.Alike.refl U.vm) qE⟩, fun U hU hW => ⟨rfl, by rw [hU]; exact hP, hK.at hS hAb hU hW, by unfold isStr; rw [hU]; exact (hE.kept (keptB hS hAb)).moved hW.alike⟩⟩
theorem preByt (hK : KK D cA s) (hS : va_S A s.heap H locs) (hAb : ∀ q, A q → cA 9 ≤ q) (hP : va_P D vwCl wc H) (hE : isByt cA a w s) : PreC s H (va_Pc av (fun U => va_P D vwCl wc U.heap ∧ KK D cA U ∧ isByt cA a w U)) av :=
  ⟨fun a U g mk q => by obtain ⟨q0, qP, qK, qE⟩ := q; exact ⟨q0, qP, qK.call, va_T.moved (u := U) (U := U.calling g mk a) (Vm.Alike.refl U.vm) qE⟩, fun U hU hW => ⟨rfl, by rw [hU]; exact hP, hK.at hS hAb hU hW, by unfold isByt; rw [hU]; exact va_T.moved hW.alike (hE.kept (keptB hS hAb))⟩⟩
theorem rcvStr (hS : va_S A s.heap H locs) (hAb : ∀ q, A q → cA 9 ≤ q) (hE : isStr cA a w s) : Rcv s H cN a := by
  obtain ⟨cell, h1, h2, h3, -⟩ := hE.1.kept (keptB hS hAb)
  exact ⟨cell, h1, h2, h3⟩
theorem ldcStr {tx : String} (F : CallFix p m c cc nL s args ALL own) (hK : KK D cA s) (hs : (own, idx, tx, w) ∈ sites) (hdg : decode cc pc = .ok (.ldc idx, 2))
    (kk : ∀ q : Nat, isStr cA q w s → W p l e R s m args below meth c H locs cells slots Q (F0 m (pc + 2) ls (.ref q :: rest))) : W p l e R s m args below meth c H locs cells slots Q (F0 m pc ls rest) := by
  obtain ⟨a, h1, h2⟩ := hK.2.2.1.1 _ hs
  exact va_ldcS F.1 F.2.1 F.2.2.2.1 h1 hdg (kk a h2)
theorem ro_gen {R : Room} {x : Int32} {ty : FieldType} {v : Option Value} (F : CallFix p m c cc nL s args ALL own) (hr : meth.sig.returnType = some ty) (hn : narrow ty (.int x) = .int x) (hlk : meth.locks = false) (hv : some (Value.int x) = v) (hdg : decode cc pc = .ok (.ireturn, 1)) : W p l e R s m args below meth c s.heap [] 0 0 (MQ below (roQ v) args s 0 0 (fun _ => False)) (F0 m pc ls [.int x]) := W.zret F.1 F.2.1 hr hn (fun t ht _ => ⟨by rw [hv], ht⟩) (fun _ h => by cases h) hdg hlk
theorem ro_v {R : Room} (F : CallFix p m c cc nL s args ALL own) (hr : meth.sig.returnType = none) (hlk : meth.locks = false) (hdg : decode cc pc = .ok (.return_, 1)) : W p l e R s m args below meth c s.heap [] 0 0 (MQ below (roQ none) args s 0 0 (fun _ => False)) (F0 m pc ls []) := W.vret F.1 F.2.1 hr (fun t ht _ => ⟨rfl, ht⟩) (fun _ h => by cases h) hdg hlk
end XS2
def strch (w : List Int32) (i : Int32) : Int32 := ((w.getD i.toNatClampNeg 0 &&& 255).toUInt32 % 65536).toInt32
theorem strch_nar (w : List Int32) (i : Int32) : narrow .char (.int (strch w i)) = .int (strch w i) := by
  unfold strch
  rw [sc_c2]
  exact sc_nar _
theorem inb_lt2 {i : Int32} {n : Nat} (h : inb i n = true) (hn : n < 2 ^ 31) : ¬ i < 0 ∧ i < nI n := by
  have h1 := inb_in h
  obtain ⟨j, hj, rfl⟩ := vp_in_of h1 hn
  exact ⟨nI_pos (by omega), nI_lt hj hn⟩
/-! receivers by their class: a literal name (a projection costs the unifier a third of a second a call) -/
theorem rcv_0 {D : va_G} {cA : Nat → ClassId} {s : State} {H : Heap} {ws : va_W} {b : Addr} {q0 : Nat} {fs : List Value} (hK : KK D cA s) (hP : va_P D vwCl ws H) (he : ws[q0]? = some (b, .inr (0, fs))) : Rcv s H "MoonOverTheHill$Few" b := rcv hK hP he rfl
theorem rcv_1 {D : va_G} {cA : Nat → ClassId} {s : State} {H : Heap} {ws : va_W} {b : Addr} {q0 : Nat} {fs : List Value} (hK : KK D cA s) (hP : va_P D vwCl ws H) (he : ws[q0]? = some (b, .inr (1, fs))) : Rcv s H "MoonOverTheHill$Hill" b := rcv hK hP he rfl
theorem rcv_2 {D : va_G} {cA : Nat → ClassId} {s : State} {H : Heap} {ws : va_W} {b : Addr} {q0 : Nat} {fs : List Value} (hK : KK D cA s) (hP : va_P D vwCl ws H) (he : ws[q0]? = some (b, .inr (2, fs))) : Rcv s H "MoonOverTheHill$Moon" b := rcv hK hP he rfl
theorem rcv_3 {D : va_G} {cA : Nat → ClassId} {s : State} {H : Heap} {ws : va_W} {b : Addr} {q0 : Nat} {fs : List Value} (hK : KK D cA s) (hP : va_P D vwCl ws H) (he : ws[q0]? = some (b, .inr (3, fs))) : Rcv s H "MoonOverTheHill$Places" b := rcv hK hP he rfl
theorem rcv_4 {D : va_G} {cA : Nat → ClassId} {s : State} {H : Heap} {ws : va_W} {b : Addr} {q0 : Nat} {fs : List Value} (hK : KK D cA s) (hP : va_P D vwCl ws H) (he : ws[q0]? = some (b, .inr (4, fs))) : Rcv s H "MoonOverTheHill$Question" b := rcv hK hP he rfl
theorem rcv_5 {D : va_G} {cA : Nat → ClassId} {s : State} {H : Heap} {ws : va_W} {b : Addr} {q0 : Nat} {fs : List Value} (hK : KK D cA s) (hP : va_P D vwCl ws H) (he : ws[q0]? = some (b, .inr (5, fs))) : Rcv s H "MoonOverTheHill$Shelf" b := rcv hK hP he rfl
theorem rcv_6 {D : va_G} {cA : Nat → ClassId} {s : State} {H : Heap} {ws : va_W} {b : Addr} {q0 : Nat} {fs : List Value} (hK : KK D cA s) (hP : va_P D vwCl ws H) (he : ws[q0]? = some (b, .inr (6, fs))) : Rcv s H "MoonOverTheHill$State" b := rcv hK hP he rfl
theorem rcv_7 {D : va_G} {cA : Nat → ClassId} {s : State} {H : Heap} {ws : va_W} {b : Addr} {q0 : Nat} {fs : List Value} (hK : KK D cA s) (hP : va_P D vwCl ws H) (he : ws[q0]? = some (b, .inr (7, fs))) : Rcv s H "MoonOverTheHill$Tape" b := rcv hK hP he rfl
theorem rcv_8 {D : va_G} {cA : Nat → ClassId} {s : State} {H : Heap} {ws : va_W} {b : Addr} {q0 : Nat} {fs : List Value} (hK : KK D cA s) (hP : va_P D vwCl ws H) (he : ws[q0]? = some (b, .inr (8, fs))) : Rcv s H "MoonOverTheHill" b := rcv hK hP he rfl
theorem rcv_9 {D : va_G} {cA : Nat → ClassId} {s : State} {H : Heap} {ws : va_W} {b : Addr} {q0 : Nat} {fs : List Value} (hK : KK D cA s) (hP : va_P D vwCl ws H) (he : ws[q0]? = some (b, .inr (9, fs))) : Rcv s H "MoonOverTheHillModel" b := rcv hK hP he rfl
