/-- a choice on an optional reference -/
def oM {α : Type} (o : Option Nat) (A : α) (B : Nat → α) : α := match o with
  | none => A
  | some k => B k
abbrev Wro (d : Nat) (v : Option Value) (p : Program) (l : Launch) (e : Env) (s : State) (m : MethodId) (args : Array Value) (below : List Frame) (meth : Method) (c : Code) (pc : Nat) (ls : Array Slot) (st : List Value) : Prop := W p l e (rmOf d 0 0) s m args below meth c s.heap [] 0 0 (MQ below (roQ v) args s 0 0 (fun _ => False)) (F0 m pc ls st)
abbrev Wrw (d mc ms : Nat) (D : va_G) (A : Nat → Prop) (post : Option Value → va_W → Prop) (p : Program) (l : Launch) (e : Env) (s : State) (m : MethodId) (args : Array Value) (below : List Frame) (meth : Method) (c : Code) (H : Heap) (locs : List Loc) (cells slots pc : Nat) (ls : Array Slot) (st : List Value) : Prop := W p l e (rmOf d mc ms) s m args below meth c H locs cells slots (MQ below (rwQ D A post) args s mc ms A) (F0 m pc ls st)
theorem emP {D : va_G} {cl : List vw_C} {H : Heap} : va_P D cl [] H := fun k q h => by simp at h
theorem Nat_nd {l : List Nat} (h : va_nd l = true) : va_nd l = true := h
theorem nd_sh (k : Nat) : va_nd [46+2*k, 46+2*k+1] = true := by simp [va_nd]
theorem bI_fit (b : Bool) : fits .boolean (.int (bI b)) = true := by cases b <;> rfl
theorem inb_lt {i : Int32} {n : Nat} (h : inb i n = true) : i.toNatClampNeg < n := Nat.not_le.mp fun q => inb_in h (Or.inr q)
def jushr (x y : Int32) : Int32 := (x.toUInt32 >>> (y.toUInt32 &&& Int32.toUInt32 31)).toInt32
section XE
variable {p : Program} {l : Launch} {e : Env} {R : Room} {s : State} {m : MethodId} {args : Array Value} {below : List Frame} {meth : Method} {c : Code} {H : Heap} {locs : List Loc} {cells slots : Nat} {Q : State → Prop}
variable {cc : ByteArray} {pc nL : Nat} {ls : Array Slot} {rest : List Value} {own : String} {α : Type} {D : va_G} {cA : Nat → ClassId} {ws : va_W} {a : Nat}
/-- an array of shelves, an array of arrays: the element's cell -/
theorem aldS {n : Nat} {f : Nat → Option Nat} {g : Nat → Nat} {i : Int32} {r : α} {K : Option α} {cy : ClassId} {C : String} (F : CallFix p m c cc nL s args ALL own) (hK : KK D cA s) (hP : va_P D vwCl ws H) (q0 : Nat) (ha : ws[q0]? = some (a, .inl (cy, n, .inr (.inr (.inr (.inr f)))))) (t0 : Nat) (ht : (tyL cA)[t0]? = some (cy, .object C)) (hf : ∀ j, f j = some (g j)) (h : gd (inb i n) K = some r) (hdg : decode cc pc = .ok (.aaload, 1))
    (kk : inb i n = true → K = some r → W p l e R s m args below meth c H locs cells slots Q (F0 m (pc + 1) ls (.ref (g i.toNatClampNeg) :: rest))) : W p l e R s m args below meth c H locs cells slots Q (F0 m pc ls (.int i :: .ref a :: rest)) := by
  have h1 := kk (gd_some h).1 (gd_some h).2
  refine va_aldq F.1 F.2.1 hK.1 hP q0 t0 ha ht (inb_in (gd_some h).1) hdg ?_
  rw [hf]
  exact h1
theorem aldA {n : Nat} {f : Nat → Option Nat} {g : Nat → Nat} {i : Int32} {r : α} {K : Option α} {cy : ClassId} {ty : FieldType} (F : CallFix p m c cc nL s args ALL own) (hK : KK D cA s) (hP : va_P D vwCl ws H) (q0 : Nat) (ha : ws[q0]? = some (a, .inl (cy, n, .inr (.inr (.inr (.inr f)))))) (t0 : Nat) (ht : (tyL cA)[t0]? = some (cy, .array ty)) (hf : ∀ j, f j = some (g j)) (h : gd (inb i n) K = some r) (hdg : decode cc pc = .ok (.aaload, 1))
    (kk : inb i n = true → K = some r → W p l e R s m args below meth c H locs cells slots Q (F0 m (pc + 1) ls (.ref (g i.toNatClampNeg) :: rest))) : W p l e R s m args below meth c H locs cells slots Q (F0 m pc ls (.int i :: .ref a :: rest)) := by
  have hin := inb_in (gd_some h).1
  have hlt : i.toNatClampNeg < n := Nat.not_le.mp fun q => hin (Or.inr q)
  refine W.aald (v := .ref (g i.toNatClampNeg)) (ty := .array ty) F.1 F.2.1 (hP q0 _ ha) ((hK.1.2 t0 _ ht).1 n (fun j => va_rf (f j))) rfl (fun q => by cases q) (by show ¬ (i < 0 ∨ (arrV _ _ _).slots.size ≤ _); rw [arrV_size]; exact hin) (by show (arrV _ _ _).slots[_]? = _; rw [arrV_read _ _ hlt, hf]; rfl) rfl rfl hdg (kk (gd_some h).1 (gd_some h).2)
end XE
theorem nar_int (x : Int32) : narrow .int (.int x) = .int x := rfl
theorem fit_int (x : Int32) : fits .int (.int x) = true := rfl
theorem jc2 {ws : va_W} {i j : Nat} {x y : Nat × va_E} (ha : ws[i]? = some x) (hb : ws[j]? = some y) : [i, j].map (fun k => ws[k]?) = [x, y].map some := by simp [ha, hb]
theorem js2 {ws W' : va_W} {i j : Nat} {x y : Nat × va_E} (ha : ws[i]? = some x) (h : ws.set j y = W') : putAll ws [i, j] [x, y] = W' := by
  show (ws.set i x).set j y = W'
  have e : ws.set i x = ws := by
    obtain ⟨hi, he⟩ := List.getElem?_eq_some_iff.mp ha
    rw [← he]
    exact List.set_getElem_self hi
  rw [e]
  exact h
theorem nd2 {i j : Nat} (h : i ≠ j) : va_nd [i, j] = true := by simp [va_nd, h]
def acok (sp dp n : Int32) (n0 n1 : Nat) : Bool := decide (¬ sp < 0) && (decide (¬ dp < 0) && (decide (¬ n < 0) && (decide (sp.toNatClampNeg + n.toNatClampNeg ≤ n0) && decide (dp.toNatClampNeg + n.toNatClampNeg ≤ n1))))
theorem acok_of {sp dp n : Int32} {n0 n1 : Nat} (h : acok sp dp n n0 n1 = true) : ¬ sp < 0 ∧ ¬ dp < 0 ∧ ¬ n < 0 ∧ sp.toNatClampNeg + n.toNatClampNeg ≤ n0 ∧ dp.toNatClampNeg + n.toNatClampNeg ≤ n1 := by
  unfold acok at h
  simp only [Bool.and_eq_true, decide_eq_true_eq] at h
  exact h
def LkA (own : String) (idx : Nat) : Prop := Cond.methodLink own idx arraycopyName ∈ ALL ∧ Cond.native arraycopyName ∈ ALL ∧ Cond.static arraycopyName ∈ ALL ∧ Cond.initialized "java/lang/System" ∈ ALL
def LkN (own : String) (idx ci n : Nat) (fs : List Value) : Prop := ∃ (C : String) (T : u_T) (t0 : Nat → FieldType), vwCl[ci]? = some (C, T, n) ∧ (∀ w ∈ u_ws C T n, w ∈ ALL) ∧ (∀ k, k < n → parseFieldDescriptor (T k).2.2.1 = some (t0 k)) ∧ Cond.classLink own idx C ∈ ALL ∧ Cond.instantiable C n ∈ ALL ∧ Cond.initialized C ∈ ALL ∧ ∀ j, j < n → defaultValue (t0 j) = vp_V fs j
def LkO (own : String) (idx : Nat) : Prop := Cond.methodLink own idx Lib.objectInit ∈ ALL ∧ Cond.instanceMethod Lib.objectInit ∈ ALL ∧ Cond.code Lib.objectInit ⟨#[0xb1]⟩ 1 none ∈ ALL
section XN
variable {p : Program} {l : Launch} {e : Env} {R : Room} {s : State} {m : MethodId} {args : Array Value} {below : List Frame} {meth : Method} {c : Code} {H : Heap} {locs : List Loc} {cells slots : Nat} {Q : State → Prop}
variable {cc : ByteArray} {pc nL : Nat} {ls : Array Slot} {rest : List Value} {own : String} {α : Type} {D : va_G} {cA : Nat → ClassId} {A : Nat → Prop} {ws : va_W} {a idx : Nat} {H0 : Heap} {lv : List (Nat × Value)}
theorem acopyI {a0 n0 n1 : Nat} {f g : Nat → Int32} {sp dp n : Int32} {r : α} {K : Option α} (F : CallFix p m c cc nL s args ALL own) (hK : KK D cA s) (hP : va_P D vwCl ws H) (hD : va_D A ws) (hS : va_S A H0 H locs) (G : LkA own idx) (hls : lv_has ls nL lv) (q0 q1 : Nat) (ha0 : ws[q0]? = some (a0, .inl (cA 0, n0, .inl f))) (ha1 : ws[q1]? = some (a, .inl (cA 0, n1, .inl g))) (h : gd (acok sp dp n n0 n1) K = some r) {ws' : va_W} (hw : ws.set q1 (a, .inl (cA 0, n1, .inl (va_cpy f g sp.toNatClampNeg dp.toNatClampNeg n.toNatClampNeg))) = ws')
    (hframes : 1 ≤ R.frames) (hlocals : (rest.map fun v => v.category).sum + (nativeFrameWords "java/lang/System" "arraycopy" 5 + 11) ≤ R.locals) (hdg : decode cc pc = .ok (.invokestatic idx, 3))
    (kk : K = some r → ∀ (H1 : Heap) (locs1 : List Loc), va_P D vwCl ws' H1 → va_D A ws' → va_S A H0 H1 locs1 → W p l e R s m args below meth c H1 locs1 cells slots Q (F0 m (pc + 3) ls rest)) : W p l e R s m args below meth c H locs cells slots Q (F0 m pc ls (.int n :: .int dp :: .ref a :: .int sp :: .ref a0 :: rest)) := by
  obtain ⟨hg, h⟩ := gd_some h
  obtain ⟨h1, h2, h3, h4, h5⟩ := acok_of hg
  subst hw
  exact va_copyi F.1 F.2.1 (F.2.2.1.trans hls.1.symm) F.2.2.2.1 (F.2.2.2.2 _ G.1) (F.2.2.2.2 _ G.2.1) (F.2.2.2.2 _ G.2.2.1) (F.2.2.2.2 _ G.2.2.2) hK.1 hP hD hS q0 q1 0 0 (ty := .int) ha0 ha1 rfl rfl rfl h1 h2 h3 h4 h5 (fun _ _ => rfl) hframes hlocals hdg (kk h)
theorem acopyL {a0 n0 n1 : Nat} {f g : Nat → Int64} {sp dp n : Int32} {r : α} {K : Option α} (F : CallFix p m c cc nL s args ALL own) (hK : KK D cA s) (hP : va_P D vwCl ws H) (hD : va_D A ws) (hS : va_S A H0 H locs) (G : LkA own idx) (hls : lv_has ls nL lv) (q0 q1 : Nat) (ha0 : ws[q0]? = some (a0, .inl (cA 1, n0, .inr (.inl f)))) (ha1 : ws[q1]? = some (a, .inl (cA 1, n1, .inr (.inl g)))) (h : gd (acok sp dp n n0 n1) K = some r) {ws' : va_W} (hw : ws.set q1 (a, .inl (cA 1, n1, .inr (.inl (va_cpy f g sp.toNatClampNeg dp.toNatClampNeg n.toNatClampNeg)))) = ws')
    (hframes : 1 ≤ R.frames) (hlocals : (rest.map fun v => v.category).sum + (nativeFrameWords "java/lang/System" "arraycopy" 5 + 11) ≤ R.locals) (hdg : decode cc pc = .ok (.invokestatic idx, 3))
    (kk : K = some r → ∀ (H1 : Heap) (locs1 : List Loc), va_P D vwCl ws' H1 → va_D A ws' → va_S A H0 H1 locs1 → W p l e R s m args below meth c H1 locs1 cells slots Q (F0 m (pc + 3) ls rest)) : W p l e R s m args below meth c H locs cells slots Q (F0 m pc ls (.int n :: .int dp :: .ref a :: .int sp :: .ref a0 :: rest)) := by
  obtain ⟨hg, h⟩ := gd_some h
  obtain ⟨h1, h2, h3, h4, h5⟩ := acok_of hg
  subst hw
  exact va_copyl F.1 F.2.1 (F.2.2.1.trans hls.1.symm) F.2.2.2.1 (F.2.2.2.2 _ G.1) (F.2.2.2.2 _ G.2.1) (F.2.2.2.2 _ G.2.2.1) (F.2.2.2.2 _ G.2.2.2) hK.1 hP hD hS q0 q1 1 1 (ty := .long) ha0 ha1 rfl rfl rfl h1 h2 h3 h4 h5 (fun _ _ => rfl) hframes hlocals hdg (kk h)
theorem newO {ci n : Nat} {fs : List Value} (F : CallFix p m c cc nL s args ALL own) (hK : KK D cA s) (hP : va_P D vwCl ws H) (hD : va_D A ws) (hS : va_S A H0 H locs) (hA : ∀ q, H0.size ≤ q → A q) (G : LkN own idx ci n fs) (hcells : cells + 1 ≤ R.cells) (hslots : slots + n ≤ R.slots) (hdg : decode cc pc = .ok (.new idx, 3))
    (kk : ∀ (q : Nat) (H1 : Heap), va_P D vwCl (ws ++ [(q, .inr (ci, fs))]) H1 → va_D A (ws ++ [(q, .inr (ci, fs))]) → va_S A H0 H1 locs → W p l e R s m args below meth c H1 locs (cells + 1) (slots + n) Q (F0 m (pc + 3) ls (.ref q :: rest))) : W p l e R s m args below meth c H locs cells slots Q (F0 m pc ls rest) := by
  obtain ⟨C, T, t0, h1, h2, h3, h4, h5, h6, h7⟩ := G
  exact va_new F.1 F.2.1 F.2.2.2.2 h2 t0 h3 F.2.2.2.1 (F.2.2.2.2 _ h4) (F.2.2.2.2 _ h5) (F.2.2.2.2 _ h6) hK.1 hP hD hS hA h1 h7 hcells hslots hdg kk
theorem oinit (F : CallFix p m c cc nL s args ALL own) (G : LkO own idx) (hls : lv_has ls nL lv) (hframes : 1 ≤ R.frames) (hlocals : (rest.map fun v => v.category).sum + 12 ≤ R.locals) (hdg : decode cc pc = .ok (.invokespecial idx, 3))
    (kk : W p l e R s m args below meth c H locs cells slots Q (F0 m (pc + 3) ls rest)) : W p l e R s m args below meth c H locs cells slots Q (F0 m pc ls (.ref a :: rest)) :=
  W.objInit F.1 F.2.1 F.2.2.2.1 (F.2.2.2.2 _ G.1) (F.2.2.2.2 _ G.2.1) (F.2.2.2.2 _ G.2.2) rfl (hls.1.trans F.2.2.1.symm) rfl hdg hframes (by show 2 * 0 + _ + 12 ≤ _; omega) kk
/-- a new array of a known kind -/
theorem newA {atype : ArrayType} {ty : FieldType} {t0 : Nat} {N' : Nat} {n : Int32} {a0 : (Nat → Int32) ⊕ (Nat → Int64) ⊕ (Nat → UInt32) ⊕ (Nat → UInt64) ⊕ (Nat → Option Nat)} (F : CallFix p m c cc nL s args ALL own) (hK : KK D cA s) (hP : va_P D vwCl ws H) (hD : va_D A ws) (hS : va_S A H0 H locs) (hA : ∀ q, H0.size ≤ q → A q) (harr : Cond.arrayClass (newarray.typeOf atype) ∈ ALL) (hty : newarray.typeOf atype = ty) (ht : (tyL cA)[t0]? = some (cA t0, ty)) (hob : ∀ U c1 c2, va_RA U c1 ty → va_RA U c2 ty → c1 = c2)
    (ha : ∀ cB : ClassId, vp_cell cB (N', a0) = arrV cB N' (fun _ => defaultValue ty)) (hn : ¬ n < 0) (hN : n.toNatClampNeg = N') (hbytes : N' * componentBytes ty ≤ 536870912) (hcells : cells + 1 ≤ R.cells) (hslots : slots + N' ≤ R.slots) (hdg : decode cc pc = .ok (.newarray atype, 2))
    (kk : ∀ (q : Nat) (H1 : Heap), va_P D vwCl (ws ++ [(q, .inl (cA t0, N', a0))]) H1 → va_D A (ws ++ [(q, .inl (cA t0, N', a0))]) → va_S A H0 H1 locs → W p l e R s m args below meth c H1 locs (cells + 1) (slots + N') Q (F0 m (pc + 2) ls (.ref q :: rest))) : W p l e R s m args below meth c H locs cells slots Q (F0 m pc ls (.int n :: rest)) := by
  refine va_newa F.1 F.2.1 (F.2.2.2.2 _ harr) hty hK.1 hP hD hS hA (a0 := (N', a0)) ha hn hN hbytes hcells hslots hdg (fun q cB H1 hK1 hP1 hD1 hS1 => ?_)
  have e1 : cB = cA t0 := hob s cB (cA t0) (hK1.2 6 (cB, ty) (by show (tyL cA ++ [(cB, ty)])[6]? = _; rfl)).2 (hK.1.2 t0 _ ht).2
  subst e1
  exact kk q H1 hP1 hD1 hS1
theorem ra_int (U : State) (c1 c2 : ClassId) (h1 : va_RA U c1 .int) (h2 : va_RA U c2 .int) : c1 = c2 := Option.some.inj ((show U.vm.findClass _ = some c1 from h1).symm.trans h2)
theorem ra_long (U : State) (c1 c2 : ClassId) (h1 : va_RA U c1 .long) (h2 : va_RA U c2 .long) : c1 = c2 := Option.some.inj ((show U.vm.findClass _ = some c1 from h1).symm.trans h2)
theorem ra_bool (U : State) (c1 c2 : ClassId) (h1 : va_RA U c1 .boolean) (h2 : va_RA U c2 .boolean) : c1 = c2 := Option.some.inj ((show U.vm.findClass _ = some c1 from h1).symm.trans h2)
theorem vc_int (N' : Nat) (cB : ClassId) : vp_cell cB (N', .inl (fun _ => (0 : Int32))) = arrV cB N' (fun _ => defaultValue .int) := by rw [vp_cell_i]; rfl
theorem vc_bool (N' : Nat) (cB : ClassId) : vp_cell cB (N', .inl (fun _ => (0 : Int32))) = arrV cB N' (fun _ => defaultValue .boolean) := by rw [vp_cell_i]; rfl
theorem vc_long (N' : Nat) (cB : ClassId) : vp_cell cB (N', .inr (.inl (fun _ => (0 : Int64)))) = arrV cB N' (fun _ => defaultValue .long) := by rw [vp_cell_l]; rfl
end XN
