abbrev Wrw (d mc ms : Nat) (D : va_G) (A : Nat → Prop) (post : Option Value → va_W → Prop) (p : Program) (l : Launch) (e : Env) (s : State) (m : MethodId) (args : Array Value) (below : List Frame) (meth : Method) (c : Code) (H : Heap) (locs : List Loc) (cells slots pc : Nat) (ls : Array Slot) (st : List Value) : Prop := W p l e (rmOf d mc ms) s m args below meth c H locs cells slots (MQ below (rwQ D A post) args s mc ms A) (F0 m pc ls st)
theorem emP {D : va_G} {cl : List vw_C} {H : Heap} : va_P D cl [] H := fun k q h => by simp at h
theorem Nat_nd {l : List Nat} (h : va_nd l = true) : va_nd l = true := h
theorem nd_sh (k : Nat) : va_nd [46+2*k, 46+2*k+1] = true := by simp [va_nd]
theorem bI_fit (b : Bool) : fits .boolean (.int (bI b)) = true := by cases b <;> rfl
theorem inb_lt {i : Int32} {n : Nat} (h : inb i n = true) : i.toNatClampNeg < n := Nat.not_le.mp fun q => inb_in h (Or.inr q)
def jushr (x y : Int32) : Int32 := (x.toUInt32 >>> (y.toUInt32 &&& Int32.toUInt32 31)).toInt32
section XE
variable {p : Program} {l : Launch} {e : Env} {R : Room} {s : State} {m : MethodId} {args : Array Value} {below : List Frame} {meth : Method} {c : Code} {H : Heap} {locs : List Loc} {cells slots : Nat} {Q : State → Prop}
variable {cc : ByteArray} {pc nL : Nat} {ls : Array Slot} {rest : List Value} {own : String} {α : Type} {D : va_G} {cA : Nat → ClassId} {ws : va_W} {a : Nat}
/-- an array of shelves, an array of arrays: the element's cell -/
theorem aldS {n : Nat} {f : Nat → Option Nat} {g : Nat → Nat} {i : Int32} {r : α} {K : Option α} {cy : ClassId} {C : String} (F : CallFix p m c cc nL s args ALL own) (hK : KK D cA s) (hP : va_P D vwCl ws H) (q0 : Nat) (ha : ws[q0]? = some (a, .inl (cy, n, .inr (.inr (.inr (.inr f)))))) (t0 : Nat) (ht : (tyL cA)[t0]? = some (cy, .object C)) (hf : ∀ j, f j = some (g j)) (h : gd (inb i n) K = some r) (hdg : decode cc pc = .ok (.aaload, 1))
    (kk : inb i n = true → K = some r → W p l e R s m args below meth c H locs cells slots Q (F0 m (pc + 1) ls (.ref (g i.toNatClampNeg) :: rest))) : W p l e R s m args below meth c H locs cells slots Q (F0 m pc ls (.int i :: .ref a :: rest)) := by
  have h1 := kk (gd_some h).1 (gd_some h).2
  refine va_aldq F.1 F.2.1 hK.1 hP q0 t0 ha ht (inb_in (gd_some h).1) hdg ?_
  rw [hf]
  exact h1
theorem aldA {n : Nat} {f : Nat → Option Nat} {g : Nat → Nat} {i : Int32} {r : α} {K : Option α} {cy : ClassId} {ty : FieldType} (F : CallFix p m c cc nL s args ALL own) (hK : KK D cA s) (hP : va_P D vwCl ws H) (q0 : Nat) (ha : ws[q0]? = some (a, .inl (cy, n, .inr (.inr (.inr (.inr f)))))) (t0 : Nat) (ht : (tyL cA)[t0]? = some (cy, .array ty)) (hf : ∀ j, f j = some (g j)) (h : gd (inb i n) K = some r) (hdg : decode cc pc = .ok (.aaload, 1))
    (kk : inb i n = true → K = some r → W p l e R s m args below meth c H locs cells slots Q (F0 m (pc + 1) ls (.ref (g i.toNatClampNeg) :: rest))) : W p l e R s m args below meth c H locs cells slots Q (F0 m pc ls (.int i :: .ref a :: rest)) := by
  have hin := inb_in (gd_some h).1
  have hlt : i.toNatClampNeg < n := Nat.not_le.mp fun q => hin (Or.inr q)
  refine W.aald (v := .ref (g i.toNatClampNeg)) (ty := .array ty) F.1 F.2.1 (hP q0 _ ha) ((hK.1.2 t0 _ ht).1 n (fun j => va_rf (f j))) rfl (fun q => by cases q) (by show ¬ (i < 0 ∨ (arrV _ _ _).slots.size ≤ _); rw [arrV_size]; exact hin) (by show (arrV _ _ _).slots[_]? = _; rw [arrV_read _ _ hlt, hf]; rfl) rfl rfl hdg (kk (gd_some h).1 (gd_some h).2)
end XE
theorem nar_int (x : Int32) : narrow .int (.int x) = .int x := rfl
theorem fit_int (x : Int32) : fits .int (.int x) = true := rfl
theorem jc2 {ws : va_W} {i j : Nat} {x y : Nat × va_E} (ha : ws[i]? = some x) (hb : ws[j]? = some y) : [i, j].map (fun k => ws[k]?) = [x, y].map some := by simp [ha, hb]
theorem js2 {ws W' : va_W} {i j : Nat} {x y : Nat × va_E} (ha : ws[i]? = some x) (h : ws.set j y = W') : putAll ws [i, j] [x, y] = W' := by
  show (ws.set i x).set j y = W'
  have e : ws.set i x = ws := by
    obtain ⟨hi, he⟩ := List.getElem?_eq_some_iff.mp ha
    rw [← he]
    exact List.set_getElem_self hi
  rw [e]
  exact h
theorem nd2 {i j : Nat} (h : i ≠ j) : va_nd [i, j] = true := by simp [va_nd, h]
def acok (sp dp n : Int32) (n0 n1 : Nat) : Bool := decide (¬ sp < 0) && (decide (¬ dp < 0) && (decide (¬ n < 0) && (decide (sp.toNatClampNeg + n.toNatClampNeg ≤ n0) && decide (dp.toNatClampNeg + n.toNatClampNeg ≤ n1))))
theorem acok_of {sp dp n : Int32} {n0 n1 : Nat} (h : acok sp dp n n0 n1 = true) : ¬ sp < 0 ∧ ¬ dp < 0 ∧ ¬ n < 0 ∧ sp.toNatClampNeg + n.toNatClampNeg ≤ n0 ∧ dp.toNatClampNeg + n.toNatClampNeg ≤ n1 := by
  unfold acok at h
  simp only [Bool.and_eq_true, decide_eq_true_eq] at h
  exact h
def LkA (own : String) (idx : Nat) : Prop := Cond.methodLink own idx arraycopyName ∈ ALL ∧ Cond.native arraycopyName ∈ ALL ∧ Cond.static arraycopyName ∈ ALL ∧ Cond.initialized "java/lang/System" ∈ ALL
def LkN (own : String) (idx ci n : Nat) (fs : List Value) : Prop := ∃ (C : String) (T : u_T) (t0 : Nat → FieldType), vwCl[ci]? = some (C, T, n) ∧ (∀ w ∈ u_ws C T n, w ∈ ALL) ∧ (∀ k, k < n → parseFieldDescriptor (T k).2.2.1 = some (t0 k)) ∧ Cond.classLink own idx C ∈ ALL ∧ Cond.instantiable C n ∈ ALL ∧ Cond.initialized C ∈ ALL ∧ ∀ j, j < n → defaultValue (t0 j) = vp_V fs j
def LkO (own : String) (idx : Nat) : Prop := Cond.methodLink own idx Lib.objectInit ∈ ALL ∧ Cond.instanceMethod Lib.objectInit ∈ ALL ∧ Cond.code Lib.objectInit ⟨#[0xb1]⟩ 1 none ∈ ALL
