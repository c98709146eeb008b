abbrev Wrw (d mc ms : Nat) (D : va_G) (A : Nat → Prop) (post : Option Value → va_W → Prop) (p : Program) (l : Launch) (e : Env) (s : State) (m : MethodId) (args : Array Value) (below : List Frame) (meth : Method) (c : Code) (H : Heap) (locs : List Loc) (cells slots pc : Nat) (ls : Array Slot) (st : List Value) : Prop := W p l e (rmOf d mc ms) s m args below meth c H locs cells slots (MQ below (rwQ D A post) args s mc ms A) (F0 m pc ls st)
theorem emP {D : va_G} {cl : List vw_C} {H : Heap} : va_P D cl [] H := fun k q h => by simp at h
theorem Nat_nd {l : List Nat} (h : va_nd l = true) : va_nd l = true := h
theorem nd_sh (k : Nat) : va_nd [46+2*k, 46+2*k+1] = true := by simp [va_nd]
theorem bI_fit (b : Bool) : fits .boolean (.int (bI b)) = true := by cases b <;> rfl
theorem inb_lt {i : Int32} {n : Nat} (h : inb i n = true) : i.toNatClampNeg < n := Nat.not_le.mp fun q => inb_in h (Or.inr q)
def jushr (x y : Int32) : Int32 := (x.toUInt32 >>> (y.toUInt32 &&& Int32.toUInt32 31)).toInt32
section XE
variable {p : Program} {l : Launch} {e : Env} {R : Room} {s : State} {m : MethodId} {args : Array Value} {below : List Frame} {meth : Method} {c : Code} {H : Heap} {locs : List Loc} {cells slots : Nat} {Q : State → Prop}
variable {cc : ByteArray} {pc nL : Nat} {ls : Array Slot} {rest : List Value} {own : String} {α : Type} {D : va_G} {cA : Nat → ClassId} {ws : va_W} {a : Nat}
/-- an array of shelves, an array of arrays: the element's cell -/
theorem aldS {n : Nat} {f : Nat → Option Nat} {g : Nat → Nat} {i : Int32} {r : α} {K : Option α} {cy : ClassId} {C : String} (F : CallFix p m c cc nL s args ALL own) (hK : KK D cA s) (hP : va_P D vwCl ws H) (q0 : Nat) (ha : ws[q0]? = some (a, .inl (cy, n, .inr (.inr (.inr (.inr f)))))) (t0 : Nat) (ht : (tyL cA)[t0]? = some (cy, .object C)) (hf : ∀ j, f j = some (g j)) (h : gd (inb i n) K = some r) (hdg : decode cc pc = .ok (.aaload, 1))
    (kk : inb i n = true → K = some r → W p l e R s m args below meth c H locs cells slots Q (F0 m (pc + 1) ls (.ref (g i.toNatClampNeg) :: rest))) : W p l e R s m args below meth c H locs cells slots Q (F0 m pc ls (.int i :: .ref a :: rest)) := by
  have h1 := kk (gd_some h).1 (gd_some h).2
  refine va_aldq F.1 F.2.1 hK.1 hP q0 t0 ha ht (inb_in (gd_some h).1) hdg ?_
  rw [hf]
  exact h1
end XE
