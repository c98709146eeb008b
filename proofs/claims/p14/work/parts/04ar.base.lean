section XR
variable {p : Program} {l : Launch} {e : Env} {R : Room} {s : State} {m : MethodId} {args : Array Value} {below : List Frame} {meth : Method} {c : Code} {H : Heap} {locs : List Loc} {cells slots : Nat} {Q : State → Prop}
variable {cc : ByteArray} {pc nL : Nat} {ls : Array Slot} {rest : List Value} {own : String} {α : Type}
variable {D : va_G} {cA : Nat → ClassId} {A : Nat → Prop} {a : Nat} {ws : va_W} {H0 : Heap} {idx ci k : Nat} {fs : List Value} {v : Value}
theorem aldZ {n : Nat} {f : Nat → Int32} {i : Int32} {r : α} {K : Option α} (F : CallFix p m c cc nL s args ALL own) (hK : KK D cA s) (hP : va_P D vwCl ws H) (q0 : Nat) (ha : ws[q0]? = some (a, .inl (cA 2, n, .inl f))) (h : gd (inb i n) K = some r) (hdg : decode cc pc = .ok (.baload, 1))
    (kk : inb i n = true → K = some r → W p l e R s m args below meth c H locs cells slots Q (F0 m (pc + 1) ls (.int (f i.toNatClampNeg) :: rest))) : W p l e R s m args below meth c H locs cells slots Q (F0 m pc ls (.int i :: .ref a :: rest)) :=
  va_zald F.1 F.2.1 hK.1 hP q0 2 ha rfl (inb_in (gd_some h).1) hdg (kk (gd_some h).1 (gd_some h).2)
theorem alen {x : vp_A} {ty : FieldType} {cy : ClassId} (F : CallFix p m c cc nL s args ALL own) (hK : KK D cA s) (hP : va_P D vwCl ws H) (q0 t0 : Nat) (ha : ws[q0]? = some (a, .inl (cy, x))) (ht : (tyL cA)[t0]? = some (cy, ty)) {v : Int32} (hv : Int32.ofNat x.1 = v) (hdg : decode cc pc = .ok (.arraylength, 1))
    (kk : W p l e R s m args below meth c H locs cells slots Q (F0 m (pc + 1) ls (.int v :: rest))) : W p l e R s m args below meth c H locs cells slots Q (F0 m pc ls (.ref a :: rest)) :=
  va_alen F.1 F.2.1 hK.1 hP q0 t0 ha ht hv hdg kk
end XR
