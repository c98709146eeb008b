section XR
variable {p : Program} {l : Launch} {e : Env} {R : Room} {s : State} {m : MethodId} {args : Array Value} {below : List Frame} {meth : Method} {c : Code} {H : Heap} {locs : List Loc} {cells slots : Nat} {Q : State → Prop}
variable {cc : ByteArray} {pc nL : Nat} {ls : Array Slot} {rest : List Value} {own : String} {α : Type}
variable {D : va_G} {cA : Nat → ClassId} {A : Nat → Prop} {a : Nat} {ws : va_W} {H0 : Heap} {idx ci k : Nat} {fs : List Value} {v : Value}
/-- arrays -/
theorem aldI {n : Nat} {f : Nat → Int32} {i : Int32} {r : α} {K : Option α} (F : CallFix p m c cc nL s args ALL own) (hK : KK D cA s) (hP : va_P D vwCl ws H) (q0 : Nat) (ha : ws[q0]? = some (a, .inl (cA 0, n, .inl f))) (h : gd (inb i n) K = some r) (hdg : decode cc pc = .ok (.iaload, 1))
    (kk : inb i n = true → K = some r → W p l e R s m args below meth c H locs cells slots Q (F0 m (pc + 1) ls (.int (f i.toNatClampNeg) :: rest))) : W p l e R s m args below meth c H locs cells slots Q (F0 m pc ls (.int i :: .ref a :: rest)) :=
  va_iald F.1 F.2.1 hK.1 hP q0 0 ha rfl (inb_in (gd_some h).1) hdg (kk (gd_some h).1 (gd_some h).2)
theorem aldL {n : Nat} {f : Nat → Int64} {i : Int32} {r : α} {K : Option α} (F : CallFix p m c cc nL s args ALL own) (hK : KK D cA s) (hP : va_P D vwCl ws H) (q0 : Nat) (ha : ws[q0]? = some (a, .inl (cA 1, n, .inr (.inl f)))) (h : gd (inb i n) K = some r) (hdg : decode cc pc = .ok (.laload, 1))
    (kk : inb i n = true → K = some r → W p l e R s m args below meth c H locs cells slots Q (F0 m (pc + 1) ls (.long (f i.toNatClampNeg) :: rest))) : W p l e R s m args below meth c H locs cells slots Q (F0 m pc ls (.int i :: .ref a :: rest)) :=
  va_lald F.1 F.2.1 hK.1 hP q0 1 ha rfl (inb_in (gd_some h).1) hdg (kk (gd_some h).1 (gd_some h).2)
end XR
