section XE
variable {p : Program} {l : Launch} {e : Env} {R : Room} {s : State} {m : MethodId} {args : Array Value} {below : List Frame} {meth : Method} {c : Code} {H : Heap} {locs : List Loc} {cells slots : Nat} {Q : State → Prop}
variable {cc : ByteArray} {pc nL : Nat} {ls : Array Slot} {rest : List Value} {own : String} {α : Type} {D : va_G} {cA : Nat → ClassId} {ws : va_W} {a : Nat}
theorem aldA {n : Nat} {f : Nat → Option Nat} {g : Nat → Nat} {i : Int32} {r : α} {K : Option α} {cy : ClassId} {ty : FieldType} (F : CallFix p m c cc nL s args ALL own) (hK : KK D cA s) (hP : va_P D vwCl ws H) (q0 : Nat) (ha : ws[q0]? = some (a, .inl (cy, n, .inr (.inr (.inr (.inr f)))))) (t0 : Nat) (ht : (tyL cA)[t0]? = some (cy, .array ty)) (hf : ∀ j, f j = some (g j)) (h : gd (inb i n) K = some r) (hdg : decode cc pc = .ok (.aaload, 1))
    (kk : inb i n = true → K = some r → W p l e R s m args below meth c H locs cells slots Q (F0 m (pc + 1) ls (.ref (g i.toNatClampNeg) :: rest))) : W p l e R s m args below meth c H locs cells slots Q (F0 m pc ls (.int i :: .ref a :: rest)) := by
  have hin := inb_in (gd_some h).1
  have hlt : i.toNatClampNeg < n := Nat.not_le.mp fun q => hin (Or.inr q)
  refine W.aald (v := .ref (g i.toNatClampNeg)) (ty := .array ty) F.1 F.2.1 (hP q0 _ ha) ((hK.1.2 t0 _ ht).1 n (fun j => va_rf (f j))) rfl (fun q => by cases q) (by show ¬ (i < 0 ∨ (arrV _ _ _).slots.size ≤ _); rw [arrV_size]; exact hin) (by show (arrV _ _ _).slots[_]? = _; rw [arrV_read _ _ hlt, hf]; rfl) rfl rfl hdg (kk (gd_some h).1 (gd_some h).2)
end XE
