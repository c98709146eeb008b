section XN
variable {p : Program} {l : Launch} {e : Env} {R : Room} {s : State} {m : MethodId} {args : Array Value} {below : List Frame} {meth : Method} {c : Code} {H : Heap} {locs : List Loc} {cells slots : Nat} {Q : State → Prop}
variable {cc : ByteArray} {pc nL : Nat} {ls : Array Slot} {rest : List Value} {own : String} {α : Type} {D : va_G} {cA : Nat → ClassId} {A : Nat → Prop} {ws : va_W} {a idx : Nat} {H0 : Heap} {lv : List (Nat × Value)}
/-- a new array of a known kind -/
theorem newA {atype : ArrayType} {ty : FieldType} {t0 : Nat} {N' : Nat} {n : Int32} {a0 : (Nat → Int32) ⊕ (Nat → Int64) ⊕ (Nat → UInt32) ⊕ (Nat → UInt64) ⊕ (Nat → Option Nat)} (F : CallFix p m c cc nL s args ALL own) (hK : KK D cA s) (hP : va_P D vwCl ws H) (hD : va_D A ws) (hS : va_S A H0 H locs) (hA : ∀ q, H0.size ≤ q → A q) (harr : Cond.arrayClass (newarray.typeOf atype) ∈ ALL) (hty : newarray.typeOf atype = ty) (ht : (tyL cA)[t0]? = some (cA t0, ty)) (hob : ∀ U c1 c2, va_RA U c1 ty → va_RA U c2 ty → c1 = c2)
    (ha : ∀ cB : ClassId, vp_cell cB (N', a0) = arrV cB N' (fun _ => defaultValue ty)) (hn : ¬ n < 0) (hN : n.toNatClampNeg = N') (hbytes : N' * componentBytes ty ≤ 536870912) (hcells : cells + 1 ≤ R.cells) (hslots : slots + N' ≤ R.slots) (hdg : decode cc pc = .ok (.newarray atype, 2))
    (kk : ∀ (q : Nat) (H1 : Heap), va_P D vwCl (ws ++ [(q, .inl (cA t0, N', a0))]) H1 → va_D A (ws ++ [(q, .inl (cA t0, N', a0))]) → va_S A H0 H1 locs → W p l e R s m args below meth c H1 locs (cells + 1) (slots + N') Q (F0 m (pc + 2) ls (.ref q :: rest))) : W p l e R s m args below meth c H locs cells slots Q (F0 m pc ls (.int n :: rest)) := by
  refine va_newa F.1 F.2.1 (F.2.2.2.2 _ harr) hty hK.1 hP hD hS hA (a0 := (N', a0)) ha hn hN hbytes hcells hslots hdg (fun q cB H1 hK1 hP1 hD1 hS1 => ?_)
  have e1 : cB = cA t0 := hob s cB (cA t0) (hK1.2 6 (cB, ty) (by show (tyL cA ++ [(cB, ty)])[6]? = _; rfl)).2 (hK.1.2 t0 _ ht).2
  subst e1
  exact kk q H1 hP1 hD1 hS1
end XN
