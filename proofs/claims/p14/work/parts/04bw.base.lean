section XN
variable {p : Program} {l : Launch} {e : Env} {R : Room} {s : State} {m : MethodId} {args : Array Value} {below : List Frame} {meth : Method} {c : Code} {H : Heap} {locs : List Loc} {cells slots : Nat} {Q : State → Prop}
variable {cc : ByteArray} {pc nL : Nat} {ls : Array Slot} {rest : List Value} {own : String} {α : Type} {D : va_G} {cA : Nat → ClassId} {A : Nat → Prop} {ws : va_W} {a idx : Nat} {H0 : Heap} {lv : List (Nat × Value)}
theorem ra_int (U : State) (c1 c2 : ClassId) (h1 : va_RA U c1 .int) (h2 : va_RA U c2 .int) : c1 = c2 := Option.some.inj ((show U.vm.findClass _ = some c1 from h1).symm.trans h2)
theorem ra_long (U : State) (c1 c2 : ClassId) (h1 : va_RA U c1 .long) (h2 : va_RA U c2 .long) : c1 = c2 := Option.some.inj ((show U.vm.findClass _ = some c1 from h1).symm.trans h2)
theorem ra_bool (U : State) (c1 c2 : ClassId) (h1 : va_RA U c1 .boolean) (h2 : va_RA U c2 .boolean) : c1 = c2 := Option.some.inj ((show U.vm.findClass _ = some c1 from h1).symm.trans h2)
theorem vc_int (N' : Nat) (cB : ClassId) : vp_cell cB (N', .inl (fun _ => (0 : Int32))) = arrV cB N' (fun _ => defaultValue .int) := by rw [vp_cell_i]; rfl
theorem vc_bool (N' : Nat) (cB : ClassId) : vp_cell cB (N', .inl (fun _ => (0 : Int32))) = arrV cB N' (fun _ => defaultValue .boolean) := by rw [vp_cell_i]; rfl
theorem vc_long (N' : Nat) (cB : ClassId) : vp_cell cB (N', .inr (.inl (fun _ => (0 : Int64)))) = arrV cB N' (fun _ => defaultValue .long) := by rw [vp_cell_l]; rfl
end XN
