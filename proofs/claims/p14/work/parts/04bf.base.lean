section XC
variable {p : Program} {l : Launch} {e : Env} {s : State} {m : MethodId} {args : Array Value} {below : List Frame} {meth : Method} {c : Code} {H : Heap} {locs : List Loc} {cells slots : Nat} {Q : State → Prop}
variable {cc : ByteArray} {pc nL : Nat} {ls : Array Slot} {rest st : List Value} {own : String} {D : va_G} {cA : Nat → ClassId} {A : Nat → Prop} {ws wc : va_W} {H0 : Heap}
variable {mi : MI} {d d' mc ms mcR msR n idx b : Nat} {As av : List Value} {v : Option Value} {Pc : Array Value → State → Prop} {Qc : Array Value → State → Outcome → State → Prop} {free : Addr → Prop} {lv : List (Nat × Value)}
/-- ends -/
theorem ro_i {R : Room} {x : Int32} (F : CallFix p m c cc nL s args ALL own) (hr : meth.sig.returnType = some .int) (hlk : meth.locks = false) (hv : some (Value.int x) = v) (hdg : decode cc pc = .ok (.ireturn, 1)) : W p l e R s m args below meth c s.heap [] 0 0 (MQ below (roQ v) args s 0 0 (fun _ => False)) (F0 m pc ls [.int x]) := W.iret F.1 F.2.1 hr (fun t ht _ => ⟨by rw [hv], ht⟩) (fun _ h => by cases h) hdg hlk
theorem ro_z {R : Room} {x : Int32} (F : CallFix p m c cc nL s args ALL own) (hr : meth.sig.returnType = some .boolean) (hn : narrow .boolean (.int x) = .int x) (hlk : meth.locks = false) (hv : some (Value.int x) = v) (hdg : decode cc pc = .ok (.ireturn, 1)) : W p l e R s m args below meth c s.heap [] 0 0 (MQ below (roQ v) args s 0 0 (fun _ => False)) (F0 m pc ls [.int x]) := W.zret F.1 F.2.1 hr hn (fun t ht _ => ⟨by rw [hv], ht⟩) (fun _ h => by cases h) hdg hlk
end XC
