section XS2
variable {p : Program} {l : Launch} {e : Env} {R : Room} {s : State} {m : MethodId} {args : Array Value} {below : List Frame} {meth : Method} {c : Code} {H : Heap} {locs : List Loc} {cells slots : Nat} {Q : State → Prop}
variable {cc : ByteArray} {pc nL : Nat} {ls : Array Slot} {rest : List Value} {own : String} {D : va_G} {cA : Nat → ClassId} {A : Nat → Prop} {ws wc : va_W} {a idx : Nat} {av : List Value} {w : List Int32}
theorem rcvStr (hS : va_S A s.heap H locs) (hAb : ∀ q, A q → cA 9 ≤ q) (hE : isStr cA a w s) : Rcv s H cN a := by
  obtain ⟨cell, h1, h2, h3, -⟩ := hE.1.kept (keptB hS hAb)
  exact ⟨cell, h1, h2, h3⟩
theorem ldcStr {tx : String} (F : CallFix p m c cc nL s args ALL own) (hK : KK D cA s) (hs : (own, idx, tx, w) ∈ sites) (hdg : decode cc pc = .ok (.ldc idx, 2))
    (kk : ∀ q : Nat, isStr cA q w s → W p l e R s m args below meth c H locs cells slots Q (F0 m (pc + 2) ls (.ref q :: rest))) : W p l e R s m args below meth c H locs cells slots Q (F0 m pc ls rest) := by
  obtain ⟨a, h1, h2⟩ := hK.2.2.1.1 _ hs
  exact va_ldcS F.1 F.2.1 F.2.2.2.1 h1 hdg (kk a h2)
theorem ro_gen {R : Room} {x : Int32} {ty : FieldType} {v : Option Value} (F : CallFix p m c cc nL s args ALL own) (hr : meth.sig.returnType = some ty) (hn : narrow ty (.int x) = .int x) (hlk : meth.locks = false) (hv : some (Value.int x) = v) (hdg : decode cc pc = .ok (.ireturn, 1)) : W p l e R s m args below meth c s.heap [] 0 0 (MQ below (roQ v) args s 0 0 (fun _ => False)) (F0 m pc ls [.int x]) := W.zret F.1 F.2.1 hr hn (fun t ht _ => ⟨by rw [hv], ht⟩) (fun _ h => by cases h) hdg hlk
end XS2
