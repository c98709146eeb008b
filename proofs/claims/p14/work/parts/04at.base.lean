section XR
variable {p : Program} {l : Launch} {e : Env} {R : Room} {s : State} {m : MethodId} {args : Array Value} {below : List Frame} {meth : Method} {c : Code} {H : Heap} {locs : List Loc} {cells slots : Nat} {Q : State → Prop}
variable {cc : ByteArray} {pc nL : Nat} {ls : Array Slot} {rest : List Value} {own : String} {α : Type}
variable {D : va_G} {cA : Nat → ClassId} {A : Nat → Prop} {a : Nat} {ws : va_W} {H0 : Heap} {idx ci k : Nat} {fs : List Value} {v : Value}
theorem astL {n : Nat} {f : Nat → Int64} {i : Int32} {x : Int64} {r : α} {K : Option α} (F : CallFix p m c cc nL s args ALL own) (hK : KK D cA s) (hP : va_P D vwCl ws H) (hD : va_D A ws) (hS : va_S A H0 H locs) (q0 : Nat) (ha : ws[q0]? = some (a, .inl (cA 1, n, .inr (.inl f)))) (h : gd (inb i n) K = some r) {ws' : va_W} (hw : ws.set q0 (a, .inl (cA 1, n, .inr (.inl (vp_updL f i.toNatClampNeg x)))) = ws') (hdg : decode cc pc = .ok (.lastore, 1))
    (kk : inb i n = true → K = some r → ∀ (H1 : Heap) (locs1 : List Loc), va_P D vwCl ws' H1 → va_D A ws' → va_S A H0 H1 locs1 → W p l e R s m args below meth c H1 locs1 cells slots Q (F0 m (pc + 1) ls rest)) : W p l e R s m args below meth c H locs cells slots Q (F0 m pc ls (.long x :: .int i :: .ref a :: rest)) := by
  subst hw
  exact va_last F.1 F.2.1 hK.1 hP hD hS q0 1 ha rfl (inb_in (gd_some h).1) hdg (kk (gd_some h).1 (gd_some h).2)
end XR
section XC
variable {p : Program} {l : Launch} {e : Env} {s : State} {m : MethodId} {args : Array Value} {below : List Frame} {meth : Method} {c : Code} {H : Heap} {locs : List Loc} {cells slots : Nat} {Q : State → Prop}
variable {cc : ByteArray} {pc nL : Nat} {ls : Array Slot} {rest st : List Value} {own : String} {D : va_G} {cA : Nat → ClassId} {A : Nat → Prop} {ws wc : va_W} {H0 : Heap}
variable {mi : MI} {d d' mc ms mcR msR n idx b : Nat} {As av : List Value} {v : Option Value} {Pc : Array Value → State → Prop} {Qc : Array Value → State → Outcome → State → Prop} {free : Addr → Prop} {lv : List (Nat × Value)}
end XC
