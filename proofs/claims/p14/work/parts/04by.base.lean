abbrev isStr (cA : Nat → ClassId) (a : Nat) (w : List Int32) (U : State) : Prop := StrOK (fun z => cA 9 ≤ z) U U.heap a w
abbrev isByt (cA : Nat → ClassId) (v : Nat) (w : List Int32) (U : State) : Prop := va_T .byte v w.length (fun j => .int (w.getD j 0)) (fun z => cA 9 ≤ z) U U.heap
section XS2
variable {p : Program} {l : Launch} {e : Env} {R : Room} {s : State} {m : MethodId} {args : Array Value} {below : List Frame} {meth : Method} {c : Code} {H : Heap} {locs : List Loc} {cells slots : Nat} {Q : State → Prop}
variable {cc : ByteArray} {pc nL : Nat} {ls : Array Slot} {rest : List Value} {own : String} {D : va_G} {cA : Nat → ClassId} {A : Nat → Prop} {ws wc : va_W} {a idx : Nat} {av : List Value} {w : List Int32}
theorem preStr (hK : KK D cA s) (hS : va_S A s.heap H locs) (hAb : ∀ q, A q → cA 9 ≤ q) (hP : va_P D vwCl wc H) (hE : isStr cA a w s) : PreC s H (va_Pc av (fun U => va_P D vwCl wc U.heap ∧ KK D cA U ∧ isStr cA a w U)) av :=
  ⟨fun a U g mk q => by obtain ⟨q0, qP, qK, qE⟩ := q; exact ⟨q0, qP, qK.call, StrOK.moved (u := U) (U := U.calling g mk a) (Vm.Alike.refl U.vm) qE⟩, fun U hU hW => ⟨rfl, by rw [hU]; exact hP, hK.at hS hAb hU hW, by unfold isStr; rw [hU]; exact (hE.kept (keptB hS hAb)).moved hW.alike⟩⟩
theorem preByt (hK : KK D cA s) (hS : va_S A s.heap H locs) (hAb : ∀ q, A q → cA 9 ≤ q) (hP : va_P D vwCl wc H) (hE : isByt cA a w s) : PreC s H (va_Pc av (fun U => va_P D vwCl wc U.heap ∧ KK D cA U ∧ isByt cA a w U)) av :=
  ⟨fun a U g mk q => by obtain ⟨q0, qP, qK, qE⟩ := q; exact ⟨q0, qP, qK.call, va_T.moved (u := U) (U := U.calling g mk a) (Vm.Alike.refl U.vm) qE⟩, fun U hU hW => ⟨rfl, by rw [hU]; exact hP, hK.at hS hAb hU hW, by unfold isByt; rw [hU]; exact va_T.moved hW.alike (hE.kept (keptB hS hAb))⟩⟩
end XS2
