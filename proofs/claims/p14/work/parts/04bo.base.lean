section XD
variable {p : Program} {l : Launch} {e : Env} {s : State} {m : MethodId} {args : Array Value} {below : List Frame} {meth : Method} {c : Code} {H : Heap} {locs : List Loc} {cells slots : Nat} {Q : State → Prop} {R : Room}
variable {cc : ByteArray} {pc nL : Nat} {ls : Array Slot} {rest st : List Value} {own : String} {D : va_G} {cA : Nat → ClassId} {A : Nat → Prop} {ws wc : va_W} {H0 : Heap} {mc ms idx : Nat} {α : Type}
theorem ts_out {x : Int32} {lo : Int} {vs : List Int32} (hv : ∀ i, i < vs.length → (vs.getD i 0).toInt = lo + i) (hne : ∀ v ∈ vs, ¬ x = v) : x.toInt < lo ∨ lo + vs.length - 1 < x.toInt := by
  rcases Int.lt_or_le x.toInt lo with h | h
  · exact Or.inl h
  · rcases Int.lt_or_le (lo + vs.length - 1) x.toInt with h2 | h2
    · exact Or.inr h2
    · exfalso
      have hi : (x.toInt - lo).toNat < vs.length := by omega
      have h3 := hv _ hi
      rw [show lo + ((x.toInt - lo).toNat : Int) = x.toInt by omega] at h3
      have h4 := Int32.toInt_inj.mp h3
      refine hne (vs.getD (x.toInt - lo).toNat 0) ?_ h4.symm
      rw [List.getD_eq_getElem?_getD, List.getElem?_eq_getElem hi]
      exact List.getElem_mem hi
end XD
/-- a choice on an optional reference -/
def oM {α : Type} (o : Option Nat) (A : α) (B : Nat → α) : α := match o with
  | none => A
  | some k => B k
abbrev Wro (d : Nat) (v : Option Value) (p : Program) (l : Launch) (e : Env) (s : State) (m : MethodId) (args : Array Value) (below : List Frame) (meth : Method) (c : Code) (pc : Nat) (ls : Array Slot) (st : List Value) : Prop := W p l e (rmOf d 0 0) s m args below meth c s.heap [] 0 0 (MQ below (roQ v) args s 0 0 (fun _ => False)) (F0 m pc ls st)
