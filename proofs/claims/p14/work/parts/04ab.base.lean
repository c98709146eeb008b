theorem jm_plain {x : MethodName} (hc : x.cls = "java/lang/Math") (hd : (x.desc == "(II)I" || x.desc == "(I)I") = true) : plainFor x = true := by
  unfold plainFor
  rw [Bool.or_eq_true]; right
  rw [Option.isNone_iff_eq_none, NativeRow.find?, List.find?_eq_none]
  intro r hr h
  have h1 := List.all_eq_true.mp jm_rows r hr
  simp only [Bool.and_eq_true, beq_iff_eq] at h
  rw [h.1.2, h.2, hc, hd] at h1
  simp at h1
/-- a virtual call's link: own class, index, receiver's class, method, how many parameters -/
def LkV (own : String) (idx : Nat) (mi : MI) (n : Nat) : Prop := (∀ w ∈ ([.methodLink own idx mi.1, .instanceMethod mi.1, .selects mi.1.cls mi.1 mi.1, .initialized mi.1.cls] : List Cond), w ∈ ALL) ∧ goodY mi n
def LkS (own : String) (idx : Nat) (mi : MI) (n : Nat) : Prop := (∀ w ∈ ([.methodLink own idx mi.1, .static mi.1, .initialized mi.1.cls] : List Cond), w ∈ ALL) ∧ goodY mi n
def LkSN (own : String) (idx : Nat) (mi : MI) (n : Nat) (host : String) : Prop := ((own, idx, mi.1, host) ∈ nests ∧ ∀ w ∈ ([.static mi.1, .initialized mi.1.cls] : List Cond), w ∈ ALL) ∧ goodY mi n
def LkI (own : String) (idx : Nat) (mi : MI) (n : Nat) : Prop := (∀ w ∈ ([.methodLink own idx mi.1, .instanceMethod mi.1, .initialized mi.1.cls] : List Cond), w ∈ ALL) ∧ goodY mi n ∧ mi.1.name = "<init>" ∧ mi.2.2.2 = none
def LkIN (own : String) (idx : Nat) (mi : MI) (n : Nat) (host : String) : Prop := ((own, idx, mi.1, host) ∈ nests ∧ ∀ w ∈ ([.instanceMethod mi.1, .initialized mi.1.cls] : List Cond), w ∈ ALL) ∧ goodY mi n ∧ mi.1.name = "<init>" ∧ mi.2.2.2 = none
