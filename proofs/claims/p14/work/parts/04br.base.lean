theorem nar_int (x : Int32) : narrow .int (.int x) = .int x := rfl
theorem fit_int (x : Int32) : fits .int (.int x) = true := rfl
theorem jc2 {ws : va_W} {i j : Nat} {x y : Nat × va_E} (ha : ws[i]? = some x) (hb : ws[j]? = some y) : [i, j].map (fun k => ws[k]?) = [x, y].map some := by simp [ha, hb]
theorem js2 {ws W' : va_W} {i j : Nat} {x y : Nat × va_E} (ha : ws[i]? = some x) (h : ws.set j y = W') : putAll ws [i, j] [x, y] = W' := by
  show (ws.set i x).set j y = W'
  have e : ws.set i x = ws := by
    obtain ⟨hi, he⟩ := List.getElem?_eq_some_iff.mp ha
    rw [← he]
    exact List.set_getElem_self hi
  rw [e]
  exact h
theorem nd2 {i j : Nat} (h : i ≠ j) : va_nd [i, j] = true := by simp [va_nd, h]
def acok (sp dp n : Int32) (n0 n1 : Nat) : Bool := decide (¬ sp < 0) && (decide (¬ dp < 0) && (decide (¬ n < 0) && (decide (sp.toNatClampNeg + n.toNatClampNeg ≤ n0) && decide (dp.toNatClampNeg + n.toNatClampNeg ≤ n1))))
theorem acok_of {sp dp n : Int32} {n0 n1 : Nat} (h : acok sp dp n n0 n1 = true) : ¬ sp < 0 ∧ ¬ dp < 0 ∧ ¬ n < 0 ∧ sp.toNatClampNeg + n.toNatClampNeg ≤ n0 ∧ dp.toNatClampNeg + n.toNatClampNeg ≤ n1 := by
  unfold acok at h
  simp only [Bool.and_eq_true, decide_eq_true_eq] at h
  exact h
def LkA (own : String) (idx : Nat) : Prop := Cond.methodLink own idx arraycopyName ∈ ALL ∧ Cond.native arraycopyName ∈ ALL ∧ Cond.static arraycopyName ∈ ALL ∧ Cond.initialized "java/lang/System" ∈ ALL
def LkN (own : String) (idx ci n : Nat) (fs : List Value) : Prop := ∃ (C : String) (T : u_T) (t0 : Nat → FieldType), vwCl[ci]? = some (C, T, n) ∧ (∀ w ∈ u_ws C T n, w ∈ ALL) ∧ (∀ k, k < n → parseFieldDescriptor (T k).2.2.1 = some (t0 k)) ∧ Cond.classLink own idx C ∈ ALL ∧ Cond.instantiable C n ∈ ALL ∧ Cond.initialized C ∈ ALL ∧ ∀ j, j < n → defaultValue (t0 j) = vp_V fs j
