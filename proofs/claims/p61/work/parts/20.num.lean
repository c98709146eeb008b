/-! ===== numbers: sums and comparisons of ints as those of the Ints that they stand for ===== -/
theorem tA {a b : Int32} (h1 : -2147483648 ≤ a.toInt + b.toInt) (h2 : a.toInt + b.toInt ≤ 2147483647) : (a + b).toInt = a.toInt + b.toInt := by
  have e : a + b = Int32.ofInt (a.toInt + b.toInt) := by rw [Int32.ofInt_add, Int32.ofInt_toInt, Int32.ofInt_toInt]
  rw [e]
  exact Int32.toInt_ofInt_of_le (by omega) (by omega)
theorem tS {a b : Int32} (h1 : -2147483648 ≤ a.toInt - b.toInt) (h2 : a.toInt - b.toInt ≤ 2147483647) : (a - b).toInt = a.toInt - b.toInt := by
  have e : a - b = Int32.ofInt (a.toInt - b.toInt) := by rw [Int32.ofInt_sub, Int32.ofInt_toInt, Int32.ofInt_toInt]
  rw [e]
  exact Int32.toInt_ofInt_of_le (by omega) (by omega)
theorem tM {a b : Int32} (h1 : -2147483648 ≤ a.toInt * b.toInt) (h2 : a.toInt * b.toInt ≤ 2147483647) : (a * b).toInt = a.toInt * b.toInt := by
  have e : a * b = Int32.ofInt (a.toInt * b.toInt) := by rw [Int32.ofInt_mul, Int32.ofInt_toInt, Int32.ofInt_toInt]
  rw [e]
  exact Int32.toInt_ofInt_of_le (by omega) (by omega)
theorem tN {a : Int32} (h : -2147483648 < a.toInt) : (-a).toInt = -a.toInt := by
  have e : -a = Int32.ofInt (-a.toInt) := by rw [Int32.ofInt_neg, Int32.ofInt_toInt]
  have h2 := a.toInt_lt
  rw [e]
  exact Int32.toInt_ofInt_of_le (by omega) (by omega)
theorem tLo (a : Int32) : -2147483648 ≤ a.toInt := a.le_toInt
theorem tHi (a : Int32) : a.toInt ≤ 2147483647 := by have := a.toInt_lt; omega
theorem divOf (a b : Int32) : a / b = Int32.ofInt (a.toInt.tdiv b.toInt) := by
  rw [Int32.ofInt_tdiv a.minValue_le_toInt a.toInt_le b.minValue_le_toInt b.toInt_le, Int32.ofInt_toInt, Int32.ofInt_toInt]
theorem tD {a b : Int32} (h0 : 0 ≤ a.toInt) (h1 : 0 < b.toInt) : (a / b).toInt = a.toInt / b.toInt := by
  rw [divOf, Int.tdiv_eq_ediv_of_nonneg h0]
  have h2 := Int.ediv_nonneg h0 (Int.le_of_lt h1)
  have h3 := Int.ediv_le_self b.toInt h0
  have h4 := tHi a
  exact Int32.toInt_ofInt_of_le (by omega) (by omega)
/-- of a number below 0 -/
theorem tDn {a b : Int32} (h0 : a.toInt < 0) (h1 : 1 < b.toInt) : (a / b).toInt = -((-a.toInt) / b.toInt) := by
  have e : a.toInt.tdiv b.toInt = -((-a.toInt) / b.toInt) := by
    have h := Int.neg_tdiv (-a.toInt) b.toInt
    rw [Int.neg_neg] at h
    rw [h, Int.tdiv_eq_ediv_of_nonneg (by omega)]
  rw [divOf, e]
  have h5 : (0 : Int) ≤ -a.toInt := by omega
  have h2 := Int.ediv_nonneg h5 (show (0 : Int) ≤ b.toInt by omega)
  have h3 := Int.ediv_le_self b.toInt h5
  have h4 := tLo a
  exact Int32.toInt_ofInt_of_le (by omega) (by omega)
theorem tR {a b : Int32} (h0 : 0 ≤ a.toInt) (h1 : 0 < b.toInt) : (jrem a b).toInt = a.toInt % b.toInt := by
  have hd := tD h0 h1
  have hq : a.toInt / b.toInt * b.toInt ≤ a.toInt := Int.ediv_mul_le _ (by omega)
  have hq0 : 0 ≤ a.toInt / b.toInt * b.toInt := Int.mul_nonneg (Int.ediv_nonneg h0 (Int.le_of_lt h1)) (Int.le_of_lt h1)
  have ha := tHi a
  have hm : (a / b * b).toInt = a.toInt / b.toInt * b.toInt := by
    rw [tM (by rw [hd]; omega) (by rw [hd]; omega), hd]
  unfold jrem
  rw [tS (by rw [hm]; omega) (by rw [hm]; omega), hm, Int.emod_def, Int.mul_comm]
theorem tRn {a b : Int32} (h0 : a.toInt < 0) (h1 : 1 < b.toInt) : (jrem a b).toInt = -((-a.toInt) % b.toInt) := by
  have hd := tDn h0 h1
  have h5 : (0 : Int) ≤ -a.toInt := by omega
  have hq : (-a.toInt) / b.toInt * b.toInt ≤ -a.toInt := Int.ediv_mul_le _ (by omega)
  have hq0 : 0 ≤ (-a.toInt) / b.toInt * b.toInt := Int.mul_nonneg (Int.ediv_nonneg h5 (by omega)) (by omega)
  have ha := tLo a
  have hn : -((-a.toInt) / b.toInt) * b.toInt = -((-a.toInt) / b.toInt * b.toInt) := Int.neg_mul _ _
  have hm : (a / b * b).toInt = -((-a.toInt) / b.toInt * b.toInt) := by
    rw [tM (by rw [hd, hn]; omega) (by rw [hd, hn]; omega), hd, hn]
  unfold jrem
  rw [tS (by rw [hm]; omega) (by rw [hm]; omega), hm, Int.emod_def, Int.mul_comm b.toInt]
  omega
theorem emodNeg {A B : Int} (h0 : A < 0) (h1 : 0 < B) : A % B = if (-A) % B = 0 then 0 else B - (-A) % B := by
  have e : -A = B * ((-A) / B) + (-A) % B := (Int.mul_ediv_add_emod (-A) B).symm
  have hr0 := Int.emod_nonneg (-A) (show B ≠ 0 by omega)
  have hr1 := Int.emod_lt_of_pos (-A) h1
  generalize (-A) % B = r at e hr0 hr1 ⊢
  generalize (-A) / B = q at e
  have eA : A = -r + B * (-q) := by rw [Int.mul_neg]; omega
  split
  · rename_i h
    rw [eA, Int.add_mul_emod_self_left, h]
    rfl
  · rename_i h
    have eB : A = (B - r) + B * (-q - 1) := by rw [Int.mul_sub, Int.mul_neg]; omega
    rw [eB, Int.add_mul_emod_self_left]
    exact Int.emod_eq_of_lt (by omega) (by omega)
theorem tMod {a b : Int32} (h1 : 1 < b.toInt) : (F_X9_mod a b).toInt = a.toInt % b.toInt := by
  have hb := tHi b
  unfold F_X9_mod
  by_cases h0 : 0 ≤ a.toInt
  · have h := tR (b := b) h0 (by omega)
    have h2 := Int.emod_nonneg a.toInt (show b.toInt ≠ 0 by omega)
    rw [if_pos (by rw [Int32.le_iff_toInt_le, Int32.toInt_zero, h]; exact h2), h]
  · have h0' : a.toInt < 0 := by omega
    have h := tRn h0' h1
    have h2 := Int.emod_nonneg (-a.toInt) (show b.toInt ≠ 0 by omega)
    have h3 := Int.emod_lt_of_pos (-a.toInt) (show 0 < b.toInt by omega)
    rw [emodNeg h0' (by omega)]
    by_cases hz : (-a.toInt) % b.toInt = 0
    · rw [if_pos hz, if_pos (by rw [Int32.le_iff_toInt_le, Int32.toInt_zero, h, hz]; decide), h, hz]
      rfl
    · rw [if_neg hz, if_neg (by rw [Int32.le_iff_toInt_le, Int32.toInt_zero, h]; omega), tA (by rw [h]; omega) (by rw [h]; omega), h]
      omega
theorem xorSign (a b : Int32) : (0 ≤ a ^^^ b) ↔ (a.toInt < 0 ↔ b.toInt < 0) := by
  have h : (a ^^^ b).toBitVec.msb = (a.toBitVec.msb ^^ b.toBitVec.msb) := by
    rw [Int32.toBitVec_xor, BitVec.msb_xor]
  rw [BitVec.msb_eq_toInt, BitVec.msb_eq_toInt, BitVec.msb_eq_toInt] at h
  rw [Int32.le_iff_toInt_le, Int32.toInt_zero]
  have e1 : (a ^^^ b).toBitVec.toInt = (a ^^^ b).toInt := rfl
  have e2 : a.toBitVec.toInt = a.toInt := rfl
  have e3 : b.toBitVec.toInt = b.toInt := rfl
  rw [e1, e2, e3] at h
  by_cases ha : a.toInt < 0 <;> by_cases hb : b.toInt < 0 <;> simp [ha, hb] at h ⊢ <;> omega
theorem floorMod_eq {a b : Int32} (h1 : 1 < b.toInt) : F_J9_floorMod_7cf53 a b = F_X9_mod a b := by
  unfold F_J9_floorMod_7cf53 F_X9_mod
  by_cases h0 : 0 ≤ a.toInt
  · have h := tR (b := b) h0 (by omega)
    have h2 := Int.emod_nonneg a.toInt (show b.toInt ≠ 0 by omega)
    rw [if_pos (by rw [xorSign]; omega), if_pos (by rw [Int32.le_iff_toInt_le, Int32.toInt_zero, h]; exact h2)]
  · have h0' : a.toInt < 0 := by omega
    have h := tRn h0' h1
    have h2 := Int.emod_nonneg (-a.toInt) (show b.toInt ≠ 0 by omega)
    rw [if_neg (by rw [xorSign]; omega)]
    by_cases hz : jrem a b = 0
    · rw [if_pos hz, hz, if_pos (by decide)]
    · have hz' : ¬ (jrem a b).toInt = 0 := fun q => hz (Int32.toInt_inj.mp (by rw [q]; rfl))
      rw [if_neg hz, if_neg (by rw [Int32.le_iff_toInt_le, Int32.toInt_zero]; rw [h] at hz' ⊢; omega)]
theorem tFd {a b : Int32} (h1 : 1 < b.toInt) : (F_J9_floorDiv_7cf53 a b).toInt = a.toInt / b.toInt := by
  unfold F_J9_floorDiv_7cf53
  by_cases h0 : 0 ≤ a.toInt
  · rw [if_pos (by rw [xorSign]; omega), tD h0 (by omega)]
  · have h0' : a.toInt < 0 := by omega
    have hd := tDn h0' h1
    have h5 : (0 : Int) ≤ -a.toInt := by omega
    have hq : (-a.toInt) / b.toInt * b.toInt ≤ -a.toInt := Int.ediv_mul_le _ (by omega)
    have hq0 : 0 ≤ (-a.toInt) / b.toInt * b.toInt := Int.mul_nonneg (Int.ediv_nonneg h5 (by omega)) (by omega)
    have ha := tLo a
    have hn : -((-a.toInt) / b.toInt) * b.toInt = -((-a.toInt) / b.toInt * b.toInt) := Int.neg_mul _ _
    have hm : (a / b * b).toInt = -((-a.toInt) / b.toInt * b.toInt) := by
      rw [tM (by rw [hd, hn]; omega) (by rw [hd, hn]; omega), hd, hn]
    have hle := Int.ediv_le_self b.toInt h5
    have hnn := Int.ediv_nonneg h5 (show (0 : Int) ≤ b.toInt by omega)
    have h2q : (-a.toInt) / b.toInt * 2 ≤ (-a.toInt) / b.toInt * b.toInt := Int.mul_le_mul_of_nonneg_left (by omega) hnn
    have e : -a.toInt = b.toInt * ((-a.toInt) / b.toInt) + (-a.toInt) % b.toInt := (Int.mul_ediv_add_emod (-a.toInt) b.toInt).symm
    have hr0 := Int.emod_nonneg (-a.toInt) (show b.toInt ≠ 0 by omega)
    have hr1 := Int.emod_lt_of_pos (-a.toInt) (show 0 < b.toInt by omega)
    have eD : a.toInt / b.toInt = if (-a.toInt) % b.toInt = 0 then -((-a.toInt) / b.toInt) else -((-a.toInt) / b.toInt) - 1 := by
      generalize (-a.toInt) % b.toInt = r at e hr0 hr1 ⊢
      generalize (-a.toInt) / b.toInt = q at e ⊢
      generalize a.toInt = A at e ⊢
      generalize b.toInt = B at e hr0 hr1 h1 ⊢
      have eA : A = -r + B * (-q) := by rw [Int.mul_neg]; omega
      split
      · rename_i h
        rw [eA, h, Int.add_mul_ediv_left _ _ (by omega)]
        simp
      · rename_i h
        have eB : A = (B - r) + B * (-q - 1) := by rw [Int.mul_sub, Int.mul_neg]; omega
        rw [eB, Int.add_mul_ediv_left _ _ (by omega), Int.ediv_eq_zero_of_lt (by omega) (by omega)]
        omega
    rw [if_neg (by rw [xorSign]; omega), eD]
    by_cases hz : (-a.toInt) % b.toInt = 0
    · rw [if_pos hz, if_pos (Int32.toInt_inj.mp (by rw [hm, Int.mul_comm]; omega)), hd]
    · rw [if_neg hz, if_neg (fun q => by have := congrArg Int32.toInt q; rw [hm, Int.mul_comm] at this; omega), tS (by rw [hd]; show _ ≤ _ - (1 : Int); omega) (by rw [hd]; show _ - (1 : Int) ≤ _; omega), hd]
      rfl
theorem eqI {a b : Int32} : a = b ↔ a.toInt = b.toInt := Int32.toInt_inj.symm
theorem eqL {a b : Int64} : a = b ↔ a.toInt = b.toInt := Int64.toInt_inj.symm
theorem ltI {a b : Int32} : a < b ↔ a.toInt < b.toInt := Int32.lt_iff_toInt_lt
theorem leI {a b : Int32} : a ≤ b ↔ a.toInt ≤ b.toInt := Int32.le_iff_toInt_le
theorem cmp_lt (x y : Int64) : lg_cmp x y < 0 ↔ x.toInt < y.toInt := by
  unfold lg_cmp
  by_cases h : y < x
  · rw [if_pos h]
    rw [Int64.lt_iff_toInt_lt] at h
    exact ⟨fun q => absurd q (by decide), fun q => by omega⟩
  · rw [if_neg h]
    rw [Int64.lt_iff_toInt_lt] at h
    by_cases e : x = y
    · rw [if_pos e, e]
      exact ⟨fun q => absurd q (by decide), fun q => by omega⟩
    · rw [if_neg e]
      rw [eqL] at e
      exact ⟨fun _ => by omega, fun _ => by decide⟩
theorem cmp_gt (x y : Int64) : 0 < lg_cmp x y ↔ y.toInt < x.toInt := by
  unfold lg_cmp
  by_cases h : y < x
  · rw [if_pos h]
    rw [Int64.lt_iff_toInt_lt] at h
    exact ⟨fun _ => h, fun _ => by decide⟩
  · rw [if_neg h]
    rw [Int64.lt_iff_toInt_lt] at h
    by_cases e : x = y
    · rw [if_pos e, e]
      exact ⟨fun q => absurd q (by decide), fun q => by omega⟩
    · rw [if_neg e]
      exact ⟨fun q => absurd q (by decide), fun q => by omega⟩
theorem cmp_le (x y : Int64) : lg_cmp x y ≤ 0 ↔ x.toInt ≤ y.toInt := by
  rw [← Int.not_lt, ← cmp_gt, Int32.not_lt]
theorem cmp_eq (x y : Int64) : lg_cmp x y = 0 ↔ x.toInt = y.toInt := by
  unfold lg_cmp
  by_cases h : y < x
  · rw [if_pos h]
    rw [Int64.lt_iff_toInt_lt] at h
    exact ⟨fun q => absurd q (by decide), fun q => by omega⟩
  · rw [if_neg h]
    by_cases e : x = y
    · rw [if_pos e]
      exact ⟨fun _ => by rw [e], fun _ => rfl⟩
    · rw [if_neg e]
      exact ⟨fun q => absurd q (by decide), fun q => absurd (eqL.mpr q) e⟩
theorem isIn_eq (p a b : Int32) : F_X8_isIn p a b = decide (a.toInt ≤ p.toInt ∧ p.toInt ≤ b.toInt) := by
  unfold F_X8_isIn
  simp only [ltI]
  by_cases h1 : p.toInt < a.toInt
  · rw [if_pos h1]; exact (decide_eq_false (by omega)).symm
  · rw [if_neg h1]
    by_cases h2 : b.toInt < p.toInt
    · rw [if_pos h2]; exact (decide_eq_false (by omega)).symm
    · rw [if_neg h2]; exact (decide_eq_true (by omega)).symm
theorem in_eq (p a b : Int64) : F_X9_in p a b = decide (a.toInt ≤ p.toInt ∧ p.toInt ≤ b.toInt) := by
  unfold F_X9_in
  simp only [cmp_lt, cmp_gt]
  by_cases h1 : p.toInt < a.toInt
  · rw [if_pos h1]; exact (decide_eq_false (by omega)).symm
  · rw [if_neg h1]
    by_cases h2 : b.toInt < p.toInt
    · rw [if_pos h2]; exact (decide_eq_false (by omega)).symm
    · rw [if_neg h2]; exact (decide_eq_true (by omega)).symm
theorem bf_d {α : Sort _} {P : Prop} [Decidable P] (x y : α) : bf (decide P) x y = if P then x else y := by
  by_cases h : P
  · rw [if_pos h, decide_eq_true h]; rfl
  · rw [if_neg h, decide_eq_false h]; rfl
theorem bf_t {α : Sort _} (x y : α) : bf true x y = x := rfl
theorem bf_f {α : Sort _} (x y : α) : bf false x y = y := rfl
theorem gd_t {α : Type} (k : Option α) : gd true k = k := rfl
theorem gd_d {α : Type} {P : Prop} [Decidable P] (h : P) (k : Option α) : gd (decide P) k = k := by rw [decide_eq_true h]; rfl
theorem nat_toInt (i : Int32) : i.toNatClampNeg = i.toInt.toNat := rfl
theorem inb_t {i : Int32} {n : Nat} (h0 : 0 ≤ i.toInt) (h1 : i.toInt < (n : Int)) : inb i n = true := by
  unfold inb
  refine decide_eq_true ?_
  rw [ltI, Int32.toInt_zero, nat_toInt]
  omega
theorem gd_i {α : Type} {i : Int32} {n : Nat} (h0 : 0 ≤ i.toInt) (h1 : i.toInt < (n : Int)) (k : Option α) : gd (inb i n) k = k := by rw [inb_t h0 h1]; rfl
theorem bindE {α β : Type} (o : Option (α × β)) : (o.bind fun r => some (r.1, r.2)) = o := by cases o <;> rfl
theorem bindS {α : Type} (o : Option α) : (o.bind fun r => some r) = o := by cases o <;> rfl
theorem bindV {α β : Type} (a : α) (f : α → Option β) : ((some a).bind f) = f a := rfl
theorem oM_n {α : Type} (A : α) (B : Nat → α) : oM none A B = A := rfl
theorem oM_s {α : Type} (k : Nat) (A : α) (B : Nat → α) : oM (some k) A B = B k := rfl
theorem iLt {α : Sort _} (a b : Int32) (x y : α) : (if a < b then x else y) = if a.toInt < b.toInt then x else y := by
  by_cases h : a < b
  · rw [if_pos h, if_pos (ltI.mp h)]
  · rw [if_neg h, if_neg (fun q => h (ltI.mpr q))]
theorem iLe {α : Sort _} (a b : Int32) (x y : α) : (if a ≤ b then x else y) = if a.toInt ≤ b.toInt then x else y := by
  by_cases h : a ≤ b
  · rw [if_pos h, if_pos (leI.mp h)]
  · rw [if_neg h, if_neg (fun q => h (leI.mpr q))]
theorem iEq {α : Sort _} (a b : Int32) (x y : α) : (if a = b then x else y) = if a.toInt = b.toInt then x else y := by
  by_cases h : a = b
  · rw [if_pos h, if_pos (eqI.mp h)]
  · rw [if_neg h, if_neg (fun q => h (eqI.mpr q))]
theorem max_I (a b : Int32) : (F_J9_max_7cf53 a b).toInt = max a.toInt b.toInt := by
  unfold F_J9_max_7cf53
  rw [iLt]
  split <;> omega
theorem min_I (a b : Int32) : (F_J9_min_7cf53 a b).toInt = min a.toInt b.toInt := by
  unfold F_J9_min_7cf53
  rw [iLt]
  split <;> omega
theorem lastOf_eq (a b : Int32) : F_X2_lastOf a b = F_X9_lastOf a b := by
  unfold F_X2_lastOf F_X9_lastOf F_J9_min_7cf53
  rw [iLt, iLe]
  by_cases h : (9999 : Int32).toInt ≤ (a + b - 1).toInt
  · by_cases h2 : (9999 : Int32).toInt < (a + b - 1).toInt
    · rw [if_pos h, if_pos h2]
    · rw [if_pos h, if_neg h2, eqI]; omega
  · rw [if_neg h, if_neg (by omega)]
theorem lastOf_I {a b : Int32} (h0 : 0 ≤ a.toInt) (h1 : a.toInt ≤ 9999) (h2 : 0 ≤ b.toInt) (h3 : b.toInt ≤ 1000) : (F_X9_lastOf a b).toInt = min (a.toInt + b.toInt - 1) 9999 := by
  unfold F_X9_lastOf
  have e1 : (a + b).toInt = a.toInt + b.toInt := tA (by omega) (by omega)
  have e : (a + b - 1).toInt = a.toInt + b.toInt - 1 := by
    rw [tS (by rw [e1]; show _ ≤ _ - (1 : Int); omega) (by rw [e1]; show _ - (1 : Int) ≤ _; omega), e1]; rfl
  rw [iLe, e]
  by_cases c : (9999 : Int32).toInt ≤ a.toInt + b.toInt - 1
  · rw [if_pos c]
    replace c : (9999 : Int) ≤ _ := c
    show (9999 : Int) = _
    omega
  · rw [if_neg c, e]
    replace c : ¬ (9999 : Int) ≤ _ := c
    omega
theorem abs_I {a : Int32} (h : -2147483648 < a.toInt) : (F_J9_abs_0f7a4 a).toInt = if 0 ≤ a.toInt then a.toInt else -a.toInt := by
  unfold F_J9_abs_0f7a4
  rw [iLe, Int32.toInt_zero]
  split
  · rfl
  · exact tN h
