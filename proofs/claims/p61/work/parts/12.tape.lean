def F_X7_size (s : XS) : Int32 := ((tp_size (x_tape s)))
set_option maxHeartbeats 4000000 in
set_option maxRecDepth 100000 in
theorem c_X7_size (D : va_G) (cA : Nat → ClassId) (ax : Nat → Nat) (s : XS)  : RO m_X7_size 0 D cA [.ref (ax 41)] (xW cA ax s) (some (.int (F_X7_size s))) := by
  obtain ⟨r, h⟩ : ∃ r, F_X7_size s = r := ⟨_, rfl⟩
  rw [h]
  refine RO.ofW gy_X7_size.2.2 (Nat.le_of_ble_eq_true rfl) ?_
  intro l p e sM m below meth c F hr hlk hK hP hS hAb ls hl
  have hl : lv_has ls 1 [(0, .ref (ax 41))] := hl
  unfold F_X7_size at h
  refine lv_aload_n F.1 F.2.1 (dd D_X7_size 0 rfl) rfl (lv_at hl 0 rfl) ?_
  refine getF F hK hP lf_X7_15 (41) (xp_41 cA ax s) rfl (dd D_X7_size 1 rfl) ?_
  exact ro_i (R := rmOf 0 0 0) F hr hlk (congrArg (fun z => some (Value.int z)) h) (dd D_X7_size 2 rfl)
def F_X7_isFull (s : XS) : Bool := (if (tp_size (x_tape s)) < (250 : Int32) then (false) else (true))
set_option maxHeartbeats 4000000 in
set_option maxRecDepth 100000 in
theorem c_X7_isFull (D : va_G) (cA : Nat → ClassId) (ax : Nat → Nat) (s : XS)  : RO m_X7_isFull 0 D cA [.ref (ax 41)] (xW cA ax s) (some (.int (bI (F_X7_isFull s)))) := by
  obtain ⟨r, h⟩ : ∃ r, F_X7_isFull s = r := ⟨_, rfl⟩
  rw [h]
  refine RO.ofW gy_X7_isFull.2.2 (Nat.le_of_ble_eq_true rfl) ?_
  intro l p e sM m below meth c F hr hlk hK hP hS hAb ls hl
  have hl : lv_has ls 1 [(0, .ref (ax 41))] := hl
  unfold F_X7_isFull at h
  refine lv_aload_n F.1 F.2.1 (dd D_X7_isFull 0 rfl) rfl (lv_at hl 0 rfl) ?_
  refine getF F hK hP lf_X7_15 (41) (xp_41 cA ax s) rfl (dd D_X7_isFull 1 rfl) ?_
  refine lv_aload_n F.1 F.2.1 (dd D_X7_isFull 2 rfl) rfl (lv_at hl 0 rfl) ?_
  refine getF F hK hP lf_X7_11 (41) (xp_41 cA ax s) rfl (dd D_X7_isFull 3 rfl) ?_
  refine alen F hK hP (42) 0 (xp_42 cA ax s) rfl (v := (250 : Int32)) kn_250 (dd D_X7_isFull 4 rfl) ?_
  refine x_icmp_lt (tgt := 16) F.1 F.2.1 (dd D_X7_isFull 5 rfl) rfl h (fun c1 h => ?_) (fun c1 h => ?_)
  · refine lv_iconst (v := (0 : Int32)) F.1 F.2.1 (dd D_X7_isFull 8 rfl) ki_0 ?_
    exact ro_z (R := rmOf 0 0 0) F hr rfl hlk (congrArg (fun z => some (Value.int (bI z))) h) (dd D_X7_isFull 9 rfl)
  · refine lv_iconst (v := (1 : Int32)) F.1 F.2.1 (dd D_X7_isFull 6 rfl) ki_1 ?_
    refine lv_goto (tgt := 17) F.1 F.2.1 (dd D_X7_isFull 7 rfl) rfl ?_
    exact ro_z (R := rmOf 0 0 0) F hr rfl hlk (congrArg (fun z => some (Value.int (bI z))) h) (dd D_X7_isFull 9 rfl)
def F_X7_add (n : Nat) (s : XS) (p1 : Int32) : Option XS := (if (tp_size (x_tape s)) < 0 then some s else (if (250 : Int32) ≤ (tp_size (x_tape s)) then some s else gd (inb (tp_size (x_tape s)) 250) (some (x_set_tape (x_set_tape s (tp_set_by (x_tape s) (upd (tp_by (x_tape s)) (Int32.toNatClampNeg (tp_size (x_tape s))) p1))) (tp_set_size (x_tape (x_set_tape s (tp_set_by (x_tape s) (upd (tp_by (x_tape s)) (Int32.toNatClampNeg (tp_size (x_tape s))) p1)))) ((tp_size (x_tape (x_set_tape s (tp_set_by (x_tape s) (upd (tp_by (x_tape s)) (Int32.toNatClampNeg (tp_size (x_tape s))) p1))))) + (1 : Int32)))))))
set_option maxHeartbeats 4000000 in
set_option maxRecDepth 100000 in
theorem c_X7_add (D : va_G) (cA : Nat → ClassId) (ax : Nat → Nat) (s : XS) (n : Nat) (p1 : Int32) (r : XS) (h : F_X7_add n s p1 = some r) : RW m_X7_add 0 0 0 D cA [.ref (ax 41), .int p1] (xW cA ax s) (exq (none) (xW cA ax r)) := by
  refine RW.ofW gy_X7_add.2.2 (Nat.le_of_ble_eq_true rfl) ?_
  intro l p e sM m below meth c A H locs F hr hlk hnm hK hP hD hS hA hAb ls hl
  have hl : lv_has ls 2 [(0, .ref (ax 41)), (1, .int p1)] := hl
  unfold F_X7_add at h
  refine lv_aload_n F.1 F.2.1 (dd D_X7_add 0 rfl) rfl (lv_at hl 0 rfl) ?_
  refine getF F hK hP lf_X7_15 (41) (xp_41 cA ax s) rfl (dd D_X7_add 1 rfl) ?_
  refine x_if_lt (tgt := 39) F.1 F.2.1 (dd D_X7_add 2 rfl) rfl h (fun c1 h => ?_) (fun c1 h => ?_)
  · obtain rfl := Option.some.inj h
    exact rw_v (R := rmOf 0 0 0) F hP hD hS hr hlk ⟨Nat.le_of_ble_eq_true rfl, Nat.le_of_ble_eq_true rfl⟩ ⟨rfl, rfl⟩ (dd D_X7_add 21 rfl)
  · refine lv_aload_n F.1 F.2.1 (dd D_X7_add 3 rfl) rfl (lv_at hl 0 rfl) ?_
    refine getF F hK hP lf_X7_15 (41) (xp_41 cA ax s) rfl (dd D_X7_add 4 rfl) ?_
    refine lv_aload_n F.1 F.2.1 (dd D_X7_add 5 rfl) rfl (lv_at hl 0 rfl) ?_
    refine getF F hK hP lf_X7_11 (41) (xp_41 cA ax s) rfl (dd D_X7_add 6 rfl) ?_
    refine alen F hK hP (42) 0 (xp_42 cA ax s) rfl (v := (250 : Int32)) kn_250 (dd D_X7_add 7 rfl) ?_
    refine x_icmp_ge (tgt := 39) F.1 F.2.1 (dd D_X7_add 8 rfl) rfl h (fun c2 h => ?_) (fun c2 h => ?_)
    · obtain rfl := Option.some.inj h
      exact rw_v (R := rmOf 0 0 0) F hP hD hS hr hlk ⟨Nat.le_of_ble_eq_true rfl, Nat.le_of_ble_eq_true rfl⟩ ⟨rfl, rfl⟩ (dd D_X7_add 21 rfl)
    · refine lv_aload_n F.1 F.2.1 (dd D_X7_add 9 rfl) rfl (lv_at hl 0 rfl) ?_
      refine getF F hK hP lf_X7_11 (41) (xp_41 cA ax s) rfl (dd D_X7_add 10 rfl) ?_
      refine lv_aload_n F.1 F.2.1 (dd D_X7_add 11 rfl) rfl (lv_at hl 0 rfl) ?_
      refine getF F hK hP lf_X7_15 (41) (xp_41 cA ax s) rfl (dd D_X7_add 12 rfl) ?_
      refine lv_iload_n F.1 F.2.1 (dd D_X7_add 13 rfl) rfl (lv_at hl 1 rfl) ?_
      refine astI F hK hP hD hS (42) (xp_42 cA ax s) h (ws' := (xW cA ax (x_set_tape s (tp_set_by (x_tape s) (upd (tp_by (x_tape s)) (Int32.toNatClampNeg (tp_size (x_tape s))) p1))))) (xs_42 cA ax s (upd (tp_by (x_tape s)) (Int32.toNatClampNeg (tp_size (x_tape s))) p1)) (dd D_X7_add 14 rfl) (fun z3 h H locs hP hD hS => ?_)
      refine lv_aload_n F.1 F.2.1 (dd D_X7_add 15 rfl) rfl (lv_at hl 0 rfl) ?_
      refine lv_dup F.1 F.2.1 (dd D_X7_add 16 rfl) rfl ?_
      refine getF F hK hP lf_X7_15 (41) (xp_41 cA ax (x_set_tape s (tp_set_by (x_tape s) (upd (tp_by (x_tape s)) (Int32.toNatClampNeg (tp_size (x_tape s))) p1)))) rfl (dd D_X7_add 17 rfl) ?_
      refine lv_iconst (v := (1 : Int32)) F.1 F.2.1 (dd D_X7_add 18 rfl) ki_1 ?_
      refine lv_iadd F.1 F.2.1 (dd D_X7_add 19 rfl) ?_
      refine putF F hK hP hD hS lp_X7_15 (41) (xp_41 cA ax (x_set_tape s (tp_set_by (x_tape s) (upd (tp_by (x_tape s)) (Int32.toNatClampNeg (tp_size (x_tape s))) p1)))) (Nat.le_of_ble_eq_true rfl) (nar_int _) (fit_int _) (ws' := (xW cA ax (x_set_tape (x_set_tape s (tp_set_by (x_tape s) (upd (tp_by (x_tape s)) (Int32.toNatClampNeg (tp_size (x_tape s))) p1))) (tp_set_size (x_tape (x_set_tape s (tp_set_by (x_tape s) (upd (tp_by (x_tape s)) (Int32.toNatClampNeg (tp_size (x_tape s))) p1)))) ((tp_size (x_tape (x_set_tape s (tp_set_by (x_tape s) (upd (tp_by (x_tape s)) (Int32.toNatClampNeg (tp_size (x_tape s))) p1))))) + (1 : Int32)))))) (xs_41_1 cA ax (x_set_tape s (tp_set_by (x_tape s) (upd (tp_by (x_tape s)) (Int32.toNatClampNeg (tp_size (x_tape s))) p1))) ((tp_size (x_tape (x_set_tape s (tp_set_by (x_tape s) (upd (tp_by (x_tape s)) (Int32.toNatClampNeg (tp_size (x_tape s))) p1))))) + (1 : Int32))) (dd D_X7_add 20 rfl) (fun H locs hP hD hS => ?_)
      obtain rfl := Option.some.inj h
      exact rw_v (R := rmOf 0 0 0) F hP hD hS hr hlk ⟨Nat.le_of_ble_eq_true rfl, Nat.le_of_ble_eq_true rfl⟩ ⟨rfl, rfl⟩ (dd D_X7_add 21 rfl)
def F_X7_empty (s : XS) : XS := (x_set_tape s (tp_set_size (x_tape s) (0 : Int32)))
set_option maxHeartbeats 4000000 in
set_option maxRecDepth 100000 in
theorem c_X7_empty (D : va_G) (cA : Nat → ClassId) (ax : Nat → Nat) (s : XS)  : RW m_X7_empty 0 0 0 D cA [.ref (ax 41)] (xW cA ax s) (exq (none) (xW cA ax (F_X7_empty s))) := by
  obtain ⟨r, h⟩ : ∃ r, F_X7_empty s = r := ⟨_, rfl⟩
  rw [h]
  refine RW.ofW gy_X7_empty.2.2 (Nat.le_of_ble_eq_true rfl) ?_
  intro l p e sM m below meth c A H locs F hr hlk hnm hK hP hD hS hA hAb ls hl
  have hl : lv_has ls 1 [(0, .ref (ax 41))] := hl
  unfold F_X7_empty at h
  refine lv_aload_n F.1 F.2.1 (dd D_X7_empty 0 rfl) rfl (lv_at hl 0 rfl) ?_
  refine lv_iconst (v := (0 : Int32)) F.1 F.2.1 (dd D_X7_empty 1 rfl) ki_0 ?_
  refine putF F hK hP hD hS lp_X7_15 (41) (xp_41 cA ax s) (Nat.le_of_ble_eq_true rfl) (nar_int _) (fit_int _) (ws' := (xW cA ax (x_set_tape s (tp_set_size (x_tape s) (0 : Int32))))) (xs_41_1 cA ax s (0 : Int32)) (dd D_X7_empty 2 rfl) (fun H locs hP hD hS => ?_)
  subst h
  exact rw_v (R := rmOf 0 0 0) F hP hD hS hr hlk ⟨Nat.le_of_ble_eq_true rfl, Nat.le_of_ble_eq_true rfl⟩ ⟨rfl, rfl⟩ (dd D_X7_empty 3 rfl)
def F_X7_fault (s : XS) : Int32 := ((tp_start (x_tape s)))
set_option maxHeartbeats 4000000 in
set_option maxRecDepth 100000 in
theorem c_X7_fault (D : va_G) (cA : Nat → ClassId) (ax : Nat → Nat) (s : XS)  : RO m_X7_fault 0 D cA [.ref (ax 41)] (xW cA ax s) (some (.int (F_X7_fault s))) := by
  obtain ⟨r, h⟩ : ∃ r, F_X7_fault s = r := ⟨_, rfl⟩
  rw [h]
  refine RO.ofW gy_X7_fault.2.2 (Nat.le_of_ble_eq_true rfl) ?_
  intro l p e sM m below meth c F hr hlk hK hP hS hAb ls hl
  have hl : lv_has ls 1 [(0, .ref (ax 41))] := hl
  unfold F_X7_fault at h
  refine lv_aload_n F.1 F.2.1 (dd D_X7_fault 0 rfl) rfl (lv_at hl 0 rfl) ?_
  refine getF F hK hP lf_X7_19 (41) (xp_41 cA ax s) rfl (dd D_X7_fault 1 rfl) ?_
  exact ro_i (R := rmOf 0 0 0) F hr hlk (congrArg (fun z => some (Value.int z)) h) (dd D_X7_fault 2 rfl)
def F_X7_byteAt (n : Nat) (s : XS) (p1 : Int32) : Option Int32 := (if p1 < 0 then some ((-1 : Int32)) else (if (tp_size (x_tape s)) ≤ p1 then some ((-1 : Int32)) else (if (250 : Int32) ≤ p1 then some ((-1 : Int32)) else gd (inb p1 250) (some (((tp_by (x_tape s)) (Int32.toNatClampNeg p1)))))))
set_option maxHeartbeats 4000000 in
set_option maxRecDepth 100000 in
theorem c_X7_byteAt (D : va_G) (cA : Nat → ClassId) (ax : Nat → Nat) (s : XS) (n : Nat) (p1 : Int32) (r : Int32) (h : F_X7_byteAt n s p1 = some r) : RO m_X7_byteAt 0 D cA [.ref (ax 41), .int p1] (xW cA ax s) (some (.int r)) := by
  refine RO.ofW gy_X7_byteAt.2.2 (Nat.le_of_ble_eq_true rfl) ?_
  intro l p e sM m below meth c F hr hlk hK hP hS hAb ls hl
  have hl : lv_has ls 2 [(0, .ref (ax 41)), (1, .int p1)] := hl
  unfold F_X7_byteAt at h
  refine lv_iload_n F.1 F.2.1 (dd D_X7_byteAt 0 rfl) rfl (lv_at hl 1 rfl) ?_
  refine x_if_lt (tgt := 30) F.1 F.2.1 (dd D_X7_byteAt 1 rfl) rfl h (fun c1 h => ?_) (fun c1 h => ?_)
  · refine lv_iconst (v := (-1 : Int32)) F.1 F.2.1 (dd D_X7_byteAt 16 rfl) ki_m1 ?_
    exact ro_i (R := rmOf 0 0 0) F hr hlk (congrArg (Option.map Value.int) h) (dd D_X7_byteAt 17 rfl)
  · refine lv_iload_n F.1 F.2.1 (dd D_X7_byteAt 2 rfl) rfl (lv_at hl 1 rfl) ?_
    refine lv_aload_n F.1 F.2.1 (dd D_X7_byteAt 3 rfl) rfl (lv_at hl 0 rfl) ?_
    refine getF F hK hP lf_X7_15 (41) (xp_41 cA ax s) rfl (dd D_X7_byteAt 4 rfl) ?_
    refine x_icmp_ge (tgt := 30) F.1 F.2.1 (dd D_X7_byteAt 5 rfl) rfl h (fun c2 h => ?_) (fun c2 h => ?_)
    · refine lv_iconst (v := (-1 : Int32)) F.1 F.2.1 (dd D_X7_byteAt 16 rfl) ki_m1 ?_
      exact ro_i (R := rmOf 0 0 0) F hr hlk (congrArg (Option.map Value.int) h) (dd D_X7_byteAt 17 rfl)
    · refine lv_iload_n F.1 F.2.1 (dd D_X7_byteAt 6 rfl) rfl (lv_at hl 1 rfl) ?_
      refine lv_aload_n F.1 F.2.1 (dd D_X7_byteAt 7 rfl) rfl (lv_at hl 0 rfl) ?_
      refine getF F hK hP lf_X7_11 (41) (xp_41 cA ax s) rfl (dd D_X7_byteAt 8 rfl) ?_
      refine alen F hK hP (42) 0 (xp_42 cA ax s) rfl (v := (250 : Int32)) kn_250 (dd D_X7_byteAt 9 rfl) ?_
      refine x_icmp_ge (tgt := 30) F.1 F.2.1 (dd D_X7_byteAt 10 rfl) rfl h (fun c3 h => ?_) (fun c3 h => ?_)
      · refine lv_iconst (v := (-1 : Int32)) F.1 F.2.1 (dd D_X7_byteAt 16 rfl) ki_m1 ?_
        exact ro_i (R := rmOf 0 0 0) F hr hlk (congrArg (Option.map Value.int) h) (dd D_X7_byteAt 17 rfl)
      · refine lv_aload_n F.1 F.2.1 (dd D_X7_byteAt 11 rfl) rfl (lv_at hl 0 rfl) ?_
        refine getF F hK hP lf_X7_11 (41) (xp_41 cA ax s) rfl (dd D_X7_byteAt 12 rfl) ?_
        refine lv_iload_n F.1 F.2.1 (dd D_X7_byteAt 13 rfl) rfl (lv_at hl 1 rfl) ?_
        refine aldI F hK hP (42) (xp_42 cA ax s) h (dd D_X7_byteAt 14 rfl) (fun z4 h => ?_)
        refine lv_goto (tgt := 31) F.1 F.2.1 (dd D_X7_byteAt 15 rfl) rfl ?_
        exact ro_i (R := rmOf 0 0 0) F hr hlk (congrArg (Option.map Value.int) h) (dd D_X7_byteAt 17 rfl)
def F_X7_tokenOf (p0 : Int32) : Int32 := (if p0 = (-1 : Int32) then ((0 : Int32)) else (if p0 < (97 : Int32) then (if p0 < (48 : Int32) then (if p0 = (59 : Int32) then ((3 : Int32)) else ((4 : Int32))) else (if (57 : Int32) < p0 then (if p0 = (59 : Int32) then ((3 : Int32)) else ((4 : Int32))) else ((2 : Int32)))) else (if (122 : Int32) < p0 then (if p0 < (48 : Int32) then (if p0 = (59 : Int32) then ((3 : Int32)) else ((4 : Int32))) else (if (57 : Int32) < p0 then (if p0 = (59 : Int32) then ((3 : Int32)) else ((4 : Int32))) else ((2 : Int32)))) else ((1 : Int32)))))
set_option maxHeartbeats 4000000 in
set_option maxRecDepth 100000 in
theorem c_X7_tokenOf (D : va_G) (cA : Nat → ClassId)  (p0 : Int32) : RO m_X7_tokenOf 0 D cA [.int p0] [] (some (.int (F_X7_tokenOf p0))) := by
  obtain ⟨r, h⟩ : ∃ r, F_X7_tokenOf p0 = r := ⟨_, rfl⟩
  rw [h]
  refine RO.ofW gy_X7_tokenOf.2.2 (Nat.le_of_ble_eq_true rfl) ?_
  intro l p e sM m below meth c F hr hlk hK hP hS hAb ls hl
  have hl : lv_has ls 1 [(0, .int p0)] := hl
  unfold F_X7_tokenOf at h
  refine lv_iload_n F.1 F.2.1 (dd D_X7_tokenOf 0 rfl) rfl (lv_at hl 0 rfl) ?_
  refine lv_iconst (v := (-1 : Int32)) F.1 F.2.1 (dd D_X7_tokenOf 1 rfl) ki_m1 ?_
  refine x_icmp_ne (tgt := 7) F.1 F.2.1 (dd D_X7_tokenOf 2 rfl) rfl h (fun c1 h => ?_) (fun c1 h => ?_)
  · refine lv_iload_n F.1 F.2.1 (dd D_X7_tokenOf 5 rfl) rfl (lv_at hl 0 rfl) ?_
    refine lv_bipush (v := (97 : Int32)) F.1 F.2.1 (dd D_X7_tokenOf 6 rfl) kb_97 ?_
    refine x_icmp_lt (tgt := 21) F.1 F.2.1 (dd D_X7_tokenOf 7 rfl) rfl h (fun c2 h => ?_) (fun c2 h => ?_)
    · refine lv_iload_n F.1 F.2.1 (dd D_X7_tokenOf 13 rfl) rfl (lv_at hl 0 rfl) ?_
      refine lv_bipush (v := (48 : Int32)) F.1 F.2.1 (dd D_X7_tokenOf 14 rfl) kb_48 ?_
      refine x_icmp_lt (tgt := 35) F.1 F.2.1 (dd D_X7_tokenOf 15 rfl) rfl h (fun c3 h => ?_) (fun c3 h => ?_)
      · refine lv_iload_n F.1 F.2.1 (dd D_X7_tokenOf 21 rfl) rfl (lv_at hl 0 rfl) ?_
        refine lv_bipush (v := (59 : Int32)) F.1 F.2.1 (dd D_X7_tokenOf 22 rfl) kb_59 ?_
        refine x_icmp_ne (tgt := 45) F.1 F.2.1 (dd D_X7_tokenOf 23 rfl) rfl h (fun c4 h => ?_) (fun c4 h => ?_)
        · refine lv_iconst (v := (4 : Int32)) F.1 F.2.1 (dd D_X7_tokenOf 26 rfl) ki_4 ?_
          exact ro_i (R := rmOf 0 0 0) F hr hlk (congrArg (fun z => some (Value.int z)) h) (dd D_X7_tokenOf 27 rfl)
        · refine lv_iconst (v := (3 : Int32)) F.1 F.2.1 (dd D_X7_tokenOf 24 rfl) ki_3 ?_
          refine lv_goto (tgt := 46) F.1 F.2.1 (dd D_X7_tokenOf 25 rfl) rfl ?_
          exact ro_i (R := rmOf 0 0 0) F hr hlk (congrArg (fun z => some (Value.int z)) h) (dd D_X7_tokenOf 27 rfl)
      · refine lv_iload_n F.1 F.2.1 (dd D_X7_tokenOf 16 rfl) rfl (lv_at hl 0 rfl) ?_
        refine lv_bipush (v := (57 : Int32)) F.1 F.2.1 (dd D_X7_tokenOf 17 rfl) kb_57 ?_
        refine x_icmp_gt (tgt := 35) F.1 F.2.1 (dd D_X7_tokenOf 18 rfl) rfl h (fun c5 h => ?_) (fun c5 h => ?_)
        · refine lv_iload_n F.1 F.2.1 (dd D_X7_tokenOf 21 rfl) rfl (lv_at hl 0 rfl) ?_
          refine lv_bipush (v := (59 : Int32)) F.1 F.2.1 (dd D_X7_tokenOf 22 rfl) kb_59 ?_
          refine x_icmp_ne (tgt := 45) F.1 F.2.1 (dd D_X7_tokenOf 23 rfl) rfl h (fun c6 h => ?_) (fun c6 h => ?_)
          · refine lv_iconst (v := (4 : Int32)) F.1 F.2.1 (dd D_X7_tokenOf 26 rfl) ki_4 ?_
            exact ro_i (R := rmOf 0 0 0) F hr hlk (congrArg (fun z => some (Value.int z)) h) (dd D_X7_tokenOf 27 rfl)
          · refine lv_iconst (v := (3 : Int32)) F.1 F.2.1 (dd D_X7_tokenOf 24 rfl) ki_3 ?_
            refine lv_goto (tgt := 46) F.1 F.2.1 (dd D_X7_tokenOf 25 rfl) rfl ?_
            exact ro_i (R := rmOf 0 0 0) F hr hlk (congrArg (fun z => some (Value.int z)) h) (dd D_X7_tokenOf 27 rfl)
        · refine lv_iconst (v := (2 : Int32)) F.1 F.2.1 (dd D_X7_tokenOf 19 rfl) ki_2 ?_
          exact ro_i (R := rmOf 0 0 0) F hr hlk (congrArg (fun z => some (Value.int z)) h) (dd D_X7_tokenOf 20 rfl)
    · refine lv_iload_n F.1 F.2.1 (dd D_X7_tokenOf 8 rfl) rfl (lv_at hl 0 rfl) ?_
      refine lv_bipush (v := (122 : Int32)) F.1 F.2.1 (dd D_X7_tokenOf 9 rfl) kb_122 ?_
      refine x_icmp_gt (tgt := 21) F.1 F.2.1 (dd D_X7_tokenOf 10 rfl) rfl h (fun c7 h => ?_) (fun c7 h => ?_)
      · refine lv_iload_n F.1 F.2.1 (dd D_X7_tokenOf 13 rfl) rfl (lv_at hl 0 rfl) ?_
        refine lv_bipush (v := (48 : Int32)) F.1 F.2.1 (dd D_X7_tokenOf 14 rfl) kb_48 ?_
        refine x_icmp_lt (tgt := 35) F.1 F.2.1 (dd D_X7_tokenOf 15 rfl) rfl h (fun c8 h => ?_) (fun c8 h => ?_)
        · refine lv_iload_n F.1 F.2.1 (dd D_X7_tokenOf 21 rfl) rfl (lv_at hl 0 rfl) ?_
          refine lv_bipush (v := (59 : Int32)) F.1 F.2.1 (dd D_X7_tokenOf 22 rfl) kb_59 ?_
          refine x_icmp_ne (tgt := 45) F.1 F.2.1 (dd D_X7_tokenOf 23 rfl) rfl h (fun c9 h => ?_) (fun c9 h => ?_)
          · refine lv_iconst (v := (4 : Int32)) F.1 F.2.1 (dd D_X7_tokenOf 26 rfl) ki_4 ?_
            exact ro_i (R := rmOf 0 0 0) F hr hlk (congrArg (fun z => some (Value.int z)) h) (dd D_X7_tokenOf 27 rfl)
          · refine lv_iconst (v := (3 : Int32)) F.1 F.2.1 (dd D_X7_tokenOf 24 rfl) ki_3 ?_
            refine lv_goto (tgt := 46) F.1 F.2.1 (dd D_X7_tokenOf 25 rfl) rfl ?_
            exact ro_i (R := rmOf 0 0 0) F hr hlk (congrArg (fun z => some (Value.int z)) h) (dd D_X7_tokenOf 27 rfl)
        · refine lv_iload_n F.1 F.2.1 (dd D_X7_tokenOf 16 rfl) rfl (lv_at hl 0 rfl) ?_
          refine lv_bipush (v := (57 : Int32)) F.1 F.2.1 (dd D_X7_tokenOf 17 rfl) kb_57 ?_
          refine x_icmp_gt (tgt := 35) F.1 F.2.1 (dd D_X7_tokenOf 18 rfl) rfl h (fun c10 h => ?_) (fun c10 h => ?_)
          · refine lv_iload_n F.1 F.2.1 (dd D_X7_tokenOf 21 rfl) rfl (lv_at hl 0 rfl) ?_
            refine lv_bipush (v := (59 : Int32)) F.1 F.2.1 (dd D_X7_tokenOf 22 rfl) kb_59 ?_
            refine x_icmp_ne (tgt := 45) F.1 F.2.1 (dd D_X7_tokenOf 23 rfl) rfl h (fun c11 h => ?_) (fun c11 h => ?_)
            · refine lv_iconst (v := (4 : Int32)) F.1 F.2.1 (dd D_X7_tokenOf 26 rfl) ki_4 ?_
              exact ro_i (R := rmOf 0 0 0) F hr hlk (congrArg (fun z => some (Value.int z)) h) (dd D_X7_tokenOf 27 rfl)
            · refine lv_iconst (v := (3 : Int32)) F.1 F.2.1 (dd D_X7_tokenOf 24 rfl) ki_3 ?_
              refine lv_goto (tgt := 46) F.1 F.2.1 (dd D_X7_tokenOf 25 rfl) rfl ?_
              exact ro_i (R := rmOf 0 0 0) F hr hlk (congrArg (fun z => some (Value.int z)) h) (dd D_X7_tokenOf 27 rfl)
          · refine lv_iconst (v := (2 : Int32)) F.1 F.2.1 (dd D_X7_tokenOf 19 rfl) ki_2 ?_
            exact ro_i (R := rmOf 0 0 0) F hr hlk (congrArg (fun z => some (Value.int z)) h) (dd D_X7_tokenOf 20 rfl)
      · refine lv_iconst (v := (1 : Int32)) F.1 F.2.1 (dd D_X7_tokenOf 11 rfl) ki_1 ?_
        exact ro_i (R := rmOf 0 0 0) F hr hlk (congrArg (fun z => some (Value.int z)) h) (dd D_X7_tokenOf 12 rfl)
  · refine lv_iconst (v := (0 : Int32)) F.1 F.2.1 (dd D_X7_tokenOf 3 rfl) ki_0 ?_
    exact ro_i (R := rmOf 0 0 0) F hr hlk (congrArg (fun z => some (Value.int z)) h) (dd D_X7_tokenOf 4 rfl)
def F_X7_step_L99 (n : Nat) (K : XS → Option XS) (v1 : Int32) : Nat → XS → Option XS
  | 0, _ => none
  | kf + 1, u0 => (if v1 = 0 then some u0 else (if (tp_size (x_tape u0)) ≤ (tp_fin (x_tape u0)) then some u0 else (((F_X7_byteAt n u0 (tp_fin (x_tape u0)))).bind fun r7 => (if (F_X7_tokenOf r7) = (tp_token (x_tape u0)) then F_X7_step_L99 n K v1 kf (x_set_tape u0 (tp_set_fin (x_tape u0) ((tp_fin (x_tape u0)) + (1 : Int32)))) else some u0))))
def F_X7_step_L8 (n : Nat)  : Nat → XS → Option XS
  | 0, _ => none
  | kf + 1, u0 => (if (tp_size (x_tape u0)) ≤ (tp_start (x_tape u0)) then (((F_X7_byteAt n u0 (tp_start (x_tape u0)))).bind fun r2 => (if (tp_token (x_tape (x_set_tape (x_set_tape u0 (tp_set_token (x_tape u0) (F_X7_tokenOf r2))) (tp_set_fin (x_tape (x_set_tape u0 (tp_set_token (x_tape u0) (F_X7_tokenOf r2)))) (F_J9_min_7cf53 ((tp_start (x_tape (x_set_tape u0 (tp_set_token (x_tape u0) (F_X7_tokenOf r2))))) + (1 : Int32)) (tp_size (x_tape (x_set_tape u0 (tp_set_token (x_tape u0) (F_X7_tokenOf r2)))))))))) = (1 : Int32) then F_X7_step_L99 n (F_X7_step_L8 n kf) (1 : Int32) n (x_set_tape (x_set_tape u0 (tp_set_token (x_tape u0) (F_X7_tokenOf r2))) (tp_set_fin (x_tape (x_set_tape u0 (tp_set_token (x_tape u0) (F_X7_tokenOf r2)))) (F_J9_min_7cf53 ((tp_start (x_tape (x_set_tape u0 (tp_set_token (x_tape u0) (F_X7_tokenOf r2))))) + (1 : Int32)) (tp_size (x_tape (x_set_tape u0 (tp_set_token (x_tape u0) (F_X7_tokenOf r2)))))))) else (if (tp_token (x_tape (x_set_tape (x_set_tape u0 (tp_set_token (x_tape u0) (F_X7_tokenOf r2))) (tp_set_fin (x_tape (x_set_tape u0 (tp_set_token (x_tape u0) (F_X7_tokenOf r2)))) (F_J9_min_7cf53 ((tp_start (x_tape (x_set_tape u0 (tp_set_token (x_tape u0) (F_X7_tokenOf r2))))) + (1 : Int32)) (tp_size (x_tape (x_set_tape u0 (tp_set_token (x_tape u0) (F_X7_tokenOf r2)))))))))) = (2 : Int32) then F_X7_step_L99 n (F_X7_step_L8 n kf) (1 : Int32) n (x_set_tape (x_set_tape u0 (tp_set_token (x_tape u0) (F_X7_tokenOf r2))) (tp_set_fin (x_tape (x_set_tape u0 (tp_set_token (x_tape u0) (F_X7_tokenOf r2)))) (F_J9_min_7cf53 ((tp_start (x_tape (x_set_tape u0 (tp_set_token (x_tape u0) (F_X7_tokenOf r2))))) + (1 : Int32)) (tp_size (x_tape (x_set_tape u0 (tp_set_token (x_tape u0) (F_X7_tokenOf r2)))))))) else F_X7_step_L99 n (F_X7_step_L8 n kf) (0 : Int32) n (x_set_tape (x_set_tape u0 (tp_set_token (x_tape u0) (F_X7_tokenOf r2))) (tp_set_fin (x_tape (x_set_tape u0 (tp_set_token (x_tape u0) (F_X7_tokenOf r2)))) (F_J9_min_7cf53 ((tp_start (x_tape (x_set_tape u0 (tp_set_token (x_tape u0) (F_X7_tokenOf r2))))) + (1 : Int32)) (tp_size (x_tape (x_set_tape u0 (tp_set_token (x_tape u0) (F_X7_tokenOf r2))))))))))) else (((F_X7_byteAt n u0 (tp_start (x_tape u0)))).bind fun r11 => (if r11 = (32 : Int32) then F_X7_step_L8 n kf (x_set_tape u0 (tp_set_start (x_tape u0) ((tp_start (x_tape u0)) + (1 : Int32)))) else (((F_X7_byteAt n u0 (tp_start (x_tape u0)))).bind fun r14 => (if (tp_token (x_tape (x_set_tape (x_set_tape u0 (tp_set_token (x_tape u0) (F_X7_tokenOf r14))) (tp_set_fin (x_tape (x_set_tape u0 (tp_set_token (x_tape u0) (F_X7_tokenOf r14)))) (F_J9_min_7cf53 ((tp_start (x_tape (x_set_tape u0 (tp_set_token (x_tape u0) (F_X7_tokenOf r14))))) + (1 : Int32)) (tp_size (x_tape (x_set_tape u0 (tp_set_token (x_tape u0) (F_X7_tokenOf r14)))))))))) = (1 : Int32) then F_X7_step_L99 n (F_X7_step_L8 n kf) (1 : Int32) n (x_set_tape (x_set_tape u0 (tp_set_token (x_tape u0) (F_X7_tokenOf r14))) (tp_set_fin (x_tape (x_set_tape u0 (tp_set_token (x_tape u0) (F_X7_tokenOf r14)))) (F_J9_min_7cf53 ((tp_start (x_tape (x_set_tape u0 (tp_set_token (x_tape u0) (F_X7_tokenOf r14))))) + (1 : Int32)) (tp_size (x_tape (x_set_tape u0 (tp_set_token (x_tape u0) (F_X7_tokenOf r14)))))))) else (if (tp_token (x_tape (x_set_tape (x_set_tape u0 (tp_set_token (x_tape u0) (F_X7_tokenOf r14))) (tp_set_fin (x_tape (x_set_tape u0 (tp_set_token (x_tape u0) (F_X7_tokenOf r14)))) (F_J9_min_7cf53 ((tp_start (x_tape (x_set_tape u0 (tp_set_token (x_tape u0) (F_X7_tokenOf r14))))) + (1 : Int32)) (tp_size (x_tape (x_set_tape u0 (tp_set_token (x_tape u0) (F_X7_tokenOf r14)))))))))) = (2 : Int32) then F_X7_step_L99 n (F_X7_step_L8 n kf) (1 : Int32) n (x_set_tape (x_set_tape u0 (tp_set_token (x_tape u0) (F_X7_tokenOf r14))) (tp_set_fin (x_tape (x_set_tape u0 (tp_set_token (x_tape u0) (F_X7_tokenOf r14)))) (F_J9_min_7cf53 ((tp_start (x_tape (x_set_tape u0 (tp_set_token (x_tape u0) (F_X7_tokenOf r14))))) + (1 : Int32)) (tp_size (x_tape (x_set_tape u0 (tp_set_token (x_tape u0) (F_X7_tokenOf r14)))))))) else F_X7_step_L99 n (F_X7_step_L8 n kf) (0 : Int32) n (x_set_tape (x_set_tape u0 (tp_set_token (x_tape u0) (F_X7_tokenOf r14))) (tp_set_fin (x_tape (x_set_tape u0 (tp_set_token (x_tape u0) (F_X7_tokenOf r14)))) (F_J9_min_7cf53 ((tp_start (x_tape (x_set_tape u0 (tp_set_token (x_tape u0) (F_X7_tokenOf r14))))) + (1 : Int32)) (tp_size (x_tape (x_set_tape u0 (tp_set_token (x_tape u0) (F_X7_tokenOf r14))))))))))))))
def F_X7_step (n : Nat) (s : XS) : Option XS := F_X7_step_L8 n n (x_set_tape s (tp_set_start (x_tape s) (tp_fin (x_tape s))))
set_option maxHeartbeats 4000000 in
set_option maxRecDepth 100000 in
theorem c_X7_step (D : va_G) (cA : Nat → ClassId) (ax : Nat → Nat) (s : XS) (n : Nat)  (r : XS) (h : F_X7_step n s = some r) : RW m_X7_step 1 0 0 D cA [.ref (ax 41)] (xW cA ax s) (exq (none) (xW cA ax r)) := by
  refine RW.ofW gy_X7_step.2.2 (Nat.le_of_ble_eq_true rfl) ?_
  intro l p e sM m below meth c A H locs F hr hlk hnm hK hP hD hS hA hAb ls hl
  have hl : lv_has ls 2 [(0, .ref (ax 41))] := hl
  unfold F_X7_step at h
  refine lv_aload_n F.1 F.2.1 (dd D_X7_step 0 rfl) rfl (lv_at hl 0 rfl) ?_
  refine lv_aload_n F.1 F.2.1 (dd D_X7_step 1 rfl) rfl (lv_at hl 0 rfl) ?_
  refine getF F hK hP lf_X7_22 (41) (xp_41 cA ax s) rfl (dd D_X7_step 2 rfl) ?_
  refine putF F hK hP hD hS lp_X7_19 (41) (xp_41 cA ax s) (Nat.le_of_ble_eq_true rfl) (nar_int _) (fit_int _) (ws' := (xW cA ax (x_set_tape s (tp_set_start (x_tape s) (tp_fin (x_tape s)))))) (xs_41_3 cA ax s (tp_fin (x_tape s))) (dd D_X7_step 3 rfl) (fun H locs hP hD hS => ?_)
  have L18 : ∀ (kf : Nat) (u0_L18 : XS) (H : Heap) (locs : List Loc) (ls : Array Slot), va_P D vwCl (xW cA ax u0_L18) H → va_D A (xW cA ax u0_L18) → va_S A sM.heap H locs → lv_has ls 2 [(0, .ref (ax 41))] → F_X7_step_L8 n kf u0_L18 = some r → Wrw 1 0 0 D A (exq (none) (xW cA ax r)) p l e sM m ([.ref (ax 41)] : List Value).toArray below meth c H locs 0 0 8 ls [] := by
    intro kf
    induction kf with
    | zero =>
      intro u0_L18 H locs ls hP hD hS hl h
      cases (show none = some r from h)
    | succ k_L18 ih_L18 =>
      intro u0_L18 H locs ls hP hD hS hl h
      unfold F_X7_step_L8 at h
      refine lv_aload_n F.1 F.2.1 (dd D_X7_step 4 rfl) rfl (lv_at hl 0 rfl) ?_
      refine getF F hK hP lf_X7_19 (41) (xp_41 cA ax u0_L18) rfl (dd D_X7_step 5 rfl) ?_
      refine lv_aload_n F.1 F.2.1 (dd D_X7_step 6 rfl) rfl (lv_at hl 0 rfl) ?_
      refine getF F hK hP lf_X7_15 (41) (xp_41 cA ax u0_L18) rfl (dd D_X7_step 7 rfl) ?_
      refine x_icmp_ge (tgt := 45) F.1 F.2.1 (dd D_X7_step 8 rfl) rfl h (fun c19 h => ?_) (fun c19 h => ?_)
      · refine lv_aload_n F.1 F.2.1 (dd D_X7_step 22 rfl) rfl (lv_at hl 0 rfl) ?_
        refine lv_aload_n F.1 F.2.1 (dd D_X7_step 23 rfl) rfl (lv_at hl 0 rfl) ?_
        refine lv_aload_n F.1 F.2.1 (dd D_X7_step 24 rfl) rfl (lv_at hl 0 rfl) ?_
        refine getF F hK hP lf_X7_19 (41) (xp_41 cA ax u0_L18) rfl (dd D_X7_step 25 rfl) ?_
        obtain ⟨r20, e21, h⟩ := Option.bind_eq_some_iff.mp h
        refine ro_go (st' := [.int r20, .ref (ax 41)]) (rV (rest := [.ref (ax 41)]) F (c_X7_byteAt D cA ax u0_L18 n (tp_start (x_tape u0_L18)) r20 e21 l) lk_X7_35 (Nat.le_of_ble_eq_true rfl) (preRO hK hS hAb hP) (rcv_7 hK hP (q0 := (41)) (xp_41 cA ax u0_L18)) rfl hl rfl (Nat.le_of_ble_eq_true rfl) (dd D_X7_step 26 rfl) ⟨Nat.le_of_ble_eq_true rfl, Nat.le_of_ble_eq_true rfl⟩) rfl ?_
        refine ro_go (st' := [.int (F_X7_tokenOf r20), .ref (ax 41)]) (rS (rest := [.ref (ax 41)]) F (c_X7_tokenOf D cA r20 l) lk_X7_39 (Nat.le_of_ble_eq_true rfl) (preRO hK hS hAb (emP)) rfl hl rfl (Nat.le_of_ble_eq_true rfl) (dd D_X7_step 27 rfl) ⟨Nat.le_of_ble_eq_true rfl, Nat.le_of_ble_eq_true rfl⟩) rfl ?_
        refine putF F hK hP hD hS lp_X7_32 (41) (xp_41 cA ax u0_L18) (Nat.le_of_ble_eq_true rfl) (nar_int _) (fit_int _) (ws' := (xW cA ax (x_set_tape u0_L18 (tp_set_token (x_tape u0_L18) (F_X7_tokenOf r20))))) (xs_41_2 cA ax u0_L18 (F_X7_tokenOf r20)) (dd D_X7_step 28 rfl) (fun H locs hP hD hS => ?_)
        refine lv_aload_n F.1 F.2.1 (dd D_X7_step 29 rfl) rfl (lv_at hl 0 rfl) ?_
        refine lv_aload_n F.1 F.2.1 (dd D_X7_step 30 rfl) rfl (lv_at hl 0 rfl) ?_
        refine getF F hK hP lf_X7_19 (41) (xp_41 cA ax (x_set_tape u0_L18 (tp_set_token (x_tape u0_L18) (F_X7_tokenOf r20)))) rfl (dd D_X7_step 31 rfl) ?_
        refine lv_iconst (v := (1 : Int32)) F.1 F.2.1 (dd D_X7_step 32 rfl) ki_1 ?_
        refine lv_iadd F.1 F.2.1 (dd D_X7_step 33 rfl) ?_
        refine lv_aload_n F.1 F.2.1 (dd D_X7_step 34 rfl) rfl (lv_at hl 0 rfl) ?_
        refine getF F hK hP lf_X7_15 (41) (xp_41 cA ax (x_set_tape u0_L18 (tp_set_token (x_tape u0_L18) (F_X7_tokenOf r20)))) rfl (dd D_X7_step 35 rfl) ?_
        refine ro_go (st' := [.int (F_J9_min_7cf53 ((tp_start (x_tape (x_set_tape u0_L18 (tp_set_token (x_tape u0_L18) (F_X7_tokenOf r20))))) + (1 : Int32)) (tp_size (x_tape (x_set_tape u0_L18 (tp_set_token (x_tape u0_L18) (F_X7_tokenOf r20)))))), .ref (ax 41)]) (rS (rest := [.ref (ax 41)]) F (c_J9_min_7cf53 D cA ((tp_start (x_tape (x_set_tape u0_L18 (tp_set_token (x_tape u0_L18) (F_X7_tokenOf r20))))) + (1 : Int32)) (tp_size (x_tape (x_set_tape u0_L18 (tp_set_token (x_tape u0_L18) (F_X7_tokenOf r20))))) l) lk_X7_42 (Nat.le_of_ble_eq_true rfl) (preRO hK hS hAb (emP)) rfl hl rfl (Nat.le_of_ble_eq_true rfl) (dd D_X7_step 36 rfl) ⟨Nat.le_of_ble_eq_true rfl, Nat.le_of_ble_eq_true rfl⟩) rfl ?_
        refine putF F hK hP hD hS lp_X7_22 (41) (xp_41 cA ax (x_set_tape u0_L18 (tp_set_token (x_tape u0_L18) (F_X7_tokenOf r20)))) (Nat.le_of_ble_eq_true rfl) (nar_int _) (fit_int _) (ws' := (xW cA ax (x_set_tape (x_set_tape u0_L18 (tp_set_token (x_tape u0_L18) (F_X7_tokenOf r20))) (tp_set_fin (x_tape (x_set_tape u0_L18 (tp_set_token (x_tape u0_L18) (F_X7_tokenOf r20)))) (F_J9_min_7cf53 ((tp_start (x_tape (x_set_tape u0_L18 (tp_set_token (x_tape u0_L18) (F_X7_tokenOf r20))))) + (1 : Int32)) (tp_size (x_tape (x_set_tape u0_L18 (tp_set_token (x_tape u0_L18) (F_X7_tokenOf r20)))))))))) (xs_41_4 cA ax (x_set_tape u0_L18 (tp_set_token (x_tape u0_L18) (F_X7_tokenOf r20))) (F_J9_min_7cf53 ((tp_start (x_tape (x_set_tape u0_L18 (tp_set_token (x_tape u0_L18) (F_X7_tokenOf r20))))) + (1 : Int32)) (tp_size (x_tape (x_set_tape u0_L18 (tp_set_token (x_tape u0_L18) (F_X7_tokenOf r20))))))) (dd D_X7_step 37 rfl) (fun H locs hP hD hS => ?_)
        refine lv_aload_n F.1 F.2.1 (dd D_X7_step 38 rfl) rfl (lv_at hl 0 rfl) ?_
        refine getF F hK hP lf_X7_32 (41) (xp_41 cA ax (x_set_tape (x_set_tape u0_L18 (tp_set_token (x_tape u0_L18) (F_X7_tokenOf r20))) (tp_set_fin (x_tape (x_set_tape u0_L18 (tp_set_token (x_tape u0_L18) (F_X7_tokenOf r20)))) (F_J9_min_7cf53 ((tp_start (x_tape (x_set_tape u0_L18 (tp_set_token (x_tape u0_L18) (F_X7_tokenOf r20))))) + (1 : Int32)) (tp_size (x_tape (x_set_tape u0_L18 (tp_set_token (x_tape u0_L18) (F_X7_tokenOf r20))))))))) rfl (dd D_X7_step 39 rfl) ?_
        refine lv_iconst (v := (1 : Int32)) F.1 F.2.1 (dd D_X7_step 40 rfl) ki_1 ?_
        refine x_icmp_eq (tgt := 93) F.1 F.2.1 (dd D_X7_step 41 rfl) rfl h (fun c22 h => ?_) (fun c22 h => ?_)
        · refine lv_iconst (v := (1 : Int32)) F.1 F.2.1 (dd D_X7_step 46 rfl) ki_1 ?_
          refine lv_goto (tgt := 98) F.1 F.2.1 (dd D_X7_step 47 rfl) rfl ?_
          refine lv_istore_n (lv' := [(1, .int (1 : Int32)), (0, .ref (ax 41))]) F.1 F.2.1 (dd D_X7_step 49 rfl) rfl hl (Nat.le_of_ble_eq_true rfl) rfl (fun ls hl => ?_)
          have L23 : ∀ (kf : Nat) (u0_L23 : XS) (H : Heap) (locs : List Loc) (ls : Array Slot), va_P D vwCl (xW cA ax u0_L23) H → va_D A (xW cA ax u0_L23) → va_S A sM.heap H locs → lv_has ls 2 [(0, .ref (ax 41)), (1, .int (1 : Int32))] → F_X7_step_L99 n (F_X7_step_L8 n k_L18) (1 : Int32) kf u0_L23 = some r → Wrw 1 0 0 D A (exq (none) (xW cA ax r)) p l e sM m ([.ref (ax 41)] : List Value).toArray below meth c H locs 0 0 99 ls [] := by
            intro kf
            induction kf with
            | zero =>
              intro u0_L23 H locs ls hP hD hS hl h
              cases (show none = some r from h)
            | succ k_L23 ih_L23 =>
              intro u0_L23 H locs ls hP hD hS hl h
              unfold F_X7_step_L99 at h
              refine lv_iload_n F.1 F.2.1 (dd D_X7_step 50 rfl) rfl (lv_at hl 1 rfl) ?_
              refine x_if_eq (tgt := 145) F.1 F.2.1 (dd D_X7_step 51 rfl) rfl h (fun c24 h => ?_) (fun c24 h => ?_)
              · obtain rfl := Option.some.inj h
                exact rw_v (R := rmOf 1 0 0) F hP hD hS hr hlk ⟨Nat.le_of_ble_eq_true rfl, Nat.le_of_ble_eq_true rfl⟩ ⟨rfl, rfl⟩ (dd D_X7_step 72 rfl)
              · refine lv_aload_n F.1 F.2.1 (dd D_X7_step 52 rfl) rfl (lv_at hl 0 rfl) ?_
                refine getF F hK hP lf_X7_22 (41) (xp_41 cA ax u0_L23) rfl (dd D_X7_step 53 rfl) ?_
                refine lv_aload_n F.1 F.2.1 (dd D_X7_step 54 rfl) rfl (lv_at hl 0 rfl) ?_
                refine getF F hK hP lf_X7_15 (41) (xp_41 cA ax u0_L23) rfl (dd D_X7_step 55 rfl) ?_
                refine x_icmp_ge (tgt := 145) F.1 F.2.1 (dd D_X7_step 56 rfl) rfl h (fun c25 h => ?_) (fun c25 h => ?_)
                · obtain rfl := Option.some.inj h
                  exact rw_v (R := rmOf 1 0 0) F hP hD hS hr hlk ⟨Nat.le_of_ble_eq_true rfl, Nat.le_of_ble_eq_true rfl⟩ ⟨rfl, rfl⟩ (dd D_X7_step 72 rfl)
                · refine lv_aload_n F.1 F.2.1 (dd D_X7_step 57 rfl) rfl (lv_at hl 0 rfl) ?_
                  refine lv_aload_n F.1 F.2.1 (dd D_X7_step 58 rfl) rfl (lv_at hl 0 rfl) ?_
                  refine getF F hK hP lf_X7_22 (41) (xp_41 cA ax u0_L23) rfl (dd D_X7_step 59 rfl) ?_
                  obtain ⟨r26, e27, h⟩ := Option.bind_eq_some_iff.mp h
                  refine ro_go (st' := [.int r26]) (rV (rest := []) F (c_X7_byteAt D cA ax u0_L23 n (tp_fin (x_tape u0_L23)) r26 e27 l) lk_X7_35 (Nat.le_of_ble_eq_true rfl) (preRO hK hS hAb hP) (rcv_7 hK hP (q0 := (41)) (xp_41 cA ax u0_L23)) rfl hl rfl (Nat.le_of_ble_eq_true rfl) (dd D_X7_step 60 rfl) ⟨Nat.le_of_ble_eq_true rfl, Nat.le_of_ble_eq_true rfl⟩) rfl ?_
                  refine ro_go (st' := [.int (F_X7_tokenOf r26)]) (rS (rest := []) F (c_X7_tokenOf D cA r26 l) lk_X7_39 (Nat.le_of_ble_eq_true rfl) (preRO hK hS hAb (emP)) rfl hl rfl (Nat.le_of_ble_eq_true rfl) (dd D_X7_step 61 rfl) ⟨Nat.le_of_ble_eq_true rfl, Nat.le_of_ble_eq_true rfl⟩) rfl ?_
                  refine lv_aload_n F.1 F.2.1 (dd D_X7_step 62 rfl) rfl (lv_at hl 0 rfl) ?_
                  refine getF F hK hP lf_X7_32 (41) (xp_41 cA ax u0_L23) rfl (dd D_X7_step 63 rfl) ?_
                  refine x_icmp_ne (tgt := 145) F.1 F.2.1 (dd D_X7_step 64 rfl) rfl h (fun c28 h => ?_) (fun c28 h => ?_)
                  · obtain rfl := Option.some.inj h
                    exact rw_v (R := rmOf 1 0 0) F hP hD hS hr hlk ⟨Nat.le_of_ble_eq_true rfl, Nat.le_of_ble_eq_true rfl⟩ ⟨rfl, rfl⟩ (dd D_X7_step 72 rfl)
                  · refine lv_aload_n F.1 F.2.1 (dd D_X7_step 65 rfl) rfl (lv_at hl 0 rfl) ?_
                    refine lv_dup F.1 F.2.1 (dd D_X7_step 66 rfl) rfl ?_
                    refine getF F hK hP lf_X7_22 (41) (xp_41 cA ax u0_L23) rfl (dd D_X7_step 67 rfl) ?_
                    refine lv_iconst (v := (1 : Int32)) F.1 F.2.1 (dd D_X7_step 68 rfl) ki_1 ?_
                    refine lv_iadd F.1 F.2.1 (dd D_X7_step 69 rfl) ?_
                    refine putF F hK hP hD hS lp_X7_22 (41) (xp_41 cA ax u0_L23) (Nat.le_of_ble_eq_true rfl) (nar_int _) (fit_int _) (ws' := (xW cA ax (x_set_tape u0_L23 (tp_set_fin (x_tape u0_L23) ((tp_fin (x_tape u0_L23)) + (1 : Int32)))))) (xs_41_4 cA ax u0_L23 ((tp_fin (x_tape u0_L23)) + (1 : Int32))) (dd D_X7_step 70 rfl) (fun H locs hP hD hS => ?_)
                    refine lv_goto (tgt := 99) F.1 F.2.1 (dd D_X7_step 71 rfl) rfl ?_
                    exact ih_L23 (x_set_tape u0_L23 (tp_set_fin (x_tape u0_L23) ((tp_fin (x_tape u0_L23)) + (1 : Int32)))) _ _ ls hP hD hS (lv_sub hl [0, 1] rfl) h
          exact L23 n (x_set_tape (x_set_tape u0_L18 (tp_set_token (x_tape u0_L18) (F_X7_tokenOf r20))) (tp_set_fin (x_tape (x_set_tape u0_L18 (tp_set_token (x_tape u0_L18) (F_X7_tokenOf r20)))) (F_J9_min_7cf53 ((tp_start (x_tape (x_set_tape u0_L18 (tp_set_token (x_tape u0_L18) (F_X7_tokenOf r20))))) + (1 : Int32)) (tp_size (x_tape (x_set_tape u0_L18 (tp_set_token (x_tape u0_L18) (F_X7_tokenOf r20)))))))) _ _ ls hP hD hS (lv_sub hl [1, 0] rfl) h
        · refine lv_aload_n F.1 F.2.1 (dd D_X7_step 42 rfl) rfl (lv_at hl 0 rfl) ?_
          refine getF F hK hP lf_X7_32 (41) (xp_41 cA ax (x_set_tape (x_set_tape u0_L18 (tp_set_token (x_tape u0_L18) (F_X7_tokenOf r20))) (tp_set_fin (x_tape (x_set_tape u0_L18 (tp_set_token (x_tape u0_L18) (F_X7_tokenOf r20)))) (F_J9_min_7cf53 ((tp_start (x_tape (x_set_tape u0_L18 (tp_set_token (x_tape u0_L18) (F_X7_tokenOf r20))))) + (1 : Int32)) (tp_size (x_tape (x_set_tape u0_L18 (tp_set_token (x_tape u0_L18) (F_X7_tokenOf r20))))))))) rfl (dd D_X7_step 43 rfl) ?_
          refine lv_iconst (v := (2 : Int32)) F.1 F.2.1 (dd D_X7_step 44 rfl) ki_2 ?_
          refine x_icmp_ne (tgt := 97) F.1 F.2.1 (dd D_X7_step 45 rfl) rfl h (fun c29 h => ?_) (fun c29 h => ?_)
          · refine lv_iconst (v := (0 : Int32)) F.1 F.2.1 (dd D_X7_step 48 rfl) ki_0 ?_
            refine lv_istore_n (lv' := [(1, .int (0 : Int32)), (0, .ref (ax 41))]) F.1 F.2.1 (dd D_X7_step 49 rfl) rfl hl (Nat.le_of_ble_eq_true rfl) rfl (fun ls hl => ?_)
            have L30 : ∀ (kf : Nat) (u0_L30 : XS) (H : Heap) (locs : List Loc) (ls : Array Slot), va_P D vwCl (xW cA ax u0_L30) H → va_D A (xW cA ax u0_L30) → va_S A sM.heap H locs → lv_has ls 2 [(0, .ref (ax 41)), (1, .int (0 : Int32))] → F_X7_step_L99 n (F_X7_step_L8 n k_L18) (0 : Int32) kf u0_L30 = some r → Wrw 1 0 0 D A (exq (none) (xW cA ax r)) p l e sM m ([.ref (ax 41)] : List Value).toArray below meth c H locs 0 0 99 ls [] := by
              intro kf
              induction kf with
              | zero =>
                intro u0_L30 H locs ls hP hD hS hl h
                cases (show none = some r from h)
              | succ k_L30 ih_L30 =>
                intro u0_L30 H locs ls hP hD hS hl h
                unfold F_X7_step_L99 at h
                refine lv_iload_n F.1 F.2.1 (dd D_X7_step 50 rfl) rfl (lv_at hl 1 rfl) ?_
                refine x_if_eq (tgt := 145) F.1 F.2.1 (dd D_X7_step 51 rfl) rfl h (fun c31 h => ?_) (fun c31 h => ?_)
                · obtain rfl := Option.some.inj h
                  exact rw_v (R := rmOf 1 0 0) F hP hD hS hr hlk ⟨Nat.le_of_ble_eq_true rfl, Nat.le_of_ble_eq_true rfl⟩ ⟨rfl, rfl⟩ (dd D_X7_step 72 rfl)
                · refine lv_aload_n F.1 F.2.1 (dd D_X7_step 52 rfl) rfl (lv_at hl 0 rfl) ?_
                  refine getF F hK hP lf_X7_22 (41) (xp_41 cA ax u0_L30) rfl (dd D_X7_step 53 rfl) ?_
                  refine lv_aload_n F.1 F.2.1 (dd D_X7_step 54 rfl) rfl (lv_at hl 0 rfl) ?_
                  refine getF F hK hP lf_X7_15 (41) (xp_41 cA ax u0_L30) rfl (dd D_X7_step 55 rfl) ?_
                  refine x_icmp_ge (tgt := 145) F.1 F.2.1 (dd D_X7_step 56 rfl) rfl h (fun c32 h => ?_) (fun c32 h => ?_)
                  · obtain rfl := Option.some.inj h
                    exact rw_v (R := rmOf 1 0 0) F hP hD hS hr hlk ⟨Nat.le_of_ble_eq_true rfl, Nat.le_of_ble_eq_true rfl⟩ ⟨rfl, rfl⟩ (dd D_X7_step 72 rfl)
                  · refine lv_aload_n F.1 F.2.1 (dd D_X7_step 57 rfl) rfl (lv_at hl 0 rfl) ?_
                    refine lv_aload_n F.1 F.2.1 (dd D_X7_step 58 rfl) rfl (lv_at hl 0 rfl) ?_
                    refine getF F hK hP lf_X7_22 (41) (xp_41 cA ax u0_L30) rfl (dd D_X7_step 59 rfl) ?_
                    obtain ⟨r33, e34, h⟩ := Option.bind_eq_some_iff.mp h
                    refine ro_go (st' := [.int r33]) (rV (rest := []) F (c_X7_byteAt D cA ax u0_L30 n (tp_fin (x_tape u0_L30)) r33 e34 l) lk_X7_35 (Nat.le_of_ble_eq_true rfl) (preRO hK hS hAb hP) (rcv_7 hK hP (q0 := (41)) (xp_41 cA ax u0_L30)) rfl hl rfl (Nat.le_of_ble_eq_true rfl) (dd D_X7_step 60 rfl) ⟨Nat.le_of_ble_eq_true rfl, Nat.le_of_ble_eq_true rfl⟩) rfl ?_
                    refine ro_go (st' := [.int (F_X7_tokenOf r33)]) (rS (rest := []) F (c_X7_tokenOf D cA r33 l) lk_X7_39 (Nat.le_of_ble_eq_true rfl) (preRO hK hS hAb (emP)) rfl hl rfl (Nat.le_of_ble_eq_true rfl) (dd D_X7_step 61 rfl) ⟨Nat.le_of_ble_eq_true rfl, Nat.le_of_ble_eq_true rfl⟩) rfl ?_
                    refine lv_aload_n F.1 F.2.1 (dd D_X7_step 62 rfl) rfl (lv_at hl 0 rfl) ?_
                    refine getF F hK hP lf_X7_32 (41) (xp_41 cA ax u0_L30) rfl (dd D_X7_step 63 rfl) ?_
                    refine x_icmp_ne (tgt := 145) F.1 F.2.1 (dd D_X7_step 64 rfl) rfl h (fun c35 h => ?_) (fun c35 h => ?_)
                    · obtain rfl := Option.some.inj h
                      exact rw_v (R := rmOf 1 0 0) F hP hD hS hr hlk ⟨Nat.le_of_ble_eq_true rfl, Nat.le_of_ble_eq_true rfl⟩ ⟨rfl, rfl⟩ (dd D_X7_step 72 rfl)
                    · refine lv_aload_n F.1 F.2.1 (dd D_X7_step 65 rfl) rfl (lv_at hl 0 rfl) ?_
                      refine lv_dup F.1 F.2.1 (dd D_X7_step 66 rfl) rfl ?_
                      refine getF F hK hP lf_X7_22 (41) (xp_41 cA ax u0_L30) rfl (dd D_X7_step 67 rfl) ?_
                      refine lv_iconst (v := (1 : Int32)) F.1 F.2.1 (dd D_X7_step 68 rfl) ki_1 ?_
                      refine lv_iadd F.1 F.2.1 (dd D_X7_step 69 rfl) ?_
                      refine putF F hK hP hD hS lp_X7_22 (41) (xp_41 cA ax u0_L30) (Nat.le_of_ble_eq_true rfl) (nar_int _) (fit_int _) (ws' := (xW cA ax (x_set_tape u0_L30 (tp_set_fin (x_tape u0_L30) ((tp_fin (x_tape u0_L30)) + (1 : Int32)))))) (xs_41_4 cA ax u0_L30 ((tp_fin (x_tape u0_L30)) + (1 : Int32))) (dd D_X7_step 70 rfl) (fun H locs hP hD hS => ?_)
                      refine lv_goto (tgt := 99) F.1 F.2.1 (dd D_X7_step 71 rfl) rfl ?_
                      exact ih_L30 (x_set_tape u0_L30 (tp_set_fin (x_tape u0_L30) ((tp_fin (x_tape u0_L30)) + (1 : Int32)))) _ _ ls hP hD hS (lv_sub hl [0, 1] rfl) h
            exact L30 n (x_set_tape (x_set_tape u0_L18 (tp_set_token (x_tape u0_L18) (F_X7_tokenOf r20))) (tp_set_fin (x_tape (x_set_tape u0_L18 (tp_set_token (x_tape u0_L18) (F_X7_tokenOf r20)))) (F_J9_min_7cf53 ((tp_start (x_tape (x_set_tape u0_L18 (tp_set_token (x_tape u0_L18) (F_X7_tokenOf r20))))) + (1 : Int32)) (tp_size (x_tape (x_set_tape u0_L18 (tp_set_token (x_tape u0_L18) (F_X7_tokenOf r20)))))))) _ _ ls hP hD hS (lv_sub hl [1, 0] rfl) h
          · refine lv_iconst (v := (1 : Int32)) F.1 F.2.1 (dd D_X7_step 46 rfl) ki_1 ?_
            refine lv_goto (tgt := 98) F.1 F.2.1 (dd D_X7_step 47 rfl) rfl ?_
            refine lv_istore_n (lv' := [(1, .int (1 : Int32)), (0, .ref (ax 41))]) F.1 F.2.1 (dd D_X7_step 49 rfl) rfl hl (Nat.le_of_ble_eq_true rfl) rfl (fun ls hl => ?_)
            have L36 : ∀ (kf : Nat) (u0_L36 : XS) (H : Heap) (locs : List Loc) (ls : Array Slot), va_P D vwCl (xW cA ax u0_L36) H → va_D A (xW cA ax u0_L36) → va_S A sM.heap H locs → lv_has ls 2 [(0, .ref (ax 41)), (1, .int (1 : Int32))] → F_X7_step_L99 n (F_X7_step_L8 n k_L18) (1 : Int32) kf u0_L36 = some r → Wrw 1 0 0 D A (exq (none) (xW cA ax r)) p l e sM m ([.ref (ax 41)] : List Value).toArray below meth c H locs 0 0 99 ls [] := by
              intro kf
              induction kf with
              | zero =>
                intro u0_L36 H locs ls hP hD hS hl h
                cases (show none = some r from h)
              | succ k_L36 ih_L36 =>
                intro u0_L36 H locs ls hP hD hS hl h
                unfold F_X7_step_L99 at h
                refine lv_iload_n F.1 F.2.1 (dd D_X7_step 50 rfl) rfl (lv_at hl 1 rfl) ?_
                refine x_if_eq (tgt := 145) F.1 F.2.1 (dd D_X7_step 51 rfl) rfl h (fun c37 h => ?_) (fun c37 h => ?_)
                · obtain rfl := Option.some.inj h
                  exact rw_v (R := rmOf 1 0 0) F hP hD hS hr hlk ⟨Nat.le_of_ble_eq_true rfl, Nat.le_of_ble_eq_true rfl⟩ ⟨rfl, rfl⟩ (dd D_X7_step 72 rfl)
                · refine lv_aload_n F.1 F.2.1 (dd D_X7_step 52 rfl) rfl (lv_at hl 0 rfl) ?_
                  refine getF F hK hP lf_X7_22 (41) (xp_41 cA ax u0_L36) rfl (dd D_X7_step 53 rfl) ?_
                  refine lv_aload_n F.1 F.2.1 (dd D_X7_step 54 rfl) rfl (lv_at hl 0 rfl) ?_
                  refine getF F hK hP lf_X7_15 (41) (xp_41 cA ax u0_L36) rfl (dd D_X7_step 55 rfl) ?_
                  refine x_icmp_ge (tgt := 145) F.1 F.2.1 (dd D_X7_step 56 rfl) rfl h (fun c38 h => ?_) (fun c38 h => ?_)
                  · obtain rfl := Option.some.inj h
                    exact rw_v (R := rmOf 1 0 0) F hP hD hS hr hlk ⟨Nat.le_of_ble_eq_true rfl, Nat.le_of_ble_eq_true rfl⟩ ⟨rfl, rfl⟩ (dd D_X7_step 72 rfl)
                  · refine lv_aload_n F.1 F.2.1 (dd D_X7_step 57 rfl) rfl (lv_at hl 0 rfl) ?_
                    refine lv_aload_n F.1 F.2.1 (dd D_X7_step 58 rfl) rfl (lv_at hl 0 rfl) ?_
                    refine getF F hK hP lf_X7_22 (41) (xp_41 cA ax u0_L36) rfl (dd D_X7_step 59 rfl) ?_
                    obtain ⟨r39, e40, h⟩ := Option.bind_eq_some_iff.mp h
                    refine ro_go (st' := [.int r39]) (rV (rest := []) F (c_X7_byteAt D cA ax u0_L36 n (tp_fin (x_tape u0_L36)) r39 e40 l) lk_X7_35 (Nat.le_of_ble_eq_true rfl) (preRO hK hS hAb hP) (rcv_7 hK hP (q0 := (41)) (xp_41 cA ax u0_L36)) rfl hl rfl (Nat.le_of_ble_eq_true rfl) (dd D_X7_step 60 rfl) ⟨Nat.le_of_ble_eq_true rfl, Nat.le_of_ble_eq_true rfl⟩) rfl ?_
                    refine ro_go (st' := [.int (F_X7_tokenOf r39)]) (rS (rest := []) F (c_X7_tokenOf D cA r39 l) lk_X7_39 (Nat.le_of_ble_eq_true rfl) (preRO hK hS hAb (emP)) rfl hl rfl (Nat.le_of_ble_eq_true rfl) (dd D_X7_step 61 rfl) ⟨Nat.le_of_ble_eq_true rfl, Nat.le_of_ble_eq_true rfl⟩) rfl ?_
                    refine lv_aload_n F.1 F.2.1 (dd D_X7_step 62 rfl) rfl (lv_at hl 0 rfl) ?_
                    refine getF F hK hP lf_X7_32 (41) (xp_41 cA ax u0_L36) rfl (dd D_X7_step 63 rfl) ?_
                    refine x_icmp_ne (tgt := 145) F.1 F.2.1 (dd D_X7_step 64 rfl) rfl h (fun c41 h => ?_) (fun c41 h => ?_)
                    · obtain rfl := Option.some.inj h
                      exact rw_v (R := rmOf 1 0 0) F hP hD hS hr hlk ⟨Nat.le_of_ble_eq_true rfl, Nat.le_of_ble_eq_true rfl⟩ ⟨rfl, rfl⟩ (dd D_X7_step 72 rfl)
                    · refine lv_aload_n F.1 F.2.1 (dd D_X7_step 65 rfl) rfl (lv_at hl 0 rfl) ?_
                      refine lv_dup F.1 F.2.1 (dd D_X7_step 66 rfl) rfl ?_
                      refine getF F hK hP lf_X7_22 (41) (xp_41 cA ax u0_L36) rfl (dd D_X7_step 67 rfl) ?_
                      refine lv_iconst (v := (1 : Int32)) F.1 F.2.1 (dd D_X7_step 68 rfl) ki_1 ?_
                      refine lv_iadd F.1 F.2.1 (dd D_X7_step 69 rfl) ?_
                      refine putF F hK hP hD hS lp_X7_22 (41) (xp_41 cA ax u0_L36) (Nat.le_of_ble_eq_true rfl) (nar_int _) (fit_int _) (ws' := (xW cA ax (x_set_tape u0_L36 (tp_set_fin (x_tape u0_L36) ((tp_fin (x_tape u0_L36)) + (1 : Int32)))))) (xs_41_4 cA ax u0_L36 ((tp_fin (x_tape u0_L36)) + (1 : Int32))) (dd D_X7_step 70 rfl) (fun H locs hP hD hS => ?_)
                      refine lv_goto (tgt := 99) F.1 F.2.1 (dd D_X7_step 71 rfl) rfl ?_
                      exact ih_L36 (x_set_tape u0_L36 (tp_set_fin (x_tape u0_L36) ((tp_fin (x_tape u0_L36)) + (1 : Int32)))) _ _ ls hP hD hS (lv_sub hl [0, 1] rfl) h
            exact L36 n (x_set_tape (x_set_tape u0_L18 (tp_set_token (x_tape u0_L18) (F_X7_tokenOf r20))) (tp_set_fin (x_tape (x_set_tape u0_L18 (tp_set_token (x_tape u0_L18) (F_X7_tokenOf r20)))) (F_J9_min_7cf53 ((tp_start (x_tape (x_set_tape u0_L18 (tp_set_token (x_tape u0_L18) (F_X7_tokenOf r20))))) + (1 : Int32)) (tp_size (x_tape (x_set_tape u0_L18 (tp_set_token (x_tape u0_L18) (F_X7_tokenOf r20)))))))) _ _ ls hP hD hS (lv_sub hl [1, 0] rfl) h
      · refine lv_aload_n F.1 F.2.1 (dd D_X7_step 9 rfl) rfl (lv_at hl 0 rfl) ?_
        refine lv_aload_n F.1 F.2.1 (dd D_X7_step 10 rfl) rfl (lv_at hl 0 rfl) ?_
        refine getF F hK hP lf_X7_19 (41) (xp_41 cA ax u0_L18) rfl (dd D_X7_step 11 rfl) ?_
        obtain ⟨r42, e43, h⟩ := Option.bind_eq_some_iff.mp h
        refine ro_go (st' := [.int r42]) (rV (rest := []) F (c_X7_byteAt D cA ax u0_L18 n (tp_start (x_tape u0_L18)) r42 e43 l) lk_X7_35 (Nat.le_of_ble_eq_true rfl) (preRO hK hS hAb hP) (rcv_7 hK hP (q0 := (41)) (xp_41 cA ax u0_L18)) rfl hl rfl (Nat.le_of_ble_eq_true rfl) (dd D_X7_step 12 rfl) ⟨Nat.le_of_ble_eq_true rfl, Nat.le_of_ble_eq_true rfl⟩) rfl ?_
        refine lv_bipush (v := (32 : Int32)) F.1 F.2.1 (dd D_X7_step 13 rfl) kb_32 ?_
        refine x_icmp_ne (tgt := 45) F.1 F.2.1 (dd D_X7_step 14 rfl) rfl h (fun c44 h => ?_) (fun c44 h => ?_)
        · refine lv_aload_n F.1 F.2.1 (dd D_X7_step 22 rfl) rfl (lv_at hl 0 rfl) ?_
          refine lv_aload_n F.1 F.2.1 (dd D_X7_step 23 rfl) rfl (lv_at hl 0 rfl) ?_
          refine lv_aload_n F.1 F.2.1 (dd D_X7_step 24 rfl) rfl (lv_at hl 0 rfl) ?_
          refine getF F hK hP lf_X7_19 (41) (xp_41 cA ax u0_L18) rfl (dd D_X7_step 25 rfl) ?_
          obtain ⟨r45, e46, h⟩ := Option.bind_eq_some_iff.mp h
          refine ro_go (st' := [.int r45, .ref (ax 41)]) (rV (rest := [.ref (ax 41)]) F (c_X7_byteAt D cA ax u0_L18 n (tp_start (x_tape u0_L18)) r45 e46 l) lk_X7_35 (Nat.le_of_ble_eq_true rfl) (preRO hK hS hAb hP) (rcv_7 hK hP (q0 := (41)) (xp_41 cA ax u0_L18)) rfl hl rfl (Nat.le_of_ble_eq_true rfl) (dd D_X7_step 26 rfl) ⟨Nat.le_of_ble_eq_true rfl, Nat.le_of_ble_eq_true rfl⟩) rfl ?_
          refine ro_go (st' := [.int (F_X7_tokenOf r45), .ref (ax 41)]) (rS (rest := [.ref (ax 41)]) F (c_X7_tokenOf D cA r45 l) lk_X7_39 (Nat.le_of_ble_eq_true rfl) (preRO hK hS hAb (emP)) rfl hl rfl (Nat.le_of_ble_eq_true rfl) (dd D_X7_step 27 rfl) ⟨Nat.le_of_ble_eq_true rfl, Nat.le_of_ble_eq_true rfl⟩) rfl ?_
          refine putF F hK hP hD hS lp_X7_32 (41) (xp_41 cA ax u0_L18) (Nat.le_of_ble_eq_true rfl) (nar_int _) (fit_int _) (ws' := (xW cA ax (x_set_tape u0_L18 (tp_set_token (x_tape u0_L18) (F_X7_tokenOf r45))))) (xs_41_2 cA ax u0_L18 (F_X7_tokenOf r45)) (dd D_X7_step 28 rfl) (fun H locs hP hD hS => ?_)
          refine lv_aload_n F.1 F.2.1 (dd D_X7_step 29 rfl) rfl (lv_at hl 0 rfl) ?_
          refine lv_aload_n F.1 F.2.1 (dd D_X7_step 30 rfl) rfl (lv_at hl 0 rfl) ?_
          refine getF F hK hP lf_X7_19 (41) (xp_41 cA ax (x_set_tape u0_L18 (tp_set_token (x_tape u0_L18) (F_X7_tokenOf r45)))) rfl (dd D_X7_step 31 rfl) ?_
          refine lv_iconst (v := (1 : Int32)) F.1 F.2.1 (dd D_X7_step 32 rfl) ki_1 ?_
          refine lv_iadd F.1 F.2.1 (dd D_X7_step 33 rfl) ?_
          refine lv_aload_n F.1 F.2.1 (dd D_X7_step 34 rfl) rfl (lv_at hl 0 rfl) ?_
          refine getF F hK hP lf_X7_15 (41) (xp_41 cA ax (x_set_tape u0_L18 (tp_set_token (x_tape u0_L18) (F_X7_tokenOf r45)))) rfl (dd D_X7_step 35 rfl) ?_
          refine ro_go (st' := [.int (F_J9_min_7cf53 ((tp_start (x_tape (x_set_tape u0_L18 (tp_set_token (x_tape u0_L18) (F_X7_tokenOf r45))))) + (1 : Int32)) (tp_size (x_tape (x_set_tape u0_L18 (tp_set_token (x_tape u0_L18) (F_X7_tokenOf r45)))))), .ref (ax 41)]) (rS (rest := [.ref (ax 41)]) F (c_J9_min_7cf53 D cA ((tp_start (x_tape (x_set_tape u0_L18 (tp_set_token (x_tape u0_L18) (F_X7_tokenOf r45))))) + (1 : Int32)) (tp_size (x_tape (x_set_tape u0_L18 (tp_set_token (x_tape u0_L18) (F_X7_tokenOf r45))))) l) lk_X7_42 (Nat.le_of_ble_eq_true rfl) (preRO hK hS hAb (emP)) rfl hl rfl (Nat.le_of_ble_eq_true rfl) (dd D_X7_step 36 rfl) ⟨Nat.le_of_ble_eq_true rfl, Nat.le_of_ble_eq_true rfl⟩) rfl ?_
          refine putF F hK hP hD hS lp_X7_22 (41) (xp_41 cA ax (x_set_tape u0_L18 (tp_set_token (x_tape u0_L18) (F_X7_tokenOf r45)))) (Nat.le_of_ble_eq_true rfl) (nar_int _) (fit_int _) (ws' := (xW cA ax (x_set_tape (x_set_tape u0_L18 (tp_set_token (x_tape u0_L18) (F_X7_tokenOf r45))) (tp_set_fin (x_tape (x_set_tape u0_L18 (tp_set_token (x_tape u0_L18) (F_X7_tokenOf r45)))) (F_J9_min_7cf53 ((tp_start (x_tape (x_set_tape u0_L18 (tp_set_token (x_tape u0_L18) (F_X7_tokenOf r45))))) + (1 : Int32)) (tp_size (x_tape (x_set_tape u0_L18 (tp_set_token (x_tape u0_L18) (F_X7_tokenOf r45)))))))))) (xs_41_4 cA ax (x_set_tape u0_L18 (tp_set_token (x_tape u0_L18) (F_X7_tokenOf r45))) (F_J9_min_7cf53 ((tp_start (x_tape (x_set_tape u0_L18 (tp_set_token (x_tape u0_L18) (F_X7_tokenOf r45))))) + (1 : Int32)) (tp_size (x_tape (x_set_tape u0_L18 (tp_set_token (x_tape u0_L18) (F_X7_tokenOf r45))))))) (dd D_X7_step 37 rfl) (fun H locs hP hD hS => ?_)
          refine lv_aload_n F.1 F.2.1 (dd D_X7_step 38 rfl) rfl (lv_at hl 0 rfl) ?_
          refine getF F hK hP lf_X7_32 (41) (xp_41 cA ax (x_set_tape (x_set_tape u0_L18 (tp_set_token (x_tape u0_L18) (F_X7_tokenOf r45))) (tp_set_fin (x_tape (x_set_tape u0_L18 (tp_set_token (x_tape u0_L18) (F_X7_tokenOf r45)))) (F_J9_min_7cf53 ((tp_start (x_tape (x_set_tape u0_L18 (tp_set_token (x_tape u0_L18) (F_X7_tokenOf r45))))) + (1 : Int32)) (tp_size (x_tape (x_set_tape u0_L18 (tp_set_token (x_tape u0_L18) (F_X7_tokenOf r45))))))))) rfl (dd D_X7_step 39 rfl) ?_
          refine lv_iconst (v := (1 : Int32)) F.1 F.2.1 (dd D_X7_step 40 rfl) ki_1 ?_
          refine x_icmp_eq (tgt := 93) F.1 F.2.1 (dd D_X7_step 41 rfl) rfl h (fun c47 h => ?_) (fun c47 h => ?_)
          · refine lv_iconst (v := (1 : Int32)) F.1 F.2.1 (dd D_X7_step 46 rfl) ki_1 ?_
            refine lv_goto (tgt := 98) F.1 F.2.1 (dd D_X7_step 47 rfl) rfl ?_
            refine lv_istore_n (lv' := [(1, .int (1 : Int32)), (0, .ref (ax 41))]) F.1 F.2.1 (dd D_X7_step 49 rfl) rfl hl (Nat.le_of_ble_eq_true rfl) rfl (fun ls hl => ?_)
            have L48 : ∀ (kf : Nat) (u0_L48 : XS) (H : Heap) (locs : List Loc) (ls : Array Slot), va_P D vwCl (xW cA ax u0_L48) H → va_D A (xW cA ax u0_L48) → va_S A sM.heap H locs → lv_has ls 2 [(0, .ref (ax 41)), (1, .int (1 : Int32))] → F_X7_step_L99 n (F_X7_step_L8 n k_L18) (1 : Int32) kf u0_L48 = some r → Wrw 1 0 0 D A (exq (none) (xW cA ax r)) p l e sM m ([.ref (ax 41)] : List Value).toArray below meth c H locs 0 0 99 ls [] := by
              intro kf
              induction kf with
              | zero =>
                intro u0_L48 H locs ls hP hD hS hl h
                cases (show none = some r from h)
              | succ k_L48 ih_L48 =>
                intro u0_L48 H locs ls hP hD hS hl h
                unfold F_X7_step_L99 at h
                refine lv_iload_n F.1 F.2.1 (dd D_X7_step 50 rfl) rfl (lv_at hl 1 rfl) ?_
                refine x_if_eq (tgt := 145) F.1 F.2.1 (dd D_X7_step 51 rfl) rfl h (fun c49 h => ?_) (fun c49 h => ?_)
                · obtain rfl := Option.some.inj h
                  exact rw_v (R := rmOf 1 0 0) F hP hD hS hr hlk ⟨Nat.le_of_ble_eq_true rfl, Nat.le_of_ble_eq_true rfl⟩ ⟨rfl, rfl⟩ (dd D_X7_step 72 rfl)
                · refine lv_aload_n F.1 F.2.1 (dd D_X7_step 52 rfl) rfl (lv_at hl 0 rfl) ?_
                  refine getF F hK hP lf_X7_22 (41) (xp_41 cA ax u0_L48) rfl (dd D_X7_step 53 rfl) ?_
                  refine lv_aload_n F.1 F.2.1 (dd D_X7_step 54 rfl) rfl (lv_at hl 0 rfl) ?_
                  refine getF F hK hP lf_X7_15 (41) (xp_41 cA ax u0_L48) rfl (dd D_X7_step 55 rfl) ?_
                  refine x_icmp_ge (tgt := 145) F.1 F.2.1 (dd D_X7_step 56 rfl) rfl h (fun c50 h => ?_) (fun c50 h => ?_)
                  · obtain rfl := Option.some.inj h
                    exact rw_v (R := rmOf 1 0 0) F hP hD hS hr hlk ⟨Nat.le_of_ble_eq_true rfl, Nat.le_of_ble_eq_true rfl⟩ ⟨rfl, rfl⟩ (dd D_X7_step 72 rfl)
                  · refine lv_aload_n F.1 F.2.1 (dd D_X7_step 57 rfl) rfl (lv_at hl 0 rfl) ?_
                    refine lv_aload_n F.1 F.2.1 (dd D_X7_step 58 rfl) rfl (lv_at hl 0 rfl) ?_
                    refine getF F hK hP lf_X7_22 (41) (xp_41 cA ax u0_L48) rfl (dd D_X7_step 59 rfl) ?_
                    obtain ⟨r51, e52, h⟩ := Option.bind_eq_some_iff.mp h
                    refine ro_go (st' := [.int r51]) (rV (rest := []) F (c_X7_byteAt D cA ax u0_L48 n (tp_fin (x_tape u0_L48)) r51 e52 l) lk_X7_35 (Nat.le_of_ble_eq_true rfl) (preRO hK hS hAb hP) (rcv_7 hK hP (q0 := (41)) (xp_41 cA ax u0_L48)) rfl hl rfl (Nat.le_of_ble_eq_true rfl) (dd D_X7_step 60 rfl) ⟨Nat.le_of_ble_eq_true rfl, Nat.le_of_ble_eq_true rfl⟩) rfl ?_
                    refine ro_go (st' := [.int (F_X7_tokenOf r51)]) (rS (rest := []) F (c_X7_tokenOf D cA r51 l) lk_X7_39 (Nat.le_of_ble_eq_true rfl) (preRO hK hS hAb (emP)) rfl hl rfl (Nat.le_of_ble_eq_true rfl) (dd D_X7_step 61 rfl) ⟨Nat.le_of_ble_eq_true rfl, Nat.le_of_ble_eq_true rfl⟩) rfl ?_
                    refine lv_aload_n F.1 F.2.1 (dd D_X7_step 62 rfl) rfl (lv_at hl 0 rfl) ?_
                    refine getF F hK hP lf_X7_32 (41) (xp_41 cA ax u0_L48) rfl (dd D_X7_step 63 rfl) ?_
                    refine x_icmp_ne (tgt := 145) F.1 F.2.1 (dd D_X7_step 64 rfl) rfl h (fun c53 h => ?_) (fun c53 h => ?_)
                    · obtain rfl := Option.some.inj h
                      exact rw_v (R := rmOf 1 0 0) F hP hD hS hr hlk ⟨Nat.le_of_ble_eq_true rfl, Nat.le_of_ble_eq_true rfl⟩ ⟨rfl, rfl⟩ (dd D_X7_step 72 rfl)
                    · refine lv_aload_n F.1 F.2.1 (dd D_X7_step 65 rfl) rfl (lv_at hl 0 rfl) ?_
                      refine lv_dup F.1 F.2.1 (dd D_X7_step 66 rfl) rfl ?_
                      refine getF F hK hP lf_X7_22 (41) (xp_41 cA ax u0_L48) rfl (dd D_X7_step 67 rfl) ?_
                      refine lv_iconst (v := (1 : Int32)) F.1 F.2.1 (dd D_X7_step 68 rfl) ki_1 ?_
                      refine lv_iadd F.1 F.2.1 (dd D_X7_step 69 rfl) ?_
                      refine putF F hK hP hD hS lp_X7_22 (41) (xp_41 cA ax u0_L48) (Nat.le_of_ble_eq_true rfl) (nar_int _) (fit_int _) (ws' := (xW cA ax (x_set_tape u0_L48 (tp_set_fin (x_tape u0_L48) ((tp_fin (x_tape u0_L48)) + (1 : Int32)))))) (xs_41_4 cA ax u0_L48 ((tp_fin (x_tape u0_L48)) + (1 : Int32))) (dd D_X7_step 70 rfl) (fun H locs hP hD hS => ?_)
                      refine lv_goto (tgt := 99) F.1 F.2.1 (dd D_X7_step 71 rfl) rfl ?_
                      exact ih_L48 (x_set_tape u0_L48 (tp_set_fin (x_tape u0_L48) ((tp_fin (x_tape u0_L48)) + (1 : Int32)))) _ _ ls hP hD hS (lv_sub hl [0, 1] rfl) h
            exact L48 n (x_set_tape (x_set_tape u0_L18 (tp_set_token (x_tape u0_L18) (F_X7_tokenOf r45))) (tp_set_fin (x_tape (x_set_tape u0_L18 (tp_set_token (x_tape u0_L18) (F_X7_tokenOf r45)))) (F_J9_min_7cf53 ((tp_start (x_tape (x_set_tape u0_L18 (tp_set_token (x_tape u0_L18) (F_X7_tokenOf r45))))) + (1 : Int32)) (tp_size (x_tape (x_set_tape u0_L18 (tp_set_token (x_tape u0_L18) (F_X7_tokenOf r45)))))))) _ _ ls hP hD hS (lv_sub hl [1, 0] rfl) h
          · refine lv_aload_n F.1 F.2.1 (dd D_X7_step 42 rfl) rfl (lv_at hl 0 rfl) ?_
            refine getF F hK hP lf_X7_32 (41) (xp_41 cA ax (x_set_tape (x_set_tape u0_L18 (tp_set_token (x_tape u0_L18) (F_X7_tokenOf r45))) (tp_set_fin (x_tape (x_set_tape u0_L18 (tp_set_token (x_tape u0_L18) (F_X7_tokenOf r45)))) (F_J9_min_7cf53 ((tp_start (x_tape (x_set_tape u0_L18 (tp_set_token (x_tape u0_L18) (F_X7_tokenOf r45))))) + (1 : Int32)) (tp_size (x_tape (x_set_tape u0_L18 (tp_set_token (x_tape u0_L18) (F_X7_tokenOf r45))))))))) rfl (dd D_X7_step 43 rfl) ?_
            refine lv_iconst (v := (2 : Int32)) F.1 F.2.1 (dd D_X7_step 44 rfl) ki_2 ?_
            refine x_icmp_ne (tgt := 97) F.1 F.2.1 (dd D_X7_step 45 rfl) rfl h (fun c54 h => ?_) (fun c54 h => ?_)
            · refine lv_iconst (v := (0 : Int32)) F.1 F.2.1 (dd D_X7_step 48 rfl) ki_0 ?_
              refine lv_istore_n (lv' := [(1, .int (0 : Int32)), (0, .ref (ax 41))]) F.1 F.2.1 (dd D_X7_step 49 rfl) rfl hl (Nat.le_of_ble_eq_true rfl) rfl (fun ls hl => ?_)
              have L55 : ∀ (kf : Nat) (u0_L55 : XS) (H : Heap) (locs : List Loc) (ls : Array Slot), va_P D vwCl (xW cA ax u0_L55) H → va_D A (xW cA ax u0_L55) → va_S A sM.heap H locs → lv_has ls 2 [(0, .ref (ax 41)), (1, .int (0 : Int32))] → F_X7_step_L99 n (F_X7_step_L8 n k_L18) (0 : Int32) kf u0_L55 = some r → Wrw 1 0 0 D A (exq (none) (xW cA ax r)) p l e sM m ([.ref (ax 41)] : List Value).toArray below meth c H locs 0 0 99 ls [] := by
                intro kf
                induction kf with
                | zero =>
                  intro u0_L55 H locs ls hP hD hS hl h
                  cases (show none = some r from h)
                | succ k_L55 ih_L55 =>
                  intro u0_L55 H locs ls hP hD hS hl h
                  unfold F_X7_step_L99 at h
                  refine lv_iload_n F.1 F.2.1 (dd D_X7_step 50 rfl) rfl (lv_at hl 1 rfl) ?_
                  refine x_if_eq (tgt := 145) F.1 F.2.1 (dd D_X7_step 51 rfl) rfl h (fun c56 h => ?_) (fun c56 h => ?_)
                  · obtain rfl := Option.some.inj h
                    exact rw_v (R := rmOf 1 0 0) F hP hD hS hr hlk ⟨Nat.le_of_ble_eq_true rfl, Nat.le_of_ble_eq_true rfl⟩ ⟨rfl, rfl⟩ (dd D_X7_step 72 rfl)
                  · refine lv_aload_n F.1 F.2.1 (dd D_X7_step 52 rfl) rfl (lv_at hl 0 rfl) ?_
                    refine getF F hK hP lf_X7_22 (41) (xp_41 cA ax u0_L55) rfl (dd D_X7_step 53 rfl) ?_
                    refine lv_aload_n F.1 F.2.1 (dd D_X7_step 54 rfl) rfl (lv_at hl 0 rfl) ?_
                    refine getF F hK hP lf_X7_15 (41) (xp_41 cA ax u0_L55) rfl (dd D_X7_step 55 rfl) ?_
                    refine x_icmp_ge (tgt := 145) F.1 F.2.1 (dd D_X7_step 56 rfl) rfl h (fun c57 h => ?_) (fun c57 h => ?_)
                    · obtain rfl := Option.some.inj h
                      exact rw_v (R := rmOf 1 0 0) F hP hD hS hr hlk ⟨Nat.le_of_ble_eq_true rfl, Nat.le_of_ble_eq_true rfl⟩ ⟨rfl, rfl⟩ (dd D_X7_step 72 rfl)
                    · refine lv_aload_n F.1 F.2.1 (dd D_X7_step 57 rfl) rfl (lv_at hl 0 rfl) ?_
                      refine lv_aload_n F.1 F.2.1 (dd D_X7_step 58 rfl) rfl (lv_at hl 0 rfl) ?_
                      refine getF F hK hP lf_X7_22 (41) (xp_41 cA ax u0_L55) rfl (dd D_X7_step 59 rfl) ?_
                      obtain ⟨r58, e59, h⟩ := Option.bind_eq_some_iff.mp h
                      refine ro_go (st' := [.int r58]) (rV (rest := []) F (c_X7_byteAt D cA ax u0_L55 n (tp_fin (x_tape u0_L55)) r58 e59 l) lk_X7_35 (Nat.le_of_ble_eq_true rfl) (preRO hK hS hAb hP) (rcv_7 hK hP (q0 := (41)) (xp_41 cA ax u0_L55)) rfl hl rfl (Nat.le_of_ble_eq_true rfl) (dd D_X7_step 60 rfl) ⟨Nat.le_of_ble_eq_true rfl, Nat.le_of_ble_eq_true rfl⟩) rfl ?_
                      refine ro_go (st' := [.int (F_X7_tokenOf r58)]) (rS (rest := []) F (c_X7_tokenOf D cA r58 l) lk_X7_39 (Nat.le_of_ble_eq_true rfl) (preRO hK hS hAb (emP)) rfl hl rfl (Nat.le_of_ble_eq_true rfl) (dd D_X7_step 61 rfl) ⟨Nat.le_of_ble_eq_true rfl, Nat.le_of_ble_eq_true rfl⟩) rfl ?_
                      refine lv_aload_n F.1 F.2.1 (dd D_X7_step 62 rfl) rfl (lv_at hl 0 rfl) ?_
                      refine getF F hK hP lf_X7_32 (41) (xp_41 cA ax u0_L55) rfl (dd D_X7_step 63 rfl) ?_
                      refine x_icmp_ne (tgt := 145) F.1 F.2.1 (dd D_X7_step 64 rfl) rfl h (fun c60 h => ?_) (fun c60 h => ?_)
                      · obtain rfl := Option.some.inj h
                        exact rw_v (R := rmOf 1 0 0) F hP hD hS hr hlk ⟨Nat.le_of_ble_eq_true rfl, Nat.le_of_ble_eq_true rfl⟩ ⟨rfl, rfl⟩ (dd D_X7_step 72 rfl)
                      · refine lv_aload_n F.1 F.2.1 (dd D_X7_step 65 rfl) rfl (lv_at hl 0 rfl) ?_
                        refine lv_dup F.1 F.2.1 (dd D_X7_step 66 rfl) rfl ?_
                        refine getF F hK hP lf_X7_22 (41) (xp_41 cA ax u0_L55) rfl (dd D_X7_step 67 rfl) ?_
                        refine lv_iconst (v := (1 : Int32)) F.1 F.2.1 (dd D_X7_step 68 rfl) ki_1 ?_
                        refine lv_iadd F.1 F.2.1 (dd D_X7_step 69 rfl) ?_
                        refine putF F hK hP hD hS lp_X7_22 (41) (xp_41 cA ax u0_L55) (Nat.le_of_ble_eq_true rfl) (nar_int _) (fit_int _) (ws' := (xW cA ax (x_set_tape u0_L55 (tp_set_fin (x_tape u0_L55) ((tp_fin (x_tape u0_L55)) + (1 : Int32)))))) (xs_41_4 cA ax u0_L55 ((tp_fin (x_tape u0_L55)) + (1 : Int32))) (dd D_X7_step 70 rfl) (fun H locs hP hD hS => ?_)
                        refine lv_goto (tgt := 99) F.1 F.2.1 (dd D_X7_step 71 rfl) rfl ?_
                        exact ih_L55 (x_set_tape u0_L55 (tp_set_fin (x_tape u0_L55) ((tp_fin (x_tape u0_L55)) + (1 : Int32)))) _ _ ls hP hD hS (lv_sub hl [0, 1] rfl) h
              exact L55 n (x_set_tape (x_set_tape u0_L18 (tp_set_token (x_tape u0_L18) (F_X7_tokenOf r45))) (tp_set_fin (x_tape (x_set_tape u0_L18 (tp_set_token (x_tape u0_L18) (F_X7_tokenOf r45)))) (F_J9_min_7cf53 ((tp_start (x_tape (x_set_tape u0_L18 (tp_set_token (x_tape u0_L18) (F_X7_tokenOf r45))))) + (1 : Int32)) (tp_size (x_tape (x_set_tape u0_L18 (tp_set_token (x_tape u0_L18) (F_X7_tokenOf r45)))))))) _ _ ls hP hD hS (lv_sub hl [1, 0] rfl) h
            · refine lv_iconst (v := (1 : Int32)) F.1 F.2.1 (dd D_X7_step 46 rfl) ki_1 ?_
              refine lv_goto (tgt := 98) F.1 F.2.1 (dd D_X7_step 47 rfl) rfl ?_
              refine lv_istore_n (lv' := [(1, .int (1 : Int32)), (0, .ref (ax 41))]) F.1 F.2.1 (dd D_X7_step 49 rfl) rfl hl (Nat.le_of_ble_eq_true rfl) rfl (fun ls hl => ?_)
              have L61 : ∀ (kf : Nat) (u0_L61 : XS) (H : Heap) (locs : List Loc) (ls : Array Slot), va_P D vwCl (xW cA ax u0_L61) H → va_D A (xW cA ax u0_L61) → va_S A sM.heap H locs → lv_has ls 2 [(0, .ref (ax 41)), (1, .int (1 : Int32))] → F_X7_step_L99 n (F_X7_step_L8 n k_L18) (1 : Int32) kf u0_L61 = some r → Wrw 1 0 0 D A (exq (none) (xW cA ax r)) p l e sM m ([.ref (ax 41)] : List Value).toArray below meth c H locs 0 0 99 ls [] := by
                intro kf
                induction kf with
                | zero =>
                  intro u0_L61 H locs ls hP hD hS hl h
                  cases (show none = some r from h)
                | succ k_L61 ih_L61 =>
                  intro u0_L61 H locs ls hP hD hS hl h
                  unfold F_X7_step_L99 at h
                  refine lv_iload_n F.1 F.2.1 (dd D_X7_step 50 rfl) rfl (lv_at hl 1 rfl) ?_
                  refine x_if_eq (tgt := 145) F.1 F.2.1 (dd D_X7_step 51 rfl) rfl h (fun c62 h => ?_) (fun c62 h => ?_)
                  · obtain rfl := Option.some.inj h
                    exact rw_v (R := rmOf 1 0 0) F hP hD hS hr hlk ⟨Nat.le_of_ble_eq_true rfl, Nat.le_of_ble_eq_true rfl⟩ ⟨rfl, rfl⟩ (dd D_X7_step 72 rfl)
                  · refine lv_aload_n F.1 F.2.1 (dd D_X7_step 52 rfl) rfl (lv_at hl 0 rfl) ?_
                    refine getF F hK hP lf_X7_22 (41) (xp_41 cA ax u0_L61) rfl (dd D_X7_step 53 rfl) ?_
                    refine lv_aload_n F.1 F.2.1 (dd D_X7_step 54 rfl) rfl (lv_at hl 0 rfl) ?_
                    refine getF F hK hP lf_X7_15 (41) (xp_41 cA ax u0_L61) rfl (dd D_X7_step 55 rfl) ?_
                    refine x_icmp_ge (tgt := 145) F.1 F.2.1 (dd D_X7_step 56 rfl) rfl h (fun c63 h => ?_) (fun c63 h => ?_)
                    · obtain rfl := Option.some.inj h
                      exact rw_v (R := rmOf 1 0 0) F hP hD hS hr hlk ⟨Nat.le_of_ble_eq_true rfl, Nat.le_of_ble_eq_true rfl⟩ ⟨rfl, rfl⟩ (dd D_X7_step 72 rfl)
                    · refine lv_aload_n F.1 F.2.1 (dd D_X7_step 57 rfl) rfl (lv_at hl 0 rfl) ?_
                      refine lv_aload_n F.1 F.2.1 (dd D_X7_step 58 rfl) rfl (lv_at hl 0 rfl) ?_
                      refine getF F hK hP lf_X7_22 (41) (xp_41 cA ax u0_L61) rfl (dd D_X7_step 59 rfl) ?_
                      obtain ⟨r64, e65, h⟩ := Option.bind_eq_some_iff.mp h
                      refine ro_go (st' := [.int r64]) (rV (rest := []) F (c_X7_byteAt D cA ax u0_L61 n (tp_fin (x_tape u0_L61)) r64 e65 l) lk_X7_35 (Nat.le_of_ble_eq_true rfl) (preRO hK hS hAb hP) (rcv_7 hK hP (q0 := (41)) (xp_41 cA ax u0_L61)) rfl hl rfl (Nat.le_of_ble_eq_true rfl) (dd D_X7_step 60 rfl) ⟨Nat.le_of_ble_eq_true rfl, Nat.le_of_ble_eq_true rfl⟩) rfl ?_
                      refine ro_go (st' := [.int (F_X7_tokenOf r64)]) (rS (rest := []) F (c_X7_tokenOf D cA r64 l) lk_X7_39 (Nat.le_of_ble_eq_true rfl) (preRO hK hS hAb (emP)) rfl hl rfl (Nat.le_of_ble_eq_true rfl) (dd D_X7_step 61 rfl) ⟨Nat.le_of_ble_eq_true rfl, Nat.le_of_ble_eq_true rfl⟩) rfl ?_
                      refine lv_aload_n F.1 F.2.1 (dd D_X7_step 62 rfl) rfl (lv_at hl 0 rfl) ?_
                      refine getF F hK hP lf_X7_32 (41) (xp_41 cA ax u0_L61) rfl (dd D_X7_step 63 rfl) ?_
                      refine x_icmp_ne (tgt := 145) F.1 F.2.1 (dd D_X7_step 64 rfl) rfl h (fun c66 h => ?_) (fun c66 h => ?_)
                      · obtain rfl := Option.some.inj h
                        exact rw_v (R := rmOf 1 0 0) F hP hD hS hr hlk ⟨Nat.le_of_ble_eq_true rfl, Nat.le_of_ble_eq_true rfl⟩ ⟨rfl, rfl⟩ (dd D_X7_step 72 rfl)
                      · refine lv_aload_n F.1 F.2.1 (dd D_X7_step 65 rfl) rfl (lv_at hl 0 rfl) ?_
                        refine lv_dup F.1 F.2.1 (dd D_X7_step 66 rfl) rfl ?_
                        refine getF F hK hP lf_X7_22 (41) (xp_41 cA ax u0_L61) rfl (dd D_X7_step 67 rfl) ?_
                        refine lv_iconst (v := (1 : Int32)) F.1 F.2.1 (dd D_X7_step 68 rfl) ki_1 ?_
                        refine lv_iadd F.1 F.2.1 (dd D_X7_step 69 rfl) ?_
                        refine putF F hK hP hD hS lp_X7_22 (41) (xp_41 cA ax u0_L61) (Nat.le_of_ble_eq_true rfl) (nar_int _) (fit_int _) (ws' := (xW cA ax (x_set_tape u0_L61 (tp_set_fin (x_tape u0_L61) ((tp_fin (x_tape u0_L61)) + (1 : Int32)))))) (xs_41_4 cA ax u0_L61 ((tp_fin (x_tape u0_L61)) + (1 : Int32))) (dd D_X7_step 70 rfl) (fun H locs hP hD hS => ?_)
                        refine lv_goto (tgt := 99) F.1 F.2.1 (dd D_X7_step 71 rfl) rfl ?_
                        exact ih_L61 (x_set_tape u0_L61 (tp_set_fin (x_tape u0_L61) ((tp_fin (x_tape u0_L61)) + (1 : Int32)))) _ _ ls hP hD hS (lv_sub hl [0, 1] rfl) h
              exact L61 n (x_set_tape (x_set_tape u0_L18 (tp_set_token (x_tape u0_L18) (F_X7_tokenOf r45))) (tp_set_fin (x_tape (x_set_tape u0_L18 (tp_set_token (x_tape u0_L18) (F_X7_tokenOf r45)))) (F_J9_min_7cf53 ((tp_start (x_tape (x_set_tape u0_L18 (tp_set_token (x_tape u0_L18) (F_X7_tokenOf r45))))) + (1 : Int32)) (tp_size (x_tape (x_set_tape u0_L18 (tp_set_token (x_tape u0_L18) (F_X7_tokenOf r45)))))))) _ _ ls hP hD hS (lv_sub hl [1, 0] rfl) h
        · refine lv_aload_n F.1 F.2.1 (dd D_X7_step 15 rfl) rfl (lv_at hl 0 rfl) ?_
          refine lv_dup F.1 F.2.1 (dd D_X7_step 16 rfl) rfl ?_
          refine getF F hK hP lf_X7_19 (41) (xp_41 cA ax u0_L18) rfl (dd D_X7_step 17 rfl) ?_
          refine lv_iconst (v := (1 : Int32)) F.1 F.2.1 (dd D_X7_step 18 rfl) ki_1 ?_
          refine lv_iadd F.1 F.2.1 (dd D_X7_step 19 rfl) ?_
          refine putF F hK hP hD hS lp_X7_19 (41) (xp_41 cA ax u0_L18) (Nat.le_of_ble_eq_true rfl) (nar_int _) (fit_int _) (ws' := (xW cA ax (x_set_tape u0_L18 (tp_set_start (x_tape u0_L18) ((tp_start (x_tape u0_L18)) + (1 : Int32)))))) (xs_41_3 cA ax u0_L18 ((tp_start (x_tape u0_L18)) + (1 : Int32))) (dd D_X7_step 20 rfl) (fun H locs hP hD hS => ?_)
          refine lv_goto (tgt := 8) F.1 F.2.1 (dd D_X7_step 21 rfl) rfl ?_
          exact ih_L18 (x_set_tape u0_L18 (tp_set_start (x_tape u0_L18) ((tp_start (x_tape u0_L18)) + (1 : Int32)))) _ _ ls hP hD hS (lv_sub hl [0] rfl) h
  exact L18 n (x_set_tape s (tp_set_start (x_tape s) (tp_fin (x_tape s)))) _ _ ls hP hD hS (lv_sub hl [0] rfl) h
def F_X7_isWord_L28 (n : Nat) (u0 : XS) (w : List Int32)  : Nat → Int32 → Option Bool
  | 0, _ => none
  | kf + 1, w2 => (if (nI (List.length w)) ≤ w2 then some (true) else gd (inb w2 (List.length w)) ((((F_X7_byteAt n u0 ((tp_start (x_tape u0)) + w2))).bind fun r5 => (if (strch w w2) = r5 then F_X7_isWord_L28 n u0 w kf (w2 + (1 : Int32)) else some (false)))))
def F_X7_isWord (n : Nat) (s : XS) (w : List Int32) : Option Bool := (if (tp_token (x_tape s)) = (1 : Int32) then (if ((tp_fin (x_tape s)) - (tp_start (x_tape s))) = (nI (List.length w)) then F_X7_isWord_L28 n s w n (0 : Int32) else some (false)) else some (false))
set_option maxHeartbeats 4000000 in
set_option maxRecDepth 100000 in
theorem c_X7_isWord (D : va_G) (cA : Nat → ClassId) (ax : Nat → Nat) (s : XS) (sa : Nat) (w : List Int32) (hw : w.length < 2 ^ 31) (n : Nat)  (r : Bool) (h : F_X7_isWord n s w = some r) : ROX m_X7_isWord 5 D cA [.ref (ax 41), .ref sa] (xW cA ax s) (isStr cA sa w) (some (.int (bI r))) := by
  refine ROX.ofW gy_X7_isWord.2.2 (Nat.le_of_ble_eq_true rfl) ?_
  intro l p e sM m below meth c F hr hlk hK hP hS hAb hE ls hl
  have hl : lv_has ls 3 [(0, .ref (ax 41)), (1, .ref sa)] := hl
  unfold F_X7_isWord at h
  refine lv_aload_n F.1 F.2.1 (dd D_X7_isWord 0 rfl) rfl (lv_at hl 0 rfl) ?_
  refine getF F hK hP lf_X7_32 (41) (xp_41 cA ax s) rfl (dd D_X7_isWord 1 rfl) ?_
  refine lv_iconst (v := (1 : Int32)) F.1 F.2.1 (dd D_X7_isWord 2 rfl) ki_1 ?_
  refine x_icmp_ne (tgt := 24) F.1 F.2.1 (dd D_X7_isWord 3 rfl) rfl h (fun c1 h => ?_) (fun c1 h => ?_)
  · refine lv_iconst (v := (0 : Int32)) F.1 F.2.1 (dd D_X7_isWord 12 rfl) ki_0 ?_
    exact ro_z (R := rmOf 5 0 0) F hr rfl hlk (congrArg (Option.map fun z => Value.int (bI z)) h) (dd D_X7_isWord 13 rfl)
  · refine lv_aload_n F.1 F.2.1 (dd D_X7_isWord 4 rfl) rfl (lv_at hl 0 rfl) ?_
    refine getF F hK hP lf_X7_22 (41) (xp_41 cA ax s) rfl (dd D_X7_isWord 5 rfl) ?_
    refine lv_aload_n F.1 F.2.1 (dd D_X7_isWord 6 rfl) rfl (lv_at hl 0 rfl) ?_
    refine getF F hK hP lf_X7_19 (41) (xp_41 cA ax s) rfl (dd D_X7_isWord 7 rfl) ?_
    refine lv_isub F.1 F.2.1 (dd D_X7_isWord 8 rfl) ?_
    refine lv_aload_n F.1 F.2.1 (dd D_X7_isWord 9 rfl) rfl (lv_at hl 1 rfl) ?_
    refine ro_go (st' := [.int (nI (List.length w)), .int ((tp_fin (x_tape s)) - (tp_start (x_tape s)))]) (rV (rest := [.int ((tp_fin (x_tape s)) - (tp_start (x_tape s)))]) F (c_J0_length_8abf5 D cA sa w l) lk_X7_48 (Nat.le_of_ble_eq_true rfl) (preStr hK hS hAb emP hE) (rcvStr hS hAb hE) rfl hl rfl (Nat.le_of_ble_eq_true rfl) (dd D_X7_isWord 10 rfl) ⟨(Nat.le_of_ble_eq_true rfl), (Nat.le_of_ble_eq_true rfl)⟩) rfl ?_
    refine x_icmp_eq (tgt := 26) F.1 F.2.1 (dd D_X7_isWord 11 rfl) rfl h (fun c2 h => ?_) (fun c2 h => ?_)
    · refine lv_iconst (v := (0 : Int32)) F.1 F.2.1 (dd D_X7_isWord 14 rfl) ki_0 ?_
      refine lv_istore_n (lv' := [(2, .int (0 : Int32)), (0, .ref (ax 41)), (1, .ref sa)]) F.1 F.2.1 (dd D_X7_isWord 15 rfl) rfl hl (Nat.le_of_ble_eq_true rfl) rfl (fun ls hl => ?_)
      have L8 : ∀ (kf : Nat) (w2_L8 : Int32) (ls : Array Slot), lv_has ls 3 [(0, .ref (ax 41)), (1, .ref sa), (2, .int w2_L8)] → F_X7_isWord_L28 n s w kf w2_L8 = some r → Wro 5 (some (.int (bI r))) p l e sM m ([.ref (ax 41), .ref sa] : List Value).toArray below meth c 28 ls [] := by
        intro kf
        induction kf with
        | zero =>
          intro w2_L8 ls hl h
          cases (show none = some r from h)
        | succ k_L8 ih_L8 =>
          intro w2_L8 ls hl h
          unfold F_X7_isWord_L28 at h
          refine lv_iload_n F.1 F.2.1 (dd D_X7_isWord 16 rfl) rfl (lv_at hl 2 rfl) ?_
          refine lv_aload_n F.1 F.2.1 (dd D_X7_isWord 17 rfl) rfl (lv_at hl 1 rfl) ?_
          refine ro_go (st' := [.int (nI (List.length w)), .int w2_L8]) (rV (rest := [.int w2_L8]) F (c_J0_length_8abf5 D cA sa w l) lk_X7_48 (Nat.le_of_ble_eq_true rfl) (preStr hK hS hAb emP hE) (rcvStr hS hAb hE) rfl hl rfl (Nat.le_of_ble_eq_true rfl) (dd D_X7_isWord 18 rfl) ⟨(Nat.le_of_ble_eq_true rfl), (Nat.le_of_ble_eq_true rfl)⟩) rfl ?_
          refine x_icmp_ge (tgt := 62) F.1 F.2.1 (dd D_X7_isWord 19 rfl) rfl h (fun c9 h => ?_) (fun c9 h => ?_)
          · refine lv_iconst (v := (1 : Int32)) F.1 F.2.1 (dd D_X7_isWord 34 rfl) ki_1 ?_
            exact ro_z (R := rmOf 5 0 0) F hr rfl hlk (congrArg (Option.map fun z => Value.int (bI z)) h) (dd D_X7_isWord 35 rfl)
          · refine lv_aload_n F.1 F.2.1 (dd D_X7_isWord 20 rfl) rfl (lv_at hl 1 rfl) ?_
            refine lv_iload_n F.1 F.2.1 (dd D_X7_isWord 21 rfl) rfl (lv_at hl 2 rfl) ?_
            obtain ⟨z10, h⟩ := gd_some h
            refine ro_go (st' := [.int (strch w w2_L8)]) (rV (rest := []) F (c_J0_charAt_5068e D cA sa w w2_L8 hw z10 l) lk_X7_54 (Nat.le_of_ble_eq_true rfl) (preStr hK hS hAb emP hE) (rcvStr hS hAb hE) rfl hl rfl (Nat.le_of_ble_eq_true rfl) (dd D_X7_isWord 22 rfl) ⟨(Nat.le_of_ble_eq_true rfl), (Nat.le_of_ble_eq_true rfl)⟩) rfl ?_
            refine lv_aload_n F.1 F.2.1 (dd D_X7_isWord 23 rfl) rfl (lv_at hl 0 rfl) ?_
            refine lv_aload_n F.1 F.2.1 (dd D_X7_isWord 24 rfl) rfl (lv_at hl 0 rfl) ?_
            refine getF F hK hP lf_X7_19 (41) (xp_41 cA ax s) rfl (dd D_X7_isWord 25 rfl) ?_
            refine lv_iload_n F.1 F.2.1 (dd D_X7_isWord 26 rfl) rfl (lv_at hl 2 rfl) ?_
            refine lv_iadd F.1 F.2.1 (dd D_X7_isWord 27 rfl) ?_
            obtain ⟨r11, e12, h⟩ := Option.bind_eq_some_iff.mp h
            refine ro_go (st' := [.int r11, .int (strch w w2_L8)]) (rV (rest := [.int (strch w w2_L8)]) F (c_X7_byteAt D cA ax s n ((tp_start (x_tape s)) + w2_L8) r11 e12 l) lk_X7_35 (Nat.le_of_ble_eq_true rfl) (preRO hK hS hAb hP) (rcv_7 hK hP (q0 := (41)) (xp_41 cA ax s)) rfl hl rfl (Nat.le_of_ble_eq_true rfl) (dd D_X7_isWord 28 rfl) ⟨Nat.le_of_ble_eq_true rfl, Nat.le_of_ble_eq_true rfl⟩) rfl ?_
            refine x_icmp_eq (tgt := 56) F.1 F.2.1 (dd D_X7_isWord 29 rfl) rfl h (fun c13 h => ?_) (fun c13 h => ?_)
            · refine lv_iinc (v := (w2_L8 + (1 : Int32))) (lv' := [(2, .int (w2_L8 + (1 : Int32))), (0, .ref (ax 41)), (1, .ref sa)]) F.1 F.2.1 (dd D_X7_isWord 32 rfl) hl (k := 2) rfl (congrArg (fun z => w2_L8 + z) ki_1) (Nat.le_of_ble_eq_true rfl) rfl (fun ls hl => ?_)
              refine lv_goto (tgt := 28) F.1 F.2.1 (dd D_X7_isWord 33 rfl) rfl ?_
              exact ih_L8 (w2_L8 + (1 : Int32)) ls (lv_sub hl [1, 2, 0] rfl) h
            · refine lv_iconst (v := (0 : Int32)) F.1 F.2.1 (dd D_X7_isWord 30 rfl) ki_0 ?_
              exact ro_z (R := rmOf 5 0 0) F hr rfl hlk (congrArg (Option.map fun z => Value.int (bI z)) h) (dd D_X7_isWord 31 rfl)
      exact L8 n (0 : Int32) ls (lv_sub hl [1, 2, 0] rfl) h
    · refine lv_iconst (v := (0 : Int32)) F.1 F.2.1 (dd D_X7_isWord 12 rfl) ki_0 ?_
      exact ro_z (R := rmOf 5 0 0) F hr rfl hlk (congrArg (Option.map fun z => Value.int (bI z)) h) (dd D_X7_isWord 13 rfl)
def F_X7_takeNumber_L37 (n : Nat) (v1 : Int32) (v2 : Int32) : Nat → Int32 → XS → Option (Bool × XS)
  | 0, _, _ => none
  | kf + 1, w3, u0 => (if (tp_fin (x_tape u0)) ≤ w3 then some ((F_X8_isIn (tp_value (x_tape u0)) v1 v2), u0) else (((F_X7_byteAt n u0 w3)).bind fun r6 => F_X7_takeNumber_L37 n v1 v2 kf (w3 + (1 : Int32)) (x_set_tape u0 (tp_set_value (x_tape u0) ((((10 : Int32) * (tp_value (x_tape u0))) + r6) - (48 : Int32))))))
def F_X7_takeNumber (n : Nat) (s : XS) (p1 : Int32) (p2 : Int32) : Option (Bool × XS) := (((F_X7_step n s)).bind fun r1 => (if (tp_token (x_tape r1)) = (2 : Int32) then (if ((tp_fin (x_tape r1)) - (tp_start (x_tape r1))) ≤ (4 : Int32) then F_X7_takeNumber_L37 n p1 p2 n (tp_start (x_tape (x_set_tape r1 (tp_set_value (x_tape r1) (0 : Int32))))) (x_set_tape r1 (tp_set_value (x_tape r1) (0 : Int32))) else some (false, r1)) else some (false, r1)))
set_option maxHeartbeats 4000000 in
set_option maxRecDepth 100000 in
theorem c_X7_takeNumber (D : va_G) (cA : Nat → ClassId) (ax : Nat → Nat) (s : XS) (n : Nat) (p1 : Int32) (p2 : Int32) (r : (Bool × XS)) (h : F_X7_takeNumber n s p1 p2 = some r) : RW m_X7_takeNumber 2 0 0 D cA [.ref (ax 41), .int p1, .int p2] (xW cA ax s) (exq (some (.int (bI r.1))) (xW cA ax r.2)) := by
  refine RW.ofW gy_X7_takeNumber.2.2 (Nat.le_of_ble_eq_true rfl) ?_
  intro l p e sM m below meth c A H locs F hr hlk hnm hK hP hD hS hA hAb ls hl
  have hl : lv_has ls 4 [(0, .ref (ax 41)), (1, .int p1), (2, .int p2)] := hl
  unfold F_X7_takeNumber at h
  refine lv_aload_n F.1 F.2.1 (dd D_X7_takeNumber 0 rfl) rfl (lv_at hl 0 rfl) ?_
  obtain ⟨r1, e2, h⟩ := Option.bind_eq_some_iff.mp h
  refine rwe_all (st' := []) hD hS hA (rV (rest := []) F (c_X7_step D cA ax s n r1 e2 l H.size) lk_X7_25 (Nat.le_of_ble_eq_true rfl) (preRW hK hS hAb hP hD) (rcv_7 hK hP (q0 := (41)) (xp_41 cA ax s)) rfl hl rfl (Nat.le_of_ble_eq_true rfl) (dd D_X7_takeNumber 1 rfl) ⟨Nat.le_of_ble_eq_true rfl, Nat.le_of_ble_eq_true rfl⟩) rfl (fun H locs hP hD hS => ?_)
  refine lv_aload_n F.1 F.2.1 (dd D_X7_takeNumber 2 rfl) rfl (lv_at hl 0 rfl) ?_
  refine getF F hK hP lf_X7_32 (41) (xp_41 cA ax r1) rfl (dd D_X7_takeNumber 3 rfl) ?_
  refine lv_iconst (v := (2 : Int32)) F.1 F.2.1 (dd D_X7_takeNumber 4 rfl) ki_2 ?_
  refine x_icmp_ne (tgt := 25) F.1 F.2.1 (dd D_X7_takeNumber 5 rfl) rfl h (fun c3 h => ?_) (fun c3 h => ?_)
  · refine lv_iconst (v := (0 : Int32)) F.1 F.2.1 (dd D_X7_takeNumber 13 rfl) ki_0 ?_
    obtain rfl := Option.some.inj h
    exact rw_z (R := rmOf 2 0 0) F hP hD hS hr rfl hlk ⟨Nat.le_of_ble_eq_true rfl, Nat.le_of_ble_eq_true rfl⟩ ⟨rfl, rfl⟩ (dd D_X7_takeNumber 14 rfl)
  · refine lv_aload_n F.1 F.2.1 (dd D_X7_takeNumber 6 rfl) rfl (lv_at hl 0 rfl) ?_
    refine getF F hK hP lf_X7_22 (41) (xp_41 cA ax r1) rfl (dd D_X7_takeNumber 7 rfl) ?_
    refine lv_aload_n F.1 F.2.1 (dd D_X7_takeNumber 8 rfl) rfl (lv_at hl 0 rfl) ?_
    refine getF F hK hP lf_X7_19 (41) (xp_41 cA ax r1) rfl (dd D_X7_takeNumber 9 rfl) ?_
    refine lv_isub F.1 F.2.1 (dd D_X7_takeNumber 10 rfl) ?_
    refine lv_iconst (v := (4 : Int32)) F.1 F.2.1 (dd D_X7_takeNumber 11 rfl) ki_4 ?_
    refine x_icmp_le (tgt := 27) F.1 F.2.1 (dd D_X7_takeNumber 12 rfl) rfl h (fun c4 h => ?_) (fun c4 h => ?_)
    · refine lv_aload_n F.1 F.2.1 (dd D_X7_takeNumber 15 rfl) rfl (lv_at hl 0 rfl) ?_
      refine lv_iconst (v := (0 : Int32)) F.1 F.2.1 (dd D_X7_takeNumber 16 rfl) ki_0 ?_
      refine putF F hK hP hD hS lp_X7_102 (41) (xp_41 cA ax r1) (Nat.le_of_ble_eq_true rfl) (nar_int _) (fit_int _) (ws' := (xW cA ax (x_set_tape r1 (tp_set_value (x_tape r1) (0 : Int32))))) (xs_41_5 cA ax r1 (0 : Int32)) (dd D_X7_takeNumber 17 rfl) (fun H locs hP hD hS => ?_)
      refine lv_aload_n F.1 F.2.1 (dd D_X7_takeNumber 18 rfl) rfl (lv_at hl 0 rfl) ?_
      refine getF F hK hP lf_X7_19 (41) (xp_41 cA ax (x_set_tape r1 (tp_set_value (x_tape r1) (0 : Int32)))) rfl (dd D_X7_takeNumber 19 rfl) ?_
      refine lv_istore_n (lv' := [(3, .int (tp_start (x_tape (x_set_tape r1 (tp_set_value (x_tape r1) (0 : Int32)))))), (0, .ref (ax 41)), (1, .int p1), (2, .int p2)]) F.1 F.2.1 (dd D_X7_takeNumber 20 rfl) rfl hl (Nat.le_of_ble_eq_true rfl) rfl (fun ls hl => ?_)
      have L8 : ∀ (kf : Nat) (w3_L8 : Int32) (u0_L8 : XS) (H : Heap) (locs : List Loc) (ls : Array Slot), va_P D vwCl (xW cA ax u0_L8) H → va_D A (xW cA ax u0_L8) → va_S A sM.heap H locs → lv_has ls 4 [(0, .ref (ax 41)), (1, .int p1), (2, .int p2), (3, .int w3_L8)] → F_X7_takeNumber_L37 n p1 p2 kf w3_L8 u0_L8 = some r → Wrw 2 0 0 D A (exq (some (.int (bI r.1))) (xW cA ax r.2)) p l e sM m ([.ref (ax 41), .int p1, .int p2] : List Value).toArray below meth c H locs 0 0 37 ls [] := by
        intro kf
        induction kf with
        | zero =>
          intro w3_L8 u0_L8 H locs ls hP hD hS hl h
          cases (show none = some r from h)
        | succ k_L8 ih_L8 =>
          intro w3_L8 u0_L8 H locs ls hP hD hS hl h
          unfold F_X7_takeNumber_L37 at h
          refine lv_iload_n F.1 F.2.1 (dd D_X7_takeNumber 21 rfl) rfl (lv_at hl 3 rfl) ?_
          refine lv_aload_n F.1 F.2.1 (dd D_X7_takeNumber 22 rfl) rfl (lv_at hl 0 rfl) ?_
          refine getF F hK hP lf_X7_22 (41) (xp_41 cA ax u0_L8) rfl (dd D_X7_takeNumber 23 rfl) ?_
          refine x_icmp_ge (tgt := 71) F.1 F.2.1 (dd D_X7_takeNumber 24 rfl) rfl h (fun c9 h => ?_) (fun c9 h => ?_)
          · refine lv_aload_n F.1 F.2.1 (dd D_X7_takeNumber 39 rfl) rfl (lv_at hl 0 rfl) ?_
            refine getF F hK hP lf_X7_102 (41) (xp_41 cA ax u0_L8) rfl (dd D_X7_takeNumber 40 rfl) ?_
            refine lv_iload_n F.1 F.2.1 (dd D_X7_takeNumber 41 rfl) rfl (lv_at hl 1 rfl) ?_
            refine lv_iload_n F.1 F.2.1 (dd D_X7_takeNumber 42 rfl) rfl (lv_at hl 2 rfl) ?_
            refine ro_go (st' := [.int (bI (F_X8_isIn (tp_value (x_tape u0_L8)) p1 p2))]) (rSN hK (rest := []) F (c_X8_isIn D cA (tp_value (x_tape u0_L8)) p1 p2 l) lk_X7_105 (Nat.le_of_ble_eq_true rfl) (preRO hK hS hAb (emP)) rfl hl rfl (Nat.le_of_ble_eq_true rfl) (dd D_X7_takeNumber 43 rfl) ⟨Nat.le_of_ble_eq_true rfl, Nat.le_of_ble_eq_true rfl⟩) rfl ?_
            obtain rfl := Option.some.inj h
            exact rw_z (R := rmOf 2 0 0) F hP hD hS hr (bI_nar _) hlk ⟨Nat.le_of_ble_eq_true rfl, Nat.le_of_ble_eq_true rfl⟩ ⟨rfl, rfl⟩ (dd D_X7_takeNumber 44 rfl)
          · refine lv_aload_n F.1 F.2.1 (dd D_X7_takeNumber 25 rfl) rfl (lv_at hl 0 rfl) ?_
            refine lv_bipush (v := (10 : Int32)) F.1 F.2.1 (dd D_X7_takeNumber 26 rfl) kb_10 ?_
            refine lv_aload_n F.1 F.2.1 (dd D_X7_takeNumber 27 rfl) rfl (lv_at hl 0 rfl) ?_
            refine getF F hK hP lf_X7_102 (41) (xp_41 cA ax u0_L8) rfl (dd D_X7_takeNumber 28 rfl) ?_
            refine lv_imul F.1 F.2.1 (dd D_X7_takeNumber 29 rfl) ?_
            refine lv_aload_n F.1 F.2.1 (dd D_X7_takeNumber 30 rfl) rfl (lv_at hl 0 rfl) ?_
            refine lv_iload_n F.1 F.2.1 (dd D_X7_takeNumber 31 rfl) rfl (lv_at hl 3 rfl) ?_
            obtain ⟨r10, e11, h⟩ := Option.bind_eq_some_iff.mp h
            refine ro_go (st' := [.int r10, .int ((10 : Int32) * (tp_value (x_tape u0_L8))), .ref (ax 41)]) (rV (rest := [.int ((10 : Int32) * (tp_value (x_tape u0_L8))), .ref (ax 41)]) F (c_X7_byteAt D cA ax u0_L8 n w3_L8 r10 e11 l) lk_X7_35 (Nat.le_of_ble_eq_true rfl) (preRO hK hS hAb hP) (rcv_7 hK hP (q0 := (41)) (xp_41 cA ax u0_L8)) rfl hl rfl (Nat.le_of_ble_eq_true rfl) (dd D_X7_takeNumber 32 rfl) ⟨Nat.le_of_ble_eq_true rfl, Nat.le_of_ble_eq_true rfl⟩) rfl ?_
            refine lv_iadd F.1 F.2.1 (dd D_X7_takeNumber 33 rfl) ?_
            refine lv_bipush (v := (48 : Int32)) F.1 F.2.1 (dd D_X7_takeNumber 34 rfl) kb_48 ?_
            refine lv_isub F.1 F.2.1 (dd D_X7_takeNumber 35 rfl) ?_
            refine putF F hK hP hD hS lp_X7_102 (41) (xp_41 cA ax u0_L8) (Nat.le_of_ble_eq_true rfl) (nar_int _) (fit_int _) (ws' := (xW cA ax (x_set_tape u0_L8 (tp_set_value (x_tape u0_L8) ((((10 : Int32) * (tp_value (x_tape u0_L8))) + r10) - (48 : Int32)))))) (xs_41_5 cA ax u0_L8 ((((10 : Int32) * (tp_value (x_tape u0_L8))) + r10) - (48 : Int32))) (dd D_X7_takeNumber 36 rfl) (fun H locs hP hD hS => ?_)
            refine lv_iinc (v := (w3_L8 + (1 : Int32))) (lv' := [(3, .int (w3_L8 + (1 : Int32))), (0, .ref (ax 41)), (1, .int p1), (2, .int p2)]) F.1 F.2.1 (dd D_X7_takeNumber 37 rfl) hl (k := 3) rfl (congrArg (fun z => w3_L8 + z) ki_1) (Nat.le_of_ble_eq_true rfl) rfl (fun ls hl => ?_)
            refine lv_goto (tgt := 37) F.1 F.2.1 (dd D_X7_takeNumber 38 rfl) rfl ?_
            exact ih_L8 (w3_L8 + (1 : Int32)) (x_set_tape u0_L8 (tp_set_value (x_tape u0_L8) ((((10 : Int32) * (tp_value (x_tape u0_L8))) + r10) - (48 : Int32)))) _ _ ls hP hD hS (lv_sub hl [1, 2, 3, 0] rfl) h
      exact L8 n (tp_start (x_tape (x_set_tape r1 (tp_set_value (x_tape r1) (0 : Int32))))) (x_set_tape r1 (tp_set_value (x_tape r1) (0 : Int32))) _ _ ls hP hD hS (lv_sub hl [1, 2, 3, 0] rfl) h
    · refine lv_iconst (v := (0 : Int32)) F.1 F.2.1 (dd D_X7_takeNumber 13 rfl) ki_0 ?_
      obtain rfl := Option.some.inj h
      exact rw_z (R := rmOf 2 0 0) F hP hD hS hr rfl hlk ⟨Nat.le_of_ble_eq_true rfl, Nat.le_of_ble_eq_true rfl⟩ ⟨rfl, rfl⟩ (dd D_X7_takeNumber 14 rfl)
def F_X7_takeAsked (n : Nat) (s : XS) (p2 : Int32) : Option (Bool × XS) := (((F_X7_takeNumber n s (0 : Int32) (9999 : Int32))).bind fun r1 => bf r1.1 (some (true, (x_set_draft r1.2 (F_X6_setAsked (x_draft r1.2) p2 (tp_value (x_tape r1.2)))))) (some (false, r1.2)))
set_option maxHeartbeats 4000000 in
set_option maxRecDepth 100000 in
theorem c_X7_takeAsked (D : va_G) (cA : Nat → ClassId) (ax : Nat → Nat) (s : XS) (n : Nat) (p2 : Int32) (r : (Bool × XS)) (h : F_X7_takeAsked n s p2 = some r) : RW m_X7_takeAsked 3 0 0 D cA [.ref (ax 41), .ref (ax 14), .int p2] (xW cA ax s) (exq (some (.int (bI r.1))) (xW cA ax r.2)) := by
  refine RW.ofW gy_X7_takeAsked.2.2 (Nat.le_of_ble_eq_true rfl) ?_
  intro l p e sM m below meth c A H locs F hr hlk hnm hK hP hD hS hA hAb ls hl
  have hl : lv_has ls 3 [(0, .ref (ax 41)), (1, .ref (ax 14)), (2, .int p2)] := hl
  unfold F_X7_takeAsked at h
  refine lv_aload_n F.1 F.2.1 (dd D_X7_takeAsked 0 rfl) rfl (lv_at hl 0 rfl) ?_
  refine lv_iconst (v := (0 : Int32)) F.1 F.2.1 (dd D_X7_takeAsked 1 rfl) ki_0 ?_
  refine lv_sipush (v := (9999 : Int32)) F.1 F.2.1 (dd D_X7_takeAsked 2 rfl) ks_9999 ?_
  obtain ⟨r1, e2, h⟩ := Option.bind_eq_some_iff.mp h
  refine rwe_all (st' := [.int (bI r1.1)]) hD hS hA (rV (rest := []) F (c_X7_takeNumber D cA ax s n (0 : Int32) (9999 : Int32) r1 e2 l H.size) lk_X7_109 (Nat.le_of_ble_eq_true rfl) (preRW hK hS hAb hP hD) (rcv_7 hK hP (q0 := (41)) (xp_41 cA ax s)) rfl hl rfl (Nat.le_of_ble_eq_true rfl) (dd D_X7_takeAsked 3 rfl) ⟨Nat.le_of_ble_eq_true rfl, Nat.le_of_ble_eq_true rfl⟩) rfl (fun H locs hP hD hS => ?_)
  refine x_bif_ne (tgt := 13) F.1 F.2.1 (dd D_X7_takeAsked 4 rfl) rfl h (fun c3 h => ?_) (fun c3 h => ?_)
  · refine lv_aload_n F.1 F.2.1 (dd D_X7_takeAsked 7 rfl) rfl (lv_at hl 1 rfl) ?_
    refine lv_iload_n F.1 F.2.1 (dd D_X7_takeAsked 8 rfl) rfl (lv_at hl 2 rfl) ?_
    refine lv_aload_n F.1 F.2.1 (dd D_X7_takeAsked 9 rfl) rfl (lv_at hl 0 rfl) ?_
    refine getF F hK hP lf_X7_102 (41) (xp_41 cA ax r1.2) rfl (dd D_X7_takeAsked 10 rfl) ?_
    refine rwe (V := none) (wc := (stateW cA (fun i => ax (14+i)) (x_draft r1.2))) (wc' := (stateW cA (fun i => ax (14+i)) (F_X6_setAsked (x_draft r1.2) p2 (tp_value (x_tape r1.2))))) (st' := []) (W' := (xW cA ax (x_set_draft r1.2 (F_X6_setAsked (x_draft r1.2) p2 (tp_value (x_tape r1.2)))))) hP hD hS hA [14, 15, 16, 17, 18, 19, 20, 21, 22, 23, 24, 25, 26] (jc_x_14 cA ax r1.2) (Nat_nd rfl) rfl (rV (rest := []) F (c_X6_setAsked D cA (fun i => ax (14+i)) (x_draft r1.2) p2 (tp_value (x_tape r1.2)) l H.size) lk_X7_113 (Nat.le_of_ble_eq_true rfl) (preRW hK hS hAb (selP (is := [14, 15, 16, 17, 18, 19, 20, 21, 22, 23, 24, 25, 26]) hP (jc_x_14 cA ax r1.2)) (selD (is := [14, 15, 16, 17, 18, 19, 20, 21, 22, 23, 24, 25, 26]) hD (Nat_nd rfl) (jc_x_14 cA ax r1.2))) (rcv_6 hK hP (q0 := (14)) (xp_14 cA ax r1.2)) rfl hl rfl (Nat.le_of_ble_eq_true rfl) (dd D_X7_takeAsked 11 rfl) ⟨Nat.le_of_ble_eq_true rfl, Nat.le_of_ble_eq_true rfl⟩) (js_x_14 cA ax r1.2 (F_X6_setAsked (x_draft r1.2) p2 (tp_value (x_tape r1.2)))) rfl (fun H locs hP hD hS => ?_)
    refine lv_iconst (v := (1 : Int32)) F.1 F.2.1 (dd D_X7_takeAsked 12 rfl) ki_1 ?_
    obtain rfl := Option.some.inj h
    exact rw_z (R := rmOf 3 0 0) F hP hD hS hr rfl hlk ⟨Nat.le_of_ble_eq_true rfl, Nat.le_of_ble_eq_true rfl⟩ ⟨rfl, rfl⟩ (dd D_X7_takeAsked 13 rfl)
  · refine lv_iconst (v := (0 : Int32)) F.1 F.2.1 (dd D_X7_takeAsked 5 rfl) ki_0 ?_
    obtain rfl := Option.some.inj h
    exact rw_z (R := rmOf 3 0 0) F hP hD hS hr rfl hlk ⟨Nat.le_of_ble_eq_true rfl, Nat.le_of_ble_eq_true rfl⟩ ⟨rfl, rfl⟩ (dd D_X7_takeAsked 6 rfl)
def F_X7_takeNotch (n : Nat) (s : XS) : Option (Bool × XS) := bf (F_X1_isFull (st_hill (x_draft s))) (some (false, s)) ((((F_X7_takeNumber n s (0 : Int32) (179 : Int32))).bind fun r1 => bf r1.1 ((((F_X7_takeNumber n r1.2 (tp_value (x_tape r1.2)) (179 : Int32))).bind fun r3 => bf r3.1 ((((F_X7_takeNumber n r3.2 (0 : Int32) (30 : Int32))).bind fun r5 => bf r5.1 ((((F_X1_add n (st_hill (x_draft r5.2)) (tp_value (x_tape r1.2)) (tp_value (x_tape r3.2)) (tp_value (x_tape r5.2)))).bind fun r7 => some (true, (x_set_draft r5.2 (st_set_hill (x_draft r5.2) r7))))) (some (false, r5.2)))) (some (false, r3.2)))) (some (false, r1.2))))
set_option maxHeartbeats 4000000 in
set_option maxRecDepth 100000 in
theorem c_X7_takeNotch (D : va_G) (cA : Nat → ClassId) (ax : Nat → Nat) (s : XS) (n : Nat)  (r : (Bool × XS)) (h : F_X7_takeNotch n s = some r) : RW m_X7_takeNotch 3 0 0 D cA [.ref (ax 41), .ref (ax 15)] (xW cA ax s) (exq (some (.int (bI r.1))) (xW cA ax r.2)) := by
  refine RW.ofW gy_X7_takeNotch.2.2 (Nat.le_of_ble_eq_true rfl) ?_
  intro l p e sM m below meth c A H locs F hr hlk hnm hK hP hD hS hA hAb ls hl
  have hl : lv_has ls 4 [(0, .ref (ax 41)), (1, .ref (ax 15))] := hl
  unfold F_X7_takeNotch at h
  refine lv_aload_n F.1 F.2.1 (dd D_X7_takeNotch 0 rfl) rfl (lv_at hl 1 rfl) ?_
  refine ro_go (st' := [.int (bI (F_X1_isFull (st_hill (x_draft s))))]) (rV (rest := []) F (c_X1_isFull D cA (fun i => ax (15+i)) (st_hill (x_draft s)) l) lk_X7_117 (Nat.le_of_ble_eq_true rfl) (preRO hK hS hAb (pg_x_15 hP)) (rcv_1 hK hP (q0 := (15)) (xp_15 cA ax s)) rfl hl rfl (Nat.le_of_ble_eq_true rfl) (dd D_X7_takeNotch 1 rfl) ⟨Nat.le_of_ble_eq_true rfl, Nat.le_of_ble_eq_true rfl⟩) rfl ?_
  refine x_bif_ne (tgt := 18) F.1 F.2.1 (dd D_X7_takeNotch 2 rfl) rfl h (fun c12 h => ?_) (fun c12 h => ?_)
  · refine lv_iconst (v := (0 : Int32)) F.1 F.2.1 (dd D_X7_takeNotch 8 rfl) ki_0 ?_
    obtain rfl := Option.some.inj h
    exact rw_z (R := rmOf 3 0 0) F hP hD hS hr rfl hlk ⟨Nat.le_of_ble_eq_true rfl, Nat.le_of_ble_eq_true rfl⟩ ⟨rfl, rfl⟩ (dd D_X7_takeNotch 9 rfl)
  · refine lv_aload_n F.1 F.2.1 (dd D_X7_takeNotch 3 rfl) rfl (lv_at hl 0 rfl) ?_
    refine lv_iconst (v := (0 : Int32)) F.1 F.2.1 (dd D_X7_takeNotch 4 rfl) ki_0 ?_
    refine lv_sipush (v := (179 : Int32)) F.1 F.2.1 (dd D_X7_takeNotch 5 rfl) ks_179 ?_
    obtain ⟨r1, e2, h⟩ := Option.bind_eq_some_iff.mp h
    refine rwe_all (st' := [.int (bI r1.1)]) hD hS hA (rV (rest := []) F (c_X7_takeNumber D cA ax s n (0 : Int32) (179 : Int32) r1 e2 l H.size) lk_X7_109 (Nat.le_of_ble_eq_true rfl) (preRW hK hS hAb hP hD) (rcv_7 hK hP (q0 := (41)) (xp_41 cA ax s)) rfl hl rfl (Nat.le_of_ble_eq_true rfl) (dd D_X7_takeNotch 6 rfl) ⟨Nat.le_of_ble_eq_true rfl, Nat.le_of_ble_eq_true rfl⟩) rfl (fun H locs hP hD hS => ?_)
    refine x_bif_ne (tgt := 20) F.1 F.2.1 (dd D_X7_takeNotch 7 rfl) rfl h (fun c11 h => ?_) (fun c11 h => ?_)
    · refine lv_aload_n F.1 F.2.1 (dd D_X7_takeNotch 10 rfl) rfl (lv_at hl 0 rfl) ?_
      refine getF F hK hP lf_X7_102 (41) (xp_41 cA ax r1.2) rfl (dd D_X7_takeNotch 11 rfl) ?_
      refine lv_istore_n (lv' := [(2, .int (tp_value (x_tape r1.2))), (0, .ref (ax 41)), (1, .ref (ax 15))]) F.1 F.2.1 (dd D_X7_takeNotch 12 rfl) rfl hl (Nat.le_of_ble_eq_true rfl) rfl (fun ls hl => ?_)
      refine lv_aload_n F.1 F.2.1 (dd D_X7_takeNotch 13 rfl) rfl (lv_at hl 1 rfl) ?_
      refine lv_iload_n F.1 F.2.1 (dd D_X7_takeNotch 14 rfl) rfl (lv_at hl 0 rfl) ?_
      refine lv_sipush (v := (179 : Int32)) F.1 F.2.1 (dd D_X7_takeNotch 15 rfl) ks_179 ?_
      obtain ⟨r3, e4, h⟩ := Option.bind_eq_some_iff.mp h
      refine rwe_all (st' := [.int (bI r3.1)]) hD hS hA (rV (rest := []) F (c_X7_takeNumber D cA ax r1.2 n (tp_value (x_tape r1.2)) (179 : Int32) r3 e4 l H.size) lk_X7_109 (Nat.le_of_ble_eq_true rfl) (preRW hK hS hAb hP hD) (rcv_7 hK hP (q0 := (41)) (xp_41 cA ax r1.2)) rfl hl rfl (Nat.le_of_ble_eq_true rfl) (dd D_X7_takeNotch 16 rfl) ⟨Nat.le_of_ble_eq_true rfl, Nat.le_of_ble_eq_true rfl⟩) rfl (fun H locs hP hD hS => ?_)
      refine x_bif_ne (tgt := 38) F.1 F.2.1 (dd D_X7_takeNotch 17 rfl) rfl h (fun c10 h => ?_) (fun c10 h => ?_)
      · refine lv_aload_n F.1 F.2.1 (dd D_X7_takeNotch 20 rfl) rfl (lv_at hl 1 rfl) ?_
        refine getF F hK hP lf_X7_102 (41) (xp_41 cA ax r3.2) rfl (dd D_X7_takeNotch 21 rfl) ?_
        refine lv_istore_n (lv' := [(3, .int (tp_value (x_tape r3.2))), (2, .int (tp_value (x_tape r1.2))), (0, .ref (ax 41)), (1, .ref (ax 15))]) F.1 F.2.1 (dd D_X7_takeNotch 22 rfl) rfl hl (Nat.le_of_ble_eq_true rfl) rfl (fun ls hl => ?_)
        refine lv_aload_n F.1 F.2.1 (dd D_X7_takeNotch 23 rfl) rfl (lv_at hl 2 rfl) ?_
        refine lv_iconst (v := (0 : Int32)) F.1 F.2.1 (dd D_X7_takeNotch 24 rfl) ki_0 ?_
        refine lv_bipush (v := (30 : Int32)) F.1 F.2.1 (dd D_X7_takeNotch 25 rfl) kb_30 ?_
        obtain ⟨r5, e6, h⟩ := Option.bind_eq_some_iff.mp h
        refine rwe_all (st' := [.int (bI r5.1)]) hD hS hA (rV (rest := []) F (c_X7_takeNumber D cA ax r3.2 n (0 : Int32) (30 : Int32) r5 e6 l H.size) lk_X7_109 (Nat.le_of_ble_eq_true rfl) (preRW hK hS hAb hP hD) (rcv_7 hK hP (q0 := (41)) (xp_41 cA ax r3.2)) rfl hl rfl (Nat.le_of_ble_eq_true rfl) (dd D_X7_takeNotch 26 rfl) ⟨Nat.le_of_ble_eq_true rfl, Nat.le_of_ble_eq_true rfl⟩) rfl (fun H locs hP hD hS => ?_)
        refine x_bif_ne (tgt := 55) F.1 F.2.1 (dd D_X7_takeNotch 27 rfl) rfl h (fun c9 h => ?_) (fun c9 h => ?_)
        · refine lv_aload_n F.1 F.2.1 (dd D_X7_takeNotch 30 rfl) rfl (lv_at hl 3 rfl) ?_
          refine lv_iload_n F.1 F.2.1 (dd D_X7_takeNotch 31 rfl) rfl (lv_at hl 1 rfl) ?_
          refine lv_iload_n F.1 F.2.1 (dd D_X7_takeNotch 32 rfl) rfl (lv_at hl 0 rfl) ?_
          refine lv_aload_n F.1 F.2.1 (dd D_X7_takeNotch 33 rfl) rfl (lv_at hl 2 rfl) ?_
          refine getF F hK hP lf_X7_102 (41) (xp_41 cA ax r5.2) rfl (dd D_X7_takeNotch 34 rfl) ?_
          obtain ⟨r7, e8, h⟩ := Option.bind_eq_some_iff.mp h
          refine rwe (V := none) (wc := (hillW cA (fun i => ax (15+i)) (st_hill (x_draft r5.2)))) (wc' := (hillW cA (fun i => ax (15+i)) r7)) (st' := []) (W' := (xW cA ax (x_set_draft r5.2 (st_set_hill (x_draft r5.2) r7)))) hP hD hS hA [15, 16, 17, 18, 19, 20, 21, 22] (jc_x_15 cA ax r5.2) (Nat_nd rfl) rfl (rV (rest := []) F (c_X1_add D cA (fun i => ax (15+i)) (st_hill (x_draft r5.2)) n (tp_value (x_tape r1.2)) (tp_value (x_tape r3.2)) (tp_value (x_tape r5.2)) r7 e8 l H.size) lk_X7_123 (Nat.le_of_ble_eq_true rfl) (preRW hK hS hAb (selP (is := [15, 16, 17, 18, 19, 20, 21, 22]) hP (jc_x_15 cA ax r5.2)) (selD (is := [15, 16, 17, 18, 19, 20, 21, 22]) hD (Nat_nd rfl) (jc_x_15 cA ax r5.2))) (rcv_1 hK hP (q0 := (15)) (xp_15 cA ax r5.2)) rfl hl rfl (Nat.le_of_ble_eq_true rfl) (dd D_X7_takeNotch 35 rfl) ⟨Nat.le_of_ble_eq_true rfl, Nat.le_of_ble_eq_true rfl⟩) (js_x_15 cA ax r5.2 r7) rfl (fun H locs hP hD hS => ?_)
          refine lv_iconst (v := (1 : Int32)) F.1 F.2.1 (dd D_X7_takeNotch 36 rfl) ki_1 ?_
          obtain rfl := Option.some.inj h
          exact rw_z (R := rmOf 3 0 0) F hP hD hS hr rfl hlk ⟨Nat.le_of_ble_eq_true rfl, Nat.le_of_ble_eq_true rfl⟩ ⟨rfl, rfl⟩ (dd D_X7_takeNotch 37 rfl)
        · refine lv_iconst (v := (0 : Int32)) F.1 F.2.1 (dd D_X7_takeNotch 28 rfl) ki_0 ?_
          obtain rfl := Option.some.inj h
          exact rw_z (R := rmOf 3 0 0) F hP hD hS hr rfl hlk ⟨Nat.le_of_ble_eq_true rfl, Nat.le_of_ble_eq_true rfl⟩ ⟨rfl, rfl⟩ (dd D_X7_takeNotch 29 rfl)
      · refine lv_iconst (v := (0 : Int32)) F.1 F.2.1 (dd D_X7_takeNotch 18 rfl) ki_0 ?_
        obtain rfl := Option.some.inj h
        exact rw_z (R := rmOf 3 0 0) F hP hD hS hr rfl hlk ⟨Nat.le_of_ble_eq_true rfl, Nat.le_of_ble_eq_true rfl⟩ ⟨rfl, rfl⟩ (dd D_X7_takeNotch 19 rfl)
    · refine lv_iconst (v := (0 : Int32)) F.1 F.2.1 (dd D_X7_takeNotch 8 rfl) ki_0 ?_
      obtain rfl := Option.some.inj h
      exact rw_z (R := rmOf 3 0 0) F hP hD hS hr rfl hlk ⟨Nat.le_of_ble_eq_true rfl, Nat.le_of_ble_eq_true rfl⟩ ⟨rfl, rfl⟩ (dd D_X7_takeNotch 9 rfl)
def F_X7_takeStone (n : Nat) (s : XS) : Option (Bool × XS) := bf (F_X0_isFull 6 (st_stones (x_draft s))) (some (false, s)) ((((F_X7_takeNumber n s (0 : Int32) (179 : Int32))).bind fun r1 => bf r1.1 ((((F_X0_add n 6 (st_stones (x_draft r1.2)) (tp_value (x_tape r1.2)))).bind fun r3 => some (true, (x_set_draft r1.2 (st_set_stones (x_draft r1.2) r3))))) (some (false, r1.2))))
set_option maxHeartbeats 4000000 in
set_option maxRecDepth 100000 in
theorem c_X7_takeStone (D : va_G) (cA : Nat → ClassId) (ax : Nat → Nat) (s : XS) (n : Nat)  (r : (Bool × XS)) (h : F_X7_takeStone n s = some r) : RW m_X7_takeStone 3 0 0 D cA [.ref (ax 41), .ref (ax 23)] (xW cA ax s) (exq (some (.int (bI r.1))) (xW cA ax r.2)) := by
  refine RW.ofW gy_X7_takeStone.2.2 (Nat.le_of_ble_eq_true rfl) ?_
  intro l p e sM m below meth c A H locs F hr hlk hnm hK hP hD hS hA hAb ls hl
  have hl : lv_has ls 2 [(0, .ref (ax 41)), (1, .ref (ax 23))] := hl
  unfold F_X7_takeStone at h
  refine lv_aload_n F.1 F.2.1 (dd D_X7_takeStone 0 rfl) rfl (lv_at hl 1 rfl) ?_
  refine ro_go (st' := [.int (bI (F_X0_isFull 6 (st_stones (x_draft s))))]) (rV (rest := []) F (c_X0_isFull D cA 6 (fun i => ax (23+i)) (st_stones (x_draft s)) l) lk_X7_127 (Nat.le_of_ble_eq_true rfl) (preRO hK hS hAb (pg_x_23 hP)) (rcv_0 hK hP (q0 := (23)) (xp_23 cA ax s)) rfl hl rfl (Nat.le_of_ble_eq_true rfl) (dd D_X7_takeStone 1 rfl) ⟨Nat.le_of_ble_eq_true rfl, Nat.le_of_ble_eq_true rfl⟩) rfl ?_
  refine x_bif_ne (tgt := 18) F.1 F.2.1 (dd D_X7_takeStone 2 rfl) rfl h (fun c6 h => ?_) (fun c6 h => ?_)
  · refine lv_iconst (v := (0 : Int32)) F.1 F.2.1 (dd D_X7_takeStone 8 rfl) ki_0 ?_
    obtain rfl := Option.some.inj h
    exact rw_z (R := rmOf 3 0 0) F hP hD hS hr rfl hlk ⟨Nat.le_of_ble_eq_true rfl, Nat.le_of_ble_eq_true rfl⟩ ⟨rfl, rfl⟩ (dd D_X7_takeStone 9 rfl)
  · refine lv_aload_n F.1 F.2.1 (dd D_X7_takeStone 3 rfl) rfl (lv_at hl 0 rfl) ?_
    refine lv_iconst (v := (0 : Int32)) F.1 F.2.1 (dd D_X7_takeStone 4 rfl) ki_0 ?_
    refine lv_sipush (v := (179 : Int32)) F.1 F.2.1 (dd D_X7_takeStone 5 rfl) ks_179 ?_
    obtain ⟨r1, e2, h⟩ := Option.bind_eq_some_iff.mp h
    refine rwe_all (st' := [.int (bI r1.1)]) hD hS hA (rV (rest := []) F (c_X7_takeNumber D cA ax s n (0 : Int32) (179 : Int32) r1 e2 l H.size) lk_X7_109 (Nat.le_of_ble_eq_true rfl) (preRW hK hS hAb hP hD) (rcv_7 hK hP (q0 := (41)) (xp_41 cA ax s)) rfl hl rfl (Nat.le_of_ble_eq_true rfl) (dd D_X7_takeStone 6 rfl) ⟨Nat.le_of_ble_eq_true rfl, Nat.le_of_ble_eq_true rfl⟩) rfl (fun H locs hP hD hS => ?_)
    refine x_bif_ne (tgt := 20) F.1 F.2.1 (dd D_X7_takeStone 7 rfl) rfl h (fun c5 h => ?_) (fun c5 h => ?_)
    · refine lv_aload_n F.1 F.2.1 (dd D_X7_takeStone 10 rfl) rfl (lv_at hl 1 rfl) ?_
      refine lv_aload_n F.1 F.2.1 (dd D_X7_takeStone 11 rfl) rfl (lv_at hl 0 rfl) ?_
      refine getF F hK hP lf_X7_102 (41) (xp_41 cA ax r1.2) rfl (dd D_X7_takeStone 12 rfl) ?_
      obtain ⟨r3, e4, h⟩ := Option.bind_eq_some_iff.mp h
      refine rwe (V := none) (wc := (fewW cA 6 (fun i => ax (23+i)) (st_stones (x_draft r1.2)))) (wc' := (fewW cA 6 (fun i => ax (23+i)) r3)) (st' := []) (W' := (xW cA ax (x_set_draft r1.2 (st_set_stones (x_draft r1.2) r3)))) hP hD hS hA [23, 24] (jc_x_23 cA ax r1.2) (Nat_nd rfl) rfl (rV (rest := []) F (c_X0_add D cA 6 (fun i => ax (23+i)) (st_stones (x_draft r1.2)) n (tp_value (x_tape r1.2)) r3 e4 l H.size) lk_X7_130 (Nat.le_of_ble_eq_true rfl) (preRW hK hS hAb (selP (is := [23, 24]) hP (jc_x_23 cA ax r1.2)) (selD (is := [23, 24]) hD (Nat_nd rfl) (jc_x_23 cA ax r1.2))) (rcv_0 hK hP (q0 := (23)) (xp_23 cA ax r1.2)) rfl hl rfl (Nat.le_of_ble_eq_true rfl) (dd D_X7_takeStone 13 rfl) ⟨Nat.le_of_ble_eq_true rfl, Nat.le_of_ble_eq_true rfl⟩) (js_x_23 cA ax r1.2 r3) rfl (fun H locs hP hD hS => ?_)
      refine lv_iconst (v := (1 : Int32)) F.1 F.2.1 (dd D_X7_takeStone 14 rfl) ki_1 ?_
      obtain rfl := Option.some.inj h
      exact rw_z (R := rmOf 3 0 0) F hP hD hS hr rfl hlk ⟨Nat.le_of_ble_eq_true rfl, Nat.le_of_ble_eq_true rfl⟩ ⟨rfl, rfl⟩ (dd D_X7_takeStone 15 rfl)
    · refine lv_iconst (v := (0 : Int32)) F.1 F.2.1 (dd D_X7_takeStone 8 rfl) ki_0 ?_
      obtain rfl := Option.some.inj h
      exact rw_z (R := rmOf 3 0 0) F hP hD hS hr rfl hlk ⟨Nat.le_of_ble_eq_true rfl, Nat.le_of_ble_eq_true rfl⟩ ⟨rfl, rfl⟩ (dd D_X7_takeStone 9 rfl)
def F_X7_takeCloud (n : Nat) (s : XS) : Option (Bool × XS) := bf (F_X0_isFull 8 (st_clouds (x_draft s))) (some (false, s)) ((((F_X7_takeNumber n s (0 : Int32) (9999 : Int32))).bind fun r1 => bf r1.1 ((((F_X0_contains n 8 (st_clouds (x_draft r1.2)) (tp_value (x_tape r1.2)))).bind fun r3 => bf r3 (some (false, r1.2)) ((((F_X0_add n 8 (st_clouds (x_draft r1.2)) (tp_value (x_tape r1.2)))).bind fun r5 => some (true, (x_set_draft r1.2 (st_set_clouds (x_draft r1.2) r5))))))) (some (false, r1.2))))
set_option maxHeartbeats 4000000 in
set_option maxRecDepth 100000 in
theorem c_X7_takeCloud (D : va_G) (cA : Nat → ClassId) (ax : Nat → Nat) (s : XS) (n : Nat)  (r : (Bool × XS)) (h : F_X7_takeCloud n s = some r) : RW m_X7_takeCloud 3 0 0 D cA [.ref (ax 41), .ref (ax 25)] (xW cA ax s) (exq (some (.int (bI r.1))) (xW cA ax r.2)) := by
  refine RW.ofW gy_X7_takeCloud.2.2 (Nat.le_of_ble_eq_true rfl) ?_
  intro l p e sM m below meth c A H locs F hr hlk hnm hK hP hD hS hA hAb ls hl
  have hl : lv_has ls 2 [(0, .ref (ax 41)), (1, .ref (ax 25))] := hl
  unfold F_X7_takeCloud at h
  refine lv_aload_n F.1 F.2.1 (dd D_X7_takeCloud 0 rfl) rfl (lv_at hl 1 rfl) ?_
  refine ro_go (st' := [.int (bI (F_X0_isFull 8 (st_clouds (x_draft s))))]) (rV (rest := []) F (c_X0_isFull D cA 8 (fun i => ax (25+i)) (st_clouds (x_draft s)) l) lk_X7_127 (Nat.le_of_ble_eq_true rfl) (preRO hK hS hAb (pg_x_25 hP)) (rcv_0 hK hP (q0 := (25)) (xp_25 cA ax s)) rfl hl rfl (Nat.le_of_ble_eq_true rfl) (dd D_X7_takeCloud 1 rfl) ⟨Nat.le_of_ble_eq_true rfl, Nat.le_of_ble_eq_true rfl⟩) rfl ?_
  refine x_bif_ne (tgt := 29) F.1 F.2.1 (dd D_X7_takeCloud 2 rfl) rfl h (fun c9 h => ?_) (fun c9 h => ?_)
  · refine lv_iconst (v := (0 : Int32)) F.1 F.2.1 (dd D_X7_takeCloud 13 rfl) ki_0 ?_
    obtain rfl := Option.some.inj h
    exact rw_z (R := rmOf 3 0 0) F hP hD hS hr rfl hlk ⟨Nat.le_of_ble_eq_true rfl, Nat.le_of_ble_eq_true rfl⟩ ⟨rfl, rfl⟩ (dd D_X7_takeCloud 14 rfl)
  · refine lv_aload_n F.1 F.2.1 (dd D_X7_takeCloud 3 rfl) rfl (lv_at hl 0 rfl) ?_
    refine lv_iconst (v := (0 : Int32)) F.1 F.2.1 (dd D_X7_takeCloud 4 rfl) ki_0 ?_
    refine lv_sipush (v := (9999 : Int32)) F.1 F.2.1 (dd D_X7_takeCloud 5 rfl) ks_9999 ?_
    obtain ⟨r1, e2, h⟩ := Option.bind_eq_some_iff.mp h
    refine rwe_all (st' := [.int (bI r1.1)]) hD hS hA (rV (rest := []) F (c_X7_takeNumber D cA ax s n (0 : Int32) (9999 : Int32) r1 e2 l H.size) lk_X7_109 (Nat.le_of_ble_eq_true rfl) (preRW hK hS hAb hP hD) (rcv_7 hK hP (q0 := (41)) (xp_41 cA ax s)) rfl hl rfl (Nat.le_of_ble_eq_true rfl) (dd D_X7_takeCloud 6 rfl) ⟨Nat.le_of_ble_eq_true rfl, Nat.le_of_ble_eq_true rfl⟩) rfl (fun H locs hP hD hS => ?_)
    refine x_bif_eq (tgt := 29) F.1 F.2.1 (dd D_X7_takeCloud 7 rfl) rfl h (fun c8 h => ?_) (fun c8 h => ?_)
    · refine lv_iconst (v := (0 : Int32)) F.1 F.2.1 (dd D_X7_takeCloud 13 rfl) ki_0 ?_
      obtain rfl := Option.some.inj h
      exact rw_z (R := rmOf 3 0 0) F hP hD hS hr rfl hlk ⟨Nat.le_of_ble_eq_true rfl, Nat.le_of_ble_eq_true rfl⟩ ⟨rfl, rfl⟩ (dd D_X7_takeCloud 14 rfl)
    · refine lv_aload_n F.1 F.2.1 (dd D_X7_takeCloud 8 rfl) rfl (lv_at hl 1 rfl) ?_
      refine lv_aload_n F.1 F.2.1 (dd D_X7_takeCloud 9 rfl) rfl (lv_at hl 0 rfl) ?_
      refine getF F hK hP lf_X7_102 (41) (xp_41 cA ax r1.2) rfl (dd D_X7_takeCloud 10 rfl) ?_
      obtain ⟨r3, e4, h⟩ := Option.bind_eq_some_iff.mp h
      refine ro_go (st' := [.int (bI r3)]) (rV (rest := []) F (c_X0_contains D cA 8 (fun i => ax (25+i)) (st_clouds (x_draft r1.2)) n (tp_value (x_tape r1.2)) r3 e4 l) lk_X7_133 (Nat.le_of_ble_eq_true rfl) (preRO hK hS hAb (pg_x_25 hP)) (rcv_0 hK hP (q0 := (25)) (xp_25 cA ax r1.2)) rfl hl rfl (Nat.le_of_ble_eq_true rfl) (dd D_X7_takeCloud 11 rfl) ⟨Nat.le_of_ble_eq_true rfl, Nat.le_of_ble_eq_true rfl⟩) rfl ?_
      refine x_bif_eq (tgt := 31) F.1 F.2.1 (dd D_X7_takeCloud 12 rfl) rfl h (fun c7 h => ?_) (fun c7 h => ?_)
      · refine lv_aload_n F.1 F.2.1 (dd D_X7_takeCloud 15 rfl) rfl (lv_at hl 1 rfl) ?_
        refine lv_aload_n F.1 F.2.1 (dd D_X7_takeCloud 16 rfl) rfl (lv_at hl 0 rfl) ?_
        refine getF F hK hP lf_X7_102 (41) (xp_41 cA ax r1.2) rfl (dd D_X7_takeCloud 17 rfl) ?_
        obtain ⟨r5, e6, h⟩ := Option.bind_eq_some_iff.mp h
        refine rwe (V := none) (wc := (fewW cA 8 (fun i => ax (25+i)) (st_clouds (x_draft r1.2)))) (wc' := (fewW cA 8 (fun i => ax (25+i)) r5)) (st' := []) (W' := (xW cA ax (x_set_draft r1.2 (st_set_clouds (x_draft r1.2) r5)))) hP hD hS hA [25, 26] (jc_x_25 cA ax r1.2) (Nat_nd rfl) rfl (rV (rest := []) F (c_X0_add D cA 8 (fun i => ax (25+i)) (st_clouds (x_draft r1.2)) n (tp_value (x_tape r1.2)) r5 e6 l H.size) lk_X7_130 (Nat.le_of_ble_eq_true rfl) (preRW hK hS hAb (selP (is := [25, 26]) hP (jc_x_25 cA ax r1.2)) (selD (is := [25, 26]) hD (Nat_nd rfl) (jc_x_25 cA ax r1.2))) (rcv_0 hK hP (q0 := (25)) (xp_25 cA ax r1.2)) rfl hl rfl (Nat.le_of_ble_eq_true rfl) (dd D_X7_takeCloud 18 rfl) ⟨Nat.le_of_ble_eq_true rfl, Nat.le_of_ble_eq_true rfl⟩) (js_x_25 cA ax r1.2 r5) rfl (fun H locs hP hD hS => ?_)
        refine lv_iconst (v := (1 : Int32)) F.1 F.2.1 (dd D_X7_takeCloud 19 rfl) ki_1 ?_
        obtain rfl := Option.some.inj h
        exact rw_z (R := rmOf 3 0 0) F hP hD hS hr rfl hlk ⟨Nat.le_of_ble_eq_true rfl, Nat.le_of_ble_eq_true rfl⟩ ⟨rfl, rfl⟩ (dd D_X7_takeCloud 20 rfl)
      · refine lv_iconst (v := (0 : Int32)) F.1 F.2.1 (dd D_X7_takeCloud 13 rfl) ki_0 ?_
        obtain rfl := Option.some.inj h
        exact rw_z (R := rmOf 3 0 0) F hP hD hS hr rfl hlk ⟨Nat.le_of_ble_eq_true rfl, Nat.le_of_ble_eq_true rfl⟩ ⟨rfl, rfl⟩ (dd D_X7_takeCloud 14 rfl)
def F_X7_takeStatement (n : Nat) (s : XS) : Option (Bool × XS) := (((F_X7_isWord n s ([111, 102, 102]))).bind fun r3 => bf r3 ((((F_X7_takeAsked n s (0 : Int32))).bind fun r41 => some (r41.1, r41.2))) ((((F_X7_isWord n s ([110, 111, 100, 101]))).bind fun r7 => bf r7 ((((F_X7_takeAsked n s (1 : Int32))).bind fun r38 => some (r38.1, r38.2))) ((((F_X7_isWord n s ([115, 119, 105, 110, 103]))).bind fun r11 => bf r11 ((((F_X7_takeAsked n s (2 : Int32))).bind fun r35 => some (r35.1, r35.2))) ((((F_X7_isWord n s ([110, 111, 116, 99, 104]))).bind fun r15 => bf r15 ((((F_X7_takeNotch n s)).bind fun r32 => some (r32.1, r32.2))) ((((F_X7_isWord n s ([115, 116, 111, 110, 101]))).bind fun r19 => bf r19 ((((F_X7_takeStone n s)).bind fun r29 => some (r29.1, r29.2))) ((((F_X7_isWord n s ([99, 108, 111, 117, 100]))).bind fun r23 => bf r23 ((((F_X7_takeCloud n s)).bind fun r25 => bf r25.1 (some (true, r25.2)) (some (false, r25.2)))) (some (false, s)))))))))))))
set_option maxHeartbeats 4000000 in
set_option maxRecDepth 100000 in
theorem c_X7_takeStatement (D : va_G) (cA : Nat → ClassId) (ax : Nat → Nat) (s : XS) (n : Nat)  (r : (Bool × XS)) (h : F_X7_takeStatement n s = some r) : RW m_X7_takeStatement 6 0 0 D cA [.ref (ax 41), .ref (ax 14)] (xW cA ax s) (exq (some (.int (bI r.1))) (xW cA ax r.2)) := by
  refine RW.ofW gy_X7_takeStatement.2.2 (Nat.le_of_ble_eq_true rfl) ?_
  intro l p e sM m below meth c A H locs F hr hlk hnm hK hP hD hS hA hAb ls hl
  have hl : lv_has ls 2 [(0, .ref (ax 41)), (1, .ref (ax 14))] := hl
  unfold F_X7_takeStatement at h
  refine lv_aload_n F.1 F.2.1 (dd D_X7_takeStatement 0 rfl) rfl (lv_at hl 0 rfl) ?_
  refine ldcStr F hK site_X7_58 (dd D_X7_takeStatement 1 rfl) (fun q1 hE2 => ?_)
  obtain ⟨r3, e4, h⟩ := Option.bind_eq_some_iff.mp h
  refine ro_go (st' := [.int (bI r3)]) (rV (rest := []) F (c_X7_isWord D cA ax s q1 ([111, 102, 102]) (by decide) n r3 e4 l) lk_X7_60 (Nat.le_of_ble_eq_true rfl) (preStr hK hS hAb hP hE2) (rcv_7 hK hP (q0 := (41)) (xp_41 cA ax s)) rfl hl rfl (Nat.le_of_ble_eq_true rfl) (dd D_X7_takeStatement 2 rfl) ⟨Nat.le_of_ble_eq_true rfl, Nat.le_of_ble_eq_true rfl⟩) rfl ?_
  refine x_bif_eq (tgt := 16) F.1 F.2.1 (dd D_X7_takeStatement 3 rfl) rfl h (fun c43 h => ?_) (fun c43 h => ?_)
  · refine lv_aload_n F.1 F.2.1 (dd D_X7_takeStatement 9 rfl) rfl (lv_at hl 0 rfl) ?_
    refine ldcStr F hK site_X7_68 (dd D_X7_takeStatement 10 rfl) (fun q5 hE6 => ?_)
    obtain ⟨r7, e8, h⟩ := Option.bind_eq_some_iff.mp h
    refine ro_go (st' := [.int (bI r7)]) (rV (rest := []) F (c_X7_isWord D cA ax s q5 ([110, 111, 100, 101]) (by decide) n r7 e8 l) lk_X7_60 (Nat.le_of_ble_eq_true rfl) (preStr hK hS hAb hP hE6) (rcv_7 hK hP (q0 := (41)) (xp_41 cA ax s)) rfl hl rfl (Nat.le_of_ble_eq_true rfl) (dd D_X7_takeStatement 11 rfl) ⟨Nat.le_of_ble_eq_true rfl, Nat.le_of_ble_eq_true rfl⟩) rfl ?_
    refine x_bif_eq (tgt := 32) F.1 F.2.1 (dd D_X7_takeStatement 12 rfl) rfl h (fun c40 h => ?_) (fun c40 h => ?_)
    · refine lv_aload_n F.1 F.2.1 (dd D_X7_takeStatement 18 rfl) rfl (lv_at hl 0 rfl) ?_
      refine ldcStr F hK site_X7_70 (dd D_X7_takeStatement 19 rfl) (fun q9 hE10 => ?_)
      obtain ⟨r11, e12, h⟩ := Option.bind_eq_some_iff.mp h
      refine ro_go (st' := [.int (bI r11)]) (rV (rest := []) F (c_X7_isWord D cA ax s q9 ([115, 119, 105, 110, 103]) (by decide) n r11 e12 l) lk_X7_60 (Nat.le_of_ble_eq_true rfl) (preStr hK hS hAb hP hE10) (rcv_7 hK hP (q0 := (41)) (xp_41 cA ax s)) rfl hl rfl (Nat.le_of_ble_eq_true rfl) (dd D_X7_takeStatement 20 rfl) ⟨Nat.le_of_ble_eq_true rfl, Nat.le_of_ble_eq_true rfl⟩) rfl ?_
      refine x_bif_eq (tgt := 48) F.1 F.2.1 (dd D_X7_takeStatement 21 rfl) rfl h (fun c37 h => ?_) (fun c37 h => ?_)
      · refine lv_aload_n F.1 F.2.1 (dd D_X7_takeStatement 27 rfl) rfl (lv_at hl 0 rfl) ?_
        refine ldcStr F hK site_X7_72 (dd D_X7_takeStatement 28 rfl) (fun q13 hE14 => ?_)
        obtain ⟨r15, e16, h⟩ := Option.bind_eq_some_iff.mp h
        refine ro_go (st' := [.int (bI r15)]) (rV (rest := []) F (c_X7_isWord D cA ax s q13 ([110, 111, 116, 99, 104]) (by decide) n r15 e16 l) lk_X7_60 (Nat.le_of_ble_eq_true rfl) (preStr hK hS hAb hP hE14) (rcv_7 hK hP (q0 := (41)) (xp_41 cA ax s)) rfl hl rfl (Nat.le_of_ble_eq_true rfl) (dd D_X7_takeStatement 29 rfl) ⟨Nat.le_of_ble_eq_true rfl, Nat.le_of_ble_eq_true rfl⟩) rfl ?_
        refine x_bif_eq (tgt := 66) F.1 F.2.1 (dd D_X7_takeStatement 30 rfl) rfl h (fun c34 h => ?_) (fun c34 h => ?_)
        · refine lv_aload_n F.1 F.2.1 (dd D_X7_takeStatement 36 rfl) rfl (lv_at hl 0 rfl) ?_
          refine ldcStr F hK site_X7_84 (dd D_X7_takeStatement 37 rfl) (fun q17 hE18 => ?_)
          obtain ⟨r19, e20, h⟩ := Option.bind_eq_some_iff.mp h
          refine ro_go (st' := [.int (bI r19)]) (rV (rest := []) F (c_X7_isWord D cA ax s q17 ([115, 116, 111, 110, 101]) (by decide) n r19 e20 l) lk_X7_60 (Nat.le_of_ble_eq_true rfl) (preStr hK hS hAb hP hE18) (rcv_7 hK hP (q0 := (41)) (xp_41 cA ax s)) rfl hl rfl (Nat.le_of_ble_eq_true rfl) (dd D_X7_takeStatement 38 rfl) ⟨Nat.le_of_ble_eq_true rfl, Nat.le_of_ble_eq_true rfl⟩) rfl ?_
          refine x_bif_eq (tgt := 84) F.1 F.2.1 (dd D_X7_takeStatement 39 rfl) rfl h (fun c31 h => ?_) (fun c31 h => ?_)
          · refine lv_aload_n F.1 F.2.1 (dd D_X7_takeStatement 45 rfl) rfl (lv_at hl 0 rfl) ?_
            refine ldcStr F hK site_X7_94 (dd D_X7_takeStatement 46 rfl) (fun q21 hE22 => ?_)
            obtain ⟨r23, e24, h⟩ := Option.bind_eq_some_iff.mp h
            refine ro_go (st' := [.int (bI r23)]) (rV (rest := []) F (c_X7_isWord D cA ax s q21 ([99, 108, 111, 117, 100]) (by decide) n r23 e24 l) lk_X7_60 (Nat.le_of_ble_eq_true rfl) (preStr hK hS hAb hP hE22) (rcv_7 hK hP (q0 := (41)) (xp_41 cA ax s)) rfl hl rfl (Nat.le_of_ble_eq_true rfl) (dd D_X7_takeStatement 47 rfl) ⟨Nat.le_of_ble_eq_true rfl, Nat.le_of_ble_eq_true rfl⟩) rfl ?_
            refine x_bif_eq (tgt := 108) F.1 F.2.1 (dd D_X7_takeStatement 48 rfl) rfl h (fun c28 h => ?_) (fun c28 h => ?_)
            · refine lv_iconst (v := (0 : Int32)) F.1 F.2.1 (dd D_X7_takeStatement 56 rfl) ki_0 ?_
              obtain rfl := Option.some.inj h
              exact rw_z (R := rmOf 6 0 0) F hP hD hS hr rfl hlk ⟨Nat.le_of_ble_eq_true rfl, Nat.le_of_ble_eq_true rfl⟩ ⟨rfl, rfl⟩ (dd D_X7_takeStatement 57 rfl)
            · refine lv_aload_n F.1 F.2.1 (dd D_X7_takeStatement 49 rfl) rfl (lv_at hl 0 rfl) ?_
              refine lv_aload_n F.1 F.2.1 (dd D_X7_takeStatement 50 rfl) rfl (lv_at hl 1 rfl) ?_
              refine getF F hK hP lf_X7_96 (14) (xp_14 cA ax s) rfl (dd D_X7_takeStatement 51 rfl) ?_
              obtain ⟨r25, e26, h⟩ := Option.bind_eq_some_iff.mp h
              refine rwe_all (st' := [.int (bI r25.1)]) hD hS hA (rV (rest := []) F (c_X7_takeCloud D cA ax s n r25 e26 l H.size) lk_X7_99 (Nat.le_of_ble_eq_true rfl) (preRW hK hS hAb hP hD) (rcv_7 hK hP (q0 := (41)) (xp_41 cA ax s)) rfl hl rfl (Nat.le_of_ble_eq_true rfl) (dd D_X7_takeStatement 52 rfl) ⟨Nat.le_of_ble_eq_true rfl, Nat.le_of_ble_eq_true rfl⟩) rfl (fun H locs hP hD hS => ?_)
              refine x_bif_eq (tgt := 108) F.1 F.2.1 (dd D_X7_takeStatement 53 rfl) rfl h (fun c27 h => ?_) (fun c27 h => ?_)
              · refine lv_iconst (v := (0 : Int32)) F.1 F.2.1 (dd D_X7_takeStatement 56 rfl) ki_0 ?_
                obtain rfl := Option.some.inj h
                exact rw_z (R := rmOf 6 0 0) F hP hD hS hr rfl hlk ⟨Nat.le_of_ble_eq_true rfl, Nat.le_of_ble_eq_true rfl⟩ ⟨rfl, rfl⟩ (dd D_X7_takeStatement 57 rfl)
              · refine lv_iconst (v := (1 : Int32)) F.1 F.2.1 (dd D_X7_takeStatement 54 rfl) ki_1 ?_
                refine lv_goto (tgt := 109) F.1 F.2.1 (dd D_X7_takeStatement 55 rfl) rfl ?_
                obtain rfl := Option.some.inj h
                exact rw_z (R := rmOf 6 0 0) F hP hD hS hr rfl hlk ⟨Nat.le_of_ble_eq_true rfl, Nat.le_of_ble_eq_true rfl⟩ ⟨rfl, rfl⟩ (dd D_X7_takeStatement 57 rfl)
          · refine lv_aload_n F.1 F.2.1 (dd D_X7_takeStatement 40 rfl) rfl (lv_at hl 0 rfl) ?_
            refine lv_aload_n F.1 F.2.1 (dd D_X7_takeStatement 41 rfl) rfl (lv_at hl 1 rfl) ?_
            refine getF F hK hP lf_X7_86 (14) (xp_14 cA ax s) rfl (dd D_X7_takeStatement 42 rfl) ?_
            obtain ⟨r29, e30, h⟩ := Option.bind_eq_some_iff.mp h
            refine rwe_all (st' := [.int (bI r29.1)]) hD hS hA (rV (rest := []) F (c_X7_takeStone D cA ax s n r29 e30 l H.size) lk_X7_90 (Nat.le_of_ble_eq_true rfl) (preRW hK hS hAb hP hD) (rcv_7 hK hP (q0 := (41)) (xp_41 cA ax s)) rfl hl rfl (Nat.le_of_ble_eq_true rfl) (dd D_X7_takeStatement 43 rfl) ⟨Nat.le_of_ble_eq_true rfl, Nat.le_of_ble_eq_true rfl⟩) rfl (fun H locs hP hD hS => ?_)
            obtain rfl := Option.some.inj h
            exact rw_z (R := rmOf 6 0 0) F hP hD hS hr (bI_nar _) hlk ⟨Nat.le_of_ble_eq_true rfl, Nat.le_of_ble_eq_true rfl⟩ ⟨rfl, rfl⟩ (dd D_X7_takeStatement 44 rfl)
        · refine lv_aload_n F.1 F.2.1 (dd D_X7_takeStatement 31 rfl) rfl (lv_at hl 0 rfl) ?_
          refine lv_aload_n F.1 F.2.1 (dd D_X7_takeStatement 32 rfl) rfl (lv_at hl 1 rfl) ?_
          refine getF F hK hP lf_X7_74 (14) (xp_14 cA ax s) rfl (dd D_X7_takeStatement 33 rfl) ?_
          obtain ⟨r32, e33, h⟩ := Option.bind_eq_some_iff.mp h
          refine rwe_all (st' := [.int (bI r32.1)]) hD hS hA (rV (rest := []) F (c_X7_takeNotch D cA ax s n r32 e33 l H.size) lk_X7_80 (Nat.le_of_ble_eq_true rfl) (preRW hK hS hAb hP hD) (rcv_7 hK hP (q0 := (41)) (xp_41 cA ax s)) rfl hl rfl (Nat.le_of_ble_eq_true rfl) (dd D_X7_takeStatement 34 rfl) ⟨Nat.le_of_ble_eq_true rfl, Nat.le_of_ble_eq_true rfl⟩) rfl (fun H locs hP hD hS => ?_)
          obtain rfl := Option.some.inj h
          exact rw_z (R := rmOf 6 0 0) F hP hD hS hr (bI_nar _) hlk ⟨Nat.le_of_ble_eq_true rfl, Nat.le_of_ble_eq_true rfl⟩ ⟨rfl, rfl⟩ (dd D_X7_takeStatement 35 rfl)
      · refine lv_aload_n F.1 F.2.1 (dd D_X7_takeStatement 22 rfl) rfl (lv_at hl 0 rfl) ?_
        refine lv_aload_n F.1 F.2.1 (dd D_X7_takeStatement 23 rfl) rfl (lv_at hl 1 rfl) ?_
        refine lv_iconst (v := (2 : Int32)) F.1 F.2.1 (dd D_X7_takeStatement 24 rfl) ki_2 ?_
        obtain ⟨r35, e36, h⟩ := Option.bind_eq_some_iff.mp h
        refine rwe_all (st' := [.int (bI r35.1)]) hD hS hA (rV (rest := []) F (c_X7_takeAsked D cA ax s n (2 : Int32) r35 e36 l H.size) lk_X7_64 (Nat.le_of_ble_eq_true rfl) (preRW hK hS hAb hP hD) (rcv_7 hK hP (q0 := (41)) (xp_41 cA ax s)) rfl hl rfl (Nat.le_of_ble_eq_true rfl) (dd D_X7_takeStatement 25 rfl) ⟨Nat.le_of_ble_eq_true rfl, Nat.le_of_ble_eq_true rfl⟩) rfl (fun H locs hP hD hS => ?_)
        obtain rfl := Option.some.inj h
        exact rw_z (R := rmOf 6 0 0) F hP hD hS hr (bI_nar _) hlk ⟨Nat.le_of_ble_eq_true rfl, Nat.le_of_ble_eq_true rfl⟩ ⟨rfl, rfl⟩ (dd D_X7_takeStatement 26 rfl)
    · refine lv_aload_n F.1 F.2.1 (dd D_X7_takeStatement 13 rfl) rfl (lv_at hl 0 rfl) ?_
      refine lv_aload_n F.1 F.2.1 (dd D_X7_takeStatement 14 rfl) rfl (lv_at hl 1 rfl) ?_
      refine lv_iconst (v := (1 : Int32)) F.1 F.2.1 (dd D_X7_takeStatement 15 rfl) ki_1 ?_
      obtain ⟨r38, e39, h⟩ := Option.bind_eq_some_iff.mp h
      refine rwe_all (st' := [.int (bI r38.1)]) hD hS hA (rV (rest := []) F (c_X7_takeAsked D cA ax s n (1 : Int32) r38 e39 l H.size) lk_X7_64 (Nat.le_of_ble_eq_true rfl) (preRW hK hS hAb hP hD) (rcv_7 hK hP (q0 := (41)) (xp_41 cA ax s)) rfl hl rfl (Nat.le_of_ble_eq_true rfl) (dd D_X7_takeStatement 16 rfl) ⟨Nat.le_of_ble_eq_true rfl, Nat.le_of_ble_eq_true rfl⟩) rfl (fun H locs hP hD hS => ?_)
      obtain rfl := Option.some.inj h
      exact rw_z (R := rmOf 6 0 0) F hP hD hS hr (bI_nar _) hlk ⟨Nat.le_of_ble_eq_true rfl, Nat.le_of_ble_eq_true rfl⟩ ⟨rfl, rfl⟩ (dd D_X7_takeStatement 17 rfl)
  · refine lv_aload_n F.1 F.2.1 (dd D_X7_takeStatement 4 rfl) rfl (lv_at hl 0 rfl) ?_
    refine lv_aload_n F.1 F.2.1 (dd D_X7_takeStatement 5 rfl) rfl (lv_at hl 1 rfl) ?_
    refine lv_iconst (v := (0 : Int32)) F.1 F.2.1 (dd D_X7_takeStatement 6 rfl) ki_0 ?_
    obtain ⟨r41, e42, h⟩ := Option.bind_eq_some_iff.mp h
    refine rwe_all (st' := [.int (bI r41.1)]) hD hS hA (rV (rest := []) F (c_X7_takeAsked D cA ax s n (0 : Int32) r41 e42 l H.size) lk_X7_64 (Nat.le_of_ble_eq_true rfl) (preRW hK hS hAb hP hD) (rcv_7 hK hP (q0 := (41)) (xp_41 cA ax s)) rfl hl rfl (Nat.le_of_ble_eq_true rfl) (dd D_X7_takeStatement 7 rfl) ⟨Nat.le_of_ble_eq_true rfl, Nat.le_of_ble_eq_true rfl⟩) rfl (fun H locs hP hD hS => ?_)
    obtain rfl := Option.some.inj h
    exact rw_z (R := rmOf 6 0 0) F hP hD hS hr (bI_nar _) hlk ⟨Nat.le_of_ble_eq_true rfl, Nat.le_of_ble_eq_true rfl⟩ ⟨rfl, rfl⟩ (dd D_X7_takeStatement 8 rfl)
def F_X7_read_L7 (n : Nat)  : Nat → Int32 → XS → Option (Int32 × XS)
  | 0, _, _ => none
  | kf + 1, w2, u0 => (if (250 : Int32) < w2 then some ((-1 : Int32), u0) else (((F_X7_step n u0)).bind fun r2 => (((F_X7_takeStatement n r2)).bind fun r4 => bf r4.1 ((((F_X7_step n r4.2)).bind fun r6 => (if (tp_token (x_tape r6)) = 0 then some (w2, r6) else (if (tp_token (x_tape r6)) = (3 : Int32) then F_X7_read_L7 n kf (w2 + (1 : Int32)) r6 else some ((-1 : Int32), r6))))) (some ((-1 : Int32), r4.2)))))
def F_X7_read (n : Nat) (s : XS) : Option (Int32 × XS) := F_X7_read_L7 n n (1 : Int32) (x_set_tape s (tp_set_fin (x_tape s) (0 : Int32)))
set_option maxHeartbeats 4000000 in
set_option maxRecDepth 100000 in
theorem c_X7_read (D : va_G) (cA : Nat → ClassId) (ax : Nat → Nat) (s : XS) (n : Nat)  (r : (Int32 × XS)) (h : F_X7_read n s = some r) : RW m_X7_read 7 0 0 D cA [.ref (ax 41), .ref (ax 14)] (xW cA ax s) (exq (some (.int r.1)) (xW cA ax r.2)) := by
  refine RW.ofW gy_X7_read.2.2 (Nat.le_of_ble_eq_true rfl) ?_
  intro l p e sM m below meth c A H locs F hr hlk hnm hK hP hD hS hA hAb ls hl
  have hl : lv_has ls 3 [(0, .ref (ax 41)), (1, .ref (ax 14))] := hl
  unfold F_X7_read at h
  refine lv_aload_n F.1 F.2.1 (dd D_X7_read 0 rfl) rfl (lv_at hl 0 rfl) ?_
  refine lv_iconst (v := (0 : Int32)) F.1 F.2.1 (dd D_X7_read 1 rfl) ki_0 ?_
  refine putF F hK hP hD hS lp_X7_22 (41) (xp_41 cA ax s) (Nat.le_of_ble_eq_true rfl) (nar_int _) (fit_int _) (ws' := (xW cA ax (x_set_tape s (tp_set_fin (x_tape s) (0 : Int32))))) (xs_41_4 cA ax s (0 : Int32)) (dd D_X7_read 2 rfl) (fun H locs hP hD hS => ?_)
  refine lv_iconst (v := (1 : Int32)) F.1 F.2.1 (dd D_X7_read 3 rfl) ki_1 ?_
  refine lv_istore_n (lv' := [(2, .int (1 : Int32)), (0, .ref (ax 41)), (1, .ref (ax 14))]) F.1 F.2.1 (dd D_X7_read 4 rfl) rfl hl (Nat.le_of_ble_eq_true rfl) rfl (fun ls hl => ?_)
  have L11 : ∀ (kf : Nat) (w2_L11 : Int32) (u0_L11 : XS) (H : Heap) (locs : List Loc) (ls : Array Slot), va_P D vwCl (xW cA ax u0_L11) H → va_D A (xW cA ax u0_L11) → va_S A sM.heap H locs → lv_has ls 3 [(0, .ref (ax 41)), (1, .ref (ax 14)), (2, .int w2_L11)] → F_X7_read_L7 n kf w2_L11 u0_L11 = some r → Wrw 7 0 0 D A (exq (some (.int r.1)) (xW cA ax r.2)) p l e sM m ([.ref (ax 41), .ref (ax 14)] : List Value).toArray below meth c H locs 0 0 7 ls [] := by
    intro kf
    induction kf with
    | zero =>
      intro w2_L11 u0_L11 H locs ls hP hD hS hl h
      cases (show none = some r from h)
    | succ k_L11 ih_L11 =>
      intro w2_L11 u0_L11 H locs ls hP hD hS hl h
      unfold F_X7_read_L7 at h
      refine lv_iload_n F.1 F.2.1 (dd D_X7_read 5 rfl) rfl (lv_at hl 2 rfl) ?_
      refine lv_sipush (v := (250 : Int32)) F.1 F.2.1 (dd D_X7_read 6 rfl) ks_250 ?_
      refine x_icmp_gt (tgt := 57) F.1 F.2.1 (dd D_X7_read 7 rfl) rfl h (fun c12 h => ?_) (fun c12 h => ?_)
      · refine lv_iconst (v := (-1 : Int32)) F.1 F.2.1 (dd D_X7_read 31 rfl) ki_m1 ?_
        obtain rfl := Option.some.inj h
        exact rw_i (R := rmOf 7 0 0) F hP hD hS hr hlk ⟨Nat.le_of_ble_eq_true rfl, Nat.le_of_ble_eq_true rfl⟩ ⟨rfl, rfl⟩ (dd D_X7_read 32 rfl)
      · refine lv_aload_n F.1 F.2.1 (dd D_X7_read 8 rfl) rfl (lv_at hl 0 rfl) ?_
        obtain ⟨r13, e14, h⟩ := Option.bind_eq_some_iff.mp h
        refine rwe_all (st' := []) hD hS hA (rV (rest := []) F (c_X7_step D cA ax u0_L11 n r13 e14 l H.size) lk_X7_25 (Nat.le_of_ble_eq_true rfl) (preRW hK hS hAb hP hD) (rcv_7 hK hP (q0 := (41)) (xp_41 cA ax u0_L11)) rfl hl rfl (Nat.le_of_ble_eq_true rfl) (dd D_X7_read 9 rfl) ⟨Nat.le_of_ble_eq_true rfl, Nat.le_of_ble_eq_true rfl⟩) rfl (fun H locs hP hD hS => ?_)
        refine lv_aload_n F.1 F.2.1 (dd D_X7_read 10 rfl) rfl (lv_at hl 0 rfl) ?_
        refine lv_aload_n F.1 F.2.1 (dd D_X7_read 11 rfl) rfl (lv_at hl 1 rfl) ?_
        obtain ⟨r15, e16, h⟩ := Option.bind_eq_some_iff.mp h
        refine rwe_all (st' := [.int (bI r15.1)]) hD hS hA (rV (rest := []) F (c_X7_takeStatement D cA ax r13 n r15 e16 l H.size) lk_X7_28 (Nat.le_of_ble_eq_true rfl) (preRW hK hS hAb hP hD) (rcv_7 hK hP (q0 := (41)) (xp_41 cA ax r13)) rfl hl rfl (Nat.le_of_ble_eq_true rfl) (dd D_X7_read 12 rfl) ⟨Nat.le_of_ble_eq_true rfl, Nat.le_of_ble_eq_true rfl⟩) rfl (fun H locs hP hD hS => ?_)
        refine x_bif_ne (tgt := 28) F.1 F.2.1 (dd D_X7_read 13 rfl) rfl h (fun c21 h => ?_) (fun c21 h => ?_)
        · refine lv_aload_n F.1 F.2.1 (dd D_X7_read 16 rfl) rfl (lv_at hl 0 rfl) ?_
          obtain ⟨r17, e18, h⟩ := Option.bind_eq_some_iff.mp h
          refine rwe_all (st' := []) hD hS hA (rV (rest := []) F (c_X7_step D cA ax r15.2 n r17 e18 l H.size) lk_X7_25 (Nat.le_of_ble_eq_true rfl) (preRW hK hS hAb hP hD) (rcv_7 hK hP (q0 := (41)) (xp_41 cA ax r15.2)) rfl hl rfl (Nat.le_of_ble_eq_true rfl) (dd D_X7_read 17 rfl) ⟨Nat.le_of_ble_eq_true rfl, Nat.le_of_ble_eq_true rfl⟩) rfl (fun H locs hP hD hS => ?_)
          refine lv_aload_n F.1 F.2.1 (dd D_X7_read 18 rfl) rfl (lv_at hl 0 rfl) ?_
          refine getF F hK hP lf_X7_32 (41) (xp_41 cA ax r17) rfl (dd D_X7_read 19 rfl) ?_
          refine x_if_ne (tgt := 41) F.1 F.2.1 (dd D_X7_read 20 rfl) rfl h (fun c19 h => ?_) (fun c19 h => ?_)
          · refine lv_aload_n F.1 F.2.1 (dd D_X7_read 23 rfl) rfl (lv_at hl 0 rfl) ?_
            refine getF F hK hP lf_X7_32 (41) (xp_41 cA ax r17) rfl (dd D_X7_read 24 rfl) ?_
            refine lv_iconst (v := (3 : Int32)) F.1 F.2.1 (dd D_X7_read 25 rfl) ki_3 ?_
            refine x_icmp_eq (tgt := 51) F.1 F.2.1 (dd D_X7_read 26 rfl) rfl h (fun c20 h => ?_) (fun c20 h => ?_)
            · refine lv_iinc (v := (w2_L11 + (1 : Int32))) (lv' := [(2, .int (w2_L11 + (1 : Int32))), (0, .ref (ax 41)), (1, .ref (ax 14))]) F.1 F.2.1 (dd D_X7_read 29 rfl) hl (k := 2) rfl (congrArg (fun z => w2_L11 + z) ki_1) (Nat.le_of_ble_eq_true rfl) rfl (fun ls hl => ?_)
              refine lv_goto (tgt := 7) F.1 F.2.1 (dd D_X7_read 30 rfl) rfl ?_
              exact ih_L11 (w2_L11 + (1 : Int32)) r17 _ _ ls hP hD hS (lv_sub hl [1, 2, 0] rfl) h
            · refine lv_iconst (v := (-1 : Int32)) F.1 F.2.1 (dd D_X7_read 27 rfl) ki_m1 ?_
              obtain rfl := Option.some.inj h
              exact rw_i (R := rmOf 7 0 0) F hP hD hS hr hlk ⟨Nat.le_of_ble_eq_true rfl, Nat.le_of_ble_eq_true rfl⟩ ⟨rfl, rfl⟩ (dd D_X7_read 28 rfl)
          · refine lv_iload_n F.1 F.2.1 (dd D_X7_read 21 rfl) rfl (lv_at hl 2 rfl) ?_
            obtain rfl := Option.some.inj h
            exact rw_i (R := rmOf 7 0 0) F hP hD hS hr hlk ⟨Nat.le_of_ble_eq_true rfl, Nat.le_of_ble_eq_true rfl⟩ ⟨rfl, rfl⟩ (dd D_X7_read 22 rfl)
        · refine lv_iconst (v := (-1 : Int32)) F.1 F.2.1 (dd D_X7_read 14 rfl) ki_m1 ?_
          obtain rfl := Option.some.inj h
          exact rw_i (R := rmOf 7 0 0) F hP hD hS hr hlk ⟨Nat.le_of_ble_eq_true rfl, Nat.le_of_ble_eq_true rfl⟩ ⟨rfl, rfl⟩ (dd D_X7_read 15 rfl)
  exact L11 n (1 : Int32) (x_set_tape s (tp_set_fin (x_tape s) (0 : Int32))) _ _ ls hP hD hS (lv_sub hl [1, 2, 0] rfl) h
