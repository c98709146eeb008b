def F_X2_lastOf (p0 : Int32) (p1 : Int32) : Int32 := ((F_J9_min_7cf53 ((p0 + p1) - (1 : Int32)) (9999 : Int32)))
set_option maxHeartbeats 4000000 in
set_option maxRecDepth 100000 in
theorem c_X2_lastOf (D : va_G) (cA : Nat → ClassId)  (p0 : Int32) (p1 : Int32) : RO m_X2_lastOf 1 D cA [.int p0, .int p1] [] (some (.int (F_X2_lastOf p0 p1))) := by
  obtain ⟨r, h⟩ : ∃ r, F_X2_lastOf p0 p1 = r := ⟨_, rfl⟩
  rw [h]
  refine RO.ofW gy_X2_lastOf.2.2 (Nat.le_of_ble_eq_true rfl) ?_
  intro l p e sM m below meth c F hr hlk hK hP hS hAb ls hl
  have hl : lv_has ls 2 [(0, .int p0), (1, .int p1)] := hl
  unfold F_X2_lastOf at h
  refine lv_iload_n F.1 F.2.1 (dd D_X2_lastOf 0 rfl) rfl (lv_at hl 0 rfl) ?_
  refine lv_iload_n F.1 F.2.1 (dd D_X2_lastOf 1 rfl) rfl (lv_at hl 1 rfl) ?_
  refine lv_iadd F.1 F.2.1 (dd D_X2_lastOf 2 rfl) ?_
  refine lv_iconst (v := (1 : Int32)) F.1 F.2.1 (dd D_X2_lastOf 3 rfl) ki_1 ?_
  refine lv_isub F.1 F.2.1 (dd D_X2_lastOf 4 rfl) ?_
  refine lv_sipush (v := (9999 : Int32)) F.1 F.2.1 (dd D_X2_lastOf 5 rfl) ks_9999 ?_
  refine ro_go (st' := [.int (F_J9_min_7cf53 ((p0 + p1) - (1 : Int32)) (9999 : Int32))]) (rS (rest := []) F (c_J9_min_7cf53 D cA ((p0 + p1) - (1 : Int32)) (9999 : Int32) l) lk_X2_15 (Nat.le_of_ble_eq_true rfl) (preRO hK hS hAb (emP)) rfl hl rfl (Nat.le_of_ble_eq_true rfl) (dd D_X2_lastOf 6 rfl) ⟨Nat.le_of_ble_eq_true rfl, Nat.le_of_ble_eq_true rfl⟩) rfl ?_
  exact ro_i (R := rmOf 1 0 0) F hr hlk (congrArg (fun z => some (Value.int z)) h) (dd D_X2_lastOf 7 rfl)
def F_X2_ageOf (s : XS) (p1 : Int32) : Int32 := ((jrem (((100 : Int32) * p1) + (st_off (x_now s))) (2953 : Int32)))
set_option maxHeartbeats 4000000 in
set_option maxRecDepth 100000 in
theorem c_X2_ageOf (D : va_G) (cA : Nat → ClassId) (ax : Nat → Nat) (s : XS) (p1 : Int32) : RO m_X2_ageOf 0 D cA [.ref (ax 40), .int p1] (xW cA ax s) (some (.int (F_X2_ageOf s p1))) := by
  obtain ⟨r, h⟩ : ∃ r, F_X2_ageOf s p1 = r := ⟨_, rfl⟩
  rw [h]
  refine RO.ofW gy_X2_ageOf.2.2 (Nat.le_of_ble_eq_true rfl) ?_
  intro l p e sM m below meth c F hr hlk hK hP hS hAb ls hl
  have hl : lv_has ls 2 [(0, .ref (ax 40)), (1, .int p1)] := hl
  unfold F_X2_ageOf at h
  refine lv_bipush (v := (100 : Int32)) F.1 F.2.1 (dd D_X2_ageOf 0 rfl) kb_100 ?_
  refine lv_iload_n F.1 F.2.1 (dd D_X2_ageOf 1 rfl) rfl (lv_at hl 1 rfl) ?_
  refine lv_imul F.1 F.2.1 (dd D_X2_ageOf 2 rfl) ?_
  refine lv_aload_n F.1 F.2.1 (dd D_X2_ageOf 3 rfl) rfl (lv_at hl 0 rfl) ?_
  refine getF F hK hP lf_X2_9 (40) (xp_40 cA ax s) rfl (dd D_X2_ageOf 4 rfl) ?_
  refine getF F hK hP lf_X2_21 (1) (xp_1 cA ax s) rfl (dd D_X2_ageOf 5 rfl) ?_
  refine lv_iadd F.1 F.2.1 (dd D_X2_ageOf 6 rfl) ?_
  refine lv_sipush (v := (2953 : Int32)) F.1 F.2.1 (dd D_X2_ageOf 7 rfl) ks_2953 ?_
  refine x_irem F.1 F.2.1 (dd D_X2_ageOf 8 rfl) kd_2953 ?_
  exact ro_i (R := rmOf 0 0 0) F hr hlk (congrArg (fun z => some (Value.int z)) h) (dd D_X2_ageOf 9 rfl)
def F_X2_litOf (s : XS) (p1 : Int32) : Int32 := (if (1476 : Int32) < (F_X2_ageOf s p1) then ((((100 : Int32) * ((2953 : Int32) - (F_X2_ageOf s p1))) / (1477 : Int32))) else ((((100 : Int32) * (F_X2_ageOf s p1)) / (1476 : Int32))))
set_option maxHeartbeats 4000000 in
set_option maxRecDepth 100000 in
theorem c_X2_litOf (D : va_G) (cA : Nat → ClassId) (ax : Nat → Nat) (s : XS) (p1 : Int32) : RO m_X2_litOf 1 D cA [.ref (ax 40), .int p1] (xW cA ax s) (some (.int (F_X2_litOf s p1))) := by
  obtain ⟨r, h⟩ : ∃ r, F_X2_litOf s p1 = r := ⟨_, rfl⟩
  rw [h]
  refine RO.ofW gy_X2_litOf.2.2 (Nat.le_of_ble_eq_true rfl) ?_
  intro l p e sM m below meth c F hr hlk hK hP hS hAb ls hl
  have hl : lv_has ls 3 [(0, .ref (ax 40)), (1, .int p1)] := hl
  unfold F_X2_litOf at h
  refine lv_aload_n F.1 F.2.1 (dd D_X2_litOf 0 rfl) rfl (lv_at hl 0 rfl) ?_
  refine lv_iload_n F.1 F.2.1 (dd D_X2_litOf 1 rfl) rfl (lv_at hl 1 rfl) ?_
  refine ro_go (st' := [.int (F_X2_ageOf s p1)]) (rV (rest := []) F (c_X2_ageOf D cA ax s p1 l) lk_X2_27 (Nat.le_of_ble_eq_true rfl) (preRO hK hS hAb hP) (rcv_2 hK hP (q0 := (40)) (xp_40 cA ax s)) rfl hl rfl (Nat.le_of_ble_eq_true rfl) (dd D_X2_litOf 2 rfl) ⟨Nat.le_of_ble_eq_true rfl, Nat.le_of_ble_eq_true rfl⟩) rfl ?_
  refine lv_istore_n (lv' := [(2, .int (F_X2_ageOf s p1)), (0, .ref (ax 40)), (1, .int p1)]) F.1 F.2.1 (dd D_X2_litOf 3 rfl) rfl hl (Nat.le_of_ble_eq_true rfl) rfl (fun ls hl => ?_)
  refine lv_iload_n F.1 F.2.1 (dd D_X2_litOf 4 rfl) rfl (lv_at hl 0 rfl) ?_
  refine lv_sipush (v := (1476 : Int32)) F.1 F.2.1 (dd D_X2_litOf 5 rfl) ks_1476 ?_
  refine x_icmp_gt (tgt := 24) F.1 F.2.1 (dd D_X2_litOf 6 rfl) rfl h (fun c1 h => ?_) (fun c1 h => ?_)
  · refine lv_bipush (v := (100 : Int32)) F.1 F.2.1 (dd D_X2_litOf 13 rfl) kb_100 ?_
    refine lv_sipush (v := (2953 : Int32)) F.1 F.2.1 (dd D_X2_litOf 14 rfl) ks_2953 ?_
    refine lv_iload_n F.1 F.2.1 (dd D_X2_litOf 15 rfl) rfl (lv_at hl 0 rfl) ?_
    refine lv_isub F.1 F.2.1 (dd D_X2_litOf 16 rfl) ?_
    refine lv_imul F.1 F.2.1 (dd D_X2_litOf 17 rfl) ?_
    refine lv_sipush (v := (1477 : Int32)) F.1 F.2.1 (dd D_X2_litOf 18 rfl) ks_1477 ?_
    refine lv_idiv F.1 F.2.1 (dd D_X2_litOf 19 rfl) kd_1477 ?_
    exact ro_i (R := rmOf 1 0 0) F hr hlk (congrArg (fun z => some (Value.int z)) h) (dd D_X2_litOf 20 rfl)
  · refine lv_bipush (v := (100 : Int32)) F.1 F.2.1 (dd D_X2_litOf 7 rfl) kb_100 ?_
    refine lv_iload_n F.1 F.2.1 (dd D_X2_litOf 8 rfl) rfl (lv_at hl 0 rfl) ?_
    refine lv_imul F.1 F.2.1 (dd D_X2_litOf 9 rfl) ?_
    refine lv_sipush (v := (1476 : Int32)) F.1 F.2.1 (dd D_X2_litOf 10 rfl) ks_1476 ?_
    refine lv_idiv F.1 F.2.1 (dd D_X2_litOf 11 rfl) kd_1476 ?_
    refine lv_goto (tgt := 36) F.1 F.2.1 (dd D_X2_litOf 12 rfl) rfl ?_
    exact ro_i (R := rmOf 1 0 0) F hr hlk (congrArg (fun z => some (Value.int z)) h) (dd D_X2_litOf 20 rfl)
def F_X2_outOf (s : XS) (p1 : Int32) : Int32 := (if (3396 : Int32) < (jrem ((st_swing (x_now s)) + p1) (6793 : Int32)) then (((18 : Int32) + ((((6793 : Int32) - (jrem ((st_swing (x_now s)) + p1) (6793 : Int32))) * (10 : Int32)) / (3397 : Int32)))) else (((18 : Int32) + (((jrem ((st_swing (x_now s)) + p1) (6793 : Int32)) * (10 : Int32)) / (3396 : Int32)))))
set_option maxHeartbeats 4000000 in
set_option maxRecDepth 100000 in
theorem c_X2_outOf (D : va_G) (cA : Nat → ClassId) (ax : Nat → Nat) (s : XS) (p1 : Int32) : RO m_X2_outOf 0 D cA [.ref (ax 40), .int p1] (xW cA ax s) (some (.int (F_X2_outOf s p1))) := by
  obtain ⟨r, h⟩ : ∃ r, F_X2_outOf s p1 = r := ⟨_, rfl⟩
  rw [h]
  refine RO.ofW gy_X2_outOf.2.2 (Nat.le_of_ble_eq_true rfl) ?_
  intro l p e sM m below meth c F hr hlk hK hP hS hAb ls hl
  have hl : lv_has ls 3 [(0, .ref (ax 40)), (1, .int p1)] := hl
  unfold F_X2_outOf at h
  refine lv_aload_n F.1 F.2.1 (dd D_X2_outOf 0 rfl) rfl (lv_at hl 0 rfl) ?_
  refine getF F hK hP lf_X2_9 (40) (xp_40 cA ax s) rfl (dd D_X2_outOf 1 rfl) ?_
  refine getF F hK hP lf_X2_31 (1) (xp_1 cA ax s) rfl (dd D_X2_outOf 2 rfl) ?_
  refine lv_iload_n F.1 F.2.1 (dd D_X2_outOf 3 rfl) rfl (lv_at hl 1 rfl) ?_
  refine lv_iadd F.1 F.2.1 (dd D_X2_outOf 4 rfl) ?_
  refine lv_sipush (v := (6793 : Int32)) F.1 F.2.1 (dd D_X2_outOf 5 rfl) ks_6793 ?_
  refine x_irem F.1 F.2.1 (dd D_X2_outOf 6 rfl) kd_6793 ?_
  refine lv_istore_n (lv' := [(2, .int (jrem ((st_swing (x_now s)) + p1) (6793 : Int32))), (0, .ref (ax 40)), (1, .int p1)]) F.1 F.2.1 (dd D_X2_outOf 7 rfl) rfl hl (Nat.le_of_ble_eq_true rfl) rfl (fun ls hl => ?_)
  refine lv_iload_n F.1 F.2.1 (dd D_X2_outOf 8 rfl) rfl (lv_at hl 0 rfl) ?_
  refine lv_sipush (v := (3396 : Int32)) F.1 F.2.1 (dd D_X2_outOf 9 rfl) ks_3396 ?_
  refine x_icmp_gt (tgt := 35) F.1 F.2.1 (dd D_X2_outOf 10 rfl) rfl h (fun c1 h => ?_) (fun c1 h => ?_)
  · refine lv_bipush (v := (18 : Int32)) F.1 F.2.1 (dd D_X2_outOf 19 rfl) kb_18 ?_
    refine lv_sipush (v := (6793 : Int32)) F.1 F.2.1 (dd D_X2_outOf 20 rfl) ks_6793 ?_
    refine lv_iload_n F.1 F.2.1 (dd D_X2_outOf 21 rfl) rfl (lv_at hl 0 rfl) ?_
    refine lv_isub F.1 F.2.1 (dd D_X2_outOf 22 rfl) ?_
    refine lv_bipush (v := (10 : Int32)) F.1 F.2.1 (dd D_X2_outOf 23 rfl) kb_10 ?_
    refine lv_imul F.1 F.2.1 (dd D_X2_outOf 24 rfl) ?_
    refine lv_sipush (v := (3397 : Int32)) F.1 F.2.1 (dd D_X2_outOf 25 rfl) ks_3397 ?_
    refine lv_idiv F.1 F.2.1 (dd D_X2_outOf 26 rfl) kd_3397 ?_
    refine lv_iadd F.1 F.2.1 (dd D_X2_outOf 27 rfl) ?_
    exact ro_i (R := rmOf 0 0 0) F hr hlk (congrArg (fun z => some (Value.int z)) h) (dd D_X2_outOf 28 rfl)
  · refine lv_bipush (v := (18 : Int32)) F.1 F.2.1 (dd D_X2_outOf 11 rfl) kb_18 ?_
    refine lv_iload_n F.1 F.2.1 (dd D_X2_outOf 12 rfl) rfl (lv_at hl 0 rfl) ?_
    refine lv_bipush (v := (10 : Int32)) F.1 F.2.1 (dd D_X2_outOf 13 rfl) kb_10 ?_
    refine lv_imul F.1 F.2.1 (dd D_X2_outOf 14 rfl) ?_
    refine lv_sipush (v := (3396 : Int32)) F.1 F.2.1 (dd D_X2_outOf 15 rfl) ks_3396 ?_
    refine lv_idiv F.1 F.2.1 (dd D_X2_outOf 16 rfl) kd_3396 ?_
    refine lv_iadd F.1 F.2.1 (dd D_X2_outOf 17 rfl) ?_
    refine lv_goto (tgt := 50) F.1 F.2.1 (dd D_X2_outOf 18 rfl) rfl ?_
    exact ro_i (R := rmOf 0 0 0) F hr hlk (congrArg (fun z => some (Value.int z)) h) (dd D_X2_outOf 28 rfl)
def F_X2_slantOf (s : XS) (p1 : Int32) : Int32 := (if (683 : Int32) < (jrem (((100 : Int32) * p1) + (st_node (x_now s))) (2732 : Int32)) then (if (2049 : Int32) < (jrem (((100 : Int32) * p1) + (st_node (x_now s))) (2732 : Int32)) then ((((F_X2_outOf s p1) * ((jrem (((100 : Int32) * p1) + (st_node (x_now s))) (2732 : Int32)) - (2732 : Int32))) / (683 : Int32))) else ((((F_X2_outOf s p1) * ((1366 : Int32) - (jrem (((100 : Int32) * p1) + (st_node (x_now s))) (2732 : Int32)))) / (683 : Int32)))) else ((((F_X2_outOf s p1) * (jrem (((100 : Int32) * p1) + (st_node (x_now s))) (2732 : Int32))) / (683 : Int32))))
set_option maxHeartbeats 4000000 in
set_option maxRecDepth 100000 in
theorem c_X2_slantOf (D : va_G) (cA : Nat → ClassId) (ax : Nat → Nat) (s : XS) (p1 : Int32) : RO m_X2_slantOf 1 D cA [.ref (ax 40), .int p1] (xW cA ax s) (some (.int (F_X2_slantOf s p1))) := by
  obtain ⟨r, h⟩ : ∃ r, F_X2_slantOf s p1 = r := ⟨_, rfl⟩
  rw [h]
  refine RO.ofW gy_X2_slantOf.2.2 (Nat.le_of_ble_eq_true rfl) ?_
  intro l p e sM m below meth c F hr hlk hK hP hS hAb ls hl
  have hl : lv_has ls 4 [(0, .ref (ax 40)), (1, .int p1)] := hl
  unfold F_X2_slantOf at h
  refine lv_aload_n F.1 F.2.1 (dd D_X2_slantOf 0 rfl) rfl (lv_at hl 0 rfl) ?_
  refine lv_iload_n F.1 F.2.1 (dd D_X2_slantOf 1 rfl) rfl (lv_at hl 1 rfl) ?_
  refine ro_go (st' := [.int (F_X2_outOf s p1)]) (rV (rest := []) F (c_X2_outOf D cA ax s p1 l) lk_X2_34 (Nat.le_of_ble_eq_true rfl) (preRO hK hS hAb hP) (rcv_2 hK hP (q0 := (40)) (xp_40 cA ax s)) rfl hl rfl (Nat.le_of_ble_eq_true rfl) (dd D_X2_slantOf 2 rfl) ⟨Nat.le_of_ble_eq_true rfl, Nat.le_of_ble_eq_true rfl⟩) rfl ?_
  refine lv_istore_n (lv' := [(2, .int (F_X2_outOf s p1)), (0, .ref (ax 40)), (1, .int p1)]) F.1 F.2.1 (dd D_X2_slantOf 3 rfl) rfl hl (Nat.le_of_ble_eq_true rfl) rfl (fun ls hl => ?_)
  refine lv_bipush (v := (100 : Int32)) F.1 F.2.1 (dd D_X2_slantOf 4 rfl) kb_100 ?_
  refine lv_iload_n F.1 F.2.1 (dd D_X2_slantOf 5 rfl) rfl (lv_at hl 2 rfl) ?_
  refine lv_imul F.1 F.2.1 (dd D_X2_slantOf 6 rfl) ?_
  refine lv_aload_n F.1 F.2.1 (dd D_X2_slantOf 7 rfl) rfl (lv_at hl 1 rfl) ?_
  refine getF F hK hP lf_X2_9 (40) (xp_40 cA ax s) rfl (dd D_X2_slantOf 8 rfl) ?_
  refine getF F hK hP lf_X2_37 (1) (xp_1 cA ax s) rfl (dd D_X2_slantOf 9 rfl) ?_
  refine lv_iadd F.1 F.2.1 (dd D_X2_slantOf 10 rfl) ?_
  refine lv_sipush (v := (2732 : Int32)) F.1 F.2.1 (dd D_X2_slantOf 11 rfl) ks_2732 ?_
  refine x_irem F.1 F.2.1 (dd D_X2_slantOf 12 rfl) kd_2732 ?_
  refine lv_istore_n (lv' := [(3, .int (jrem (((100 : Int32) * p1) + (st_node (x_now s))) (2732 : Int32))), (2, .int (F_X2_outOf s p1)), (0, .ref (ax 40)), (1, .int p1)]) F.1 F.2.1 (dd D_X2_slantOf 13 rfl) rfl hl (Nat.le_of_ble_eq_true rfl) rfl (fun ls hl => ?_)
  refine lv_iload_n F.1 F.2.1 (dd D_X2_slantOf 14 rfl) rfl (lv_at hl 0 rfl) ?_
  refine lv_sipush (v := (683 : Int32)) F.1 F.2.1 (dd D_X2_slantOf 15 rfl) ks_683 ?_
  refine x_icmp_gt (tgt := 38) F.1 F.2.1 (dd D_X2_slantOf 16 rfl) rfl h (fun c1 h => ?_) (fun c1 h => ?_)
  · refine lv_iload_n F.1 F.2.1 (dd D_X2_slantOf 23 rfl) rfl (lv_at hl 0 rfl) ?_
    refine lv_sipush (v := (2049 : Int32)) F.1 F.2.1 (dd D_X2_slantOf 24 rfl) ks_2049 ?_
    refine x_icmp_gt (tgt := 59) F.1 F.2.1 (dd D_X2_slantOf 25 rfl) rfl h (fun c2 h => ?_) (fun c2 h => ?_)
    · refine lv_iload_n F.1 F.2.1 (dd D_X2_slantOf 34 rfl) rfl (lv_at hl 1 rfl) ?_
      refine lv_iload_n F.1 F.2.1 (dd D_X2_slantOf 35 rfl) rfl (lv_at hl 0 rfl) ?_
      refine lv_sipush (v := (2732 : Int32)) F.1 F.2.1 (dd D_X2_slantOf 36 rfl) ks_2732 ?_
      refine lv_isub F.1 F.2.1 (dd D_X2_slantOf 37 rfl) ?_
      refine lv_imul F.1 F.2.1 (dd D_X2_slantOf 38 rfl) ?_
      refine lv_sipush (v := (683 : Int32)) F.1 F.2.1 (dd D_X2_slantOf 39 rfl) ks_683 ?_
      refine lv_idiv F.1 F.2.1 (dd D_X2_slantOf 40 rfl) kd_683 ?_
      exact ro_i (R := rmOf 1 0 0) F hr hlk (congrArg (fun z => some (Value.int z)) h) (dd D_X2_slantOf 41 rfl)
    · refine lv_iload_n F.1 F.2.1 (dd D_X2_slantOf 26 rfl) rfl (lv_at hl 1 rfl) ?_
      refine lv_sipush (v := (1366 : Int32)) F.1 F.2.1 (dd D_X2_slantOf 27 rfl) ks_1366 ?_
      refine lv_iload_n F.1 F.2.1 (dd D_X2_slantOf 28 rfl) rfl (lv_at hl 0 rfl) ?_
      refine lv_isub F.1 F.2.1 (dd D_X2_slantOf 29 rfl) ?_
      refine lv_imul F.1 F.2.1 (dd D_X2_slantOf 30 rfl) ?_
      refine lv_sipush (v := (683 : Int32)) F.1 F.2.1 (dd D_X2_slantOf 31 rfl) ks_683 ?_
      refine lv_idiv F.1 F.2.1 (dd D_X2_slantOf 32 rfl) kd_683 ?_
      refine lv_goto (tgt := 70) F.1 F.2.1 (dd D_X2_slantOf 33 rfl) rfl ?_
      exact ro_i (R := rmOf 1 0 0) F hr hlk (congrArg (fun z => some (Value.int z)) h) (dd D_X2_slantOf 41 rfl)
  · refine lv_iload_n F.1 F.2.1 (dd D_X2_slantOf 17 rfl) rfl (lv_at hl 1 rfl) ?_
    refine lv_iload_n F.1 F.2.1 (dd D_X2_slantOf 18 rfl) rfl (lv_at hl 0 rfl) ?_
    refine lv_imul F.1 F.2.1 (dd D_X2_slantOf 19 rfl) ?_
    refine lv_sipush (v := (683 : Int32)) F.1 F.2.1 (dd D_X2_slantOf 20 rfl) ks_683 ?_
    refine lv_idiv F.1 F.2.1 (dd D_X2_slantOf 21 rfl) kd_683 ?_
    exact ro_i (R := rmOf 1 0 0) F hr hlk (congrArg (fun z => some (Value.int z)) h) (dd D_X2_slantOf 22 rfl)
def F_X2_riseBy (p0 : Int32) (p1 : Int32) : Int32 := ((F_J9_floorMod_7cf53 (((360 : Int32) + ((p0 * (1440 : Int32)) / (2953 : Int32))) - ((3 : Int32) * p1)) (1440 : Int32)))
set_option maxHeartbeats 4000000 in
set_option maxRecDepth 100000 in
theorem c_X2_riseBy (D : va_G) (cA : Nat → ClassId)  (p0 : Int32) (p1 : Int32) : RO m_X2_riseBy 1 D cA [.int p0, .int p1] [] (some (.int (F_X2_riseBy p0 p1))) := by
  obtain ⟨r, h⟩ : ∃ r, F_X2_riseBy p0 p1 = r := ⟨_, rfl⟩
  rw [h]
  refine RO.ofW gy_X2_riseBy.2.2 (Nat.le_of_ble_eq_true rfl) ?_
  intro l p e sM m below meth c F hr hlk hK hP hS hAb ls hl
  have hl : lv_has ls 2 [(0, .int p0), (1, .int p1)] := hl
  unfold F_X2_riseBy at h
  refine lv_sipush (v := (360 : Int32)) F.1 F.2.1 (dd D_X2_riseBy 0 rfl) ks_360 ?_
  refine lv_iload_n F.1 F.2.1 (dd D_X2_riseBy 1 rfl) rfl (lv_at hl 0 rfl) ?_
  refine lv_sipush (v := (1440 : Int32)) F.1 F.2.1 (dd D_X2_riseBy 2 rfl) ks_1440 ?_
  refine lv_imul F.1 F.2.1 (dd D_X2_riseBy 3 rfl) ?_
  refine lv_sipush (v := (2953 : Int32)) F.1 F.2.1 (dd D_X2_riseBy 4 rfl) ks_2953 ?_
  refine lv_idiv F.1 F.2.1 (dd D_X2_riseBy 5 rfl) kd_2953 ?_
  refine lv_iadd F.1 F.2.1 (dd D_X2_riseBy 6 rfl) ?_
  refine lv_iconst (v := (3 : Int32)) F.1 F.2.1 (dd D_X2_riseBy 7 rfl) ki_3 ?_
  refine lv_iload_n F.1 F.2.1 (dd D_X2_riseBy 8 rfl) rfl (lv_at hl 1 rfl) ?_
  refine lv_imul F.1 F.2.1 (dd D_X2_riseBy 9 rfl) ?_
  refine lv_isub F.1 F.2.1 (dd D_X2_riseBy 10 rfl) ?_
  refine lv_sipush (v := (1440 : Int32)) F.1 F.2.1 (dd D_X2_riseBy 11 rfl) ks_1440 ?_
  refine ro_go (st' := [.int (F_J9_floorMod_7cf53 (((360 : Int32) + ((p0 * (1440 : Int32)) / (2953 : Int32))) - ((3 : Int32) * p1)) (1440 : Int32))]) (rS (rest := []) F (c_J9_floorMod_7cf53 D cA (((360 : Int32) + ((p0 * (1440 : Int32)) / (2953 : Int32))) - ((3 : Int32) * p1)) (1440 : Int32) kd_1440 l) lk_X2_40 (Nat.le_of_ble_eq_true rfl) (preRO hK hS hAb (emP)) rfl hl rfl (Nat.le_of_ble_eq_true rfl) (dd D_X2_riseBy 12 rfl) ⟨Nat.le_of_ble_eq_true rfl, Nat.le_of_ble_eq_true rfl⟩) rfl ?_
  exact ro_i (R := rmOf 1 0 0) F hr hlk (congrArg (fun z => some (Value.int z)) h) (dd D_X2_riseBy 13 rfl)
def F_X2_wayBy (p0 : Int32) : Int32 := (((90 : Int32) - ((2 : Int32) * p0)))
set_option maxHeartbeats 4000000 in
set_option maxRecDepth 100000 in
theorem c_X2_wayBy (D : va_G) (cA : Nat → ClassId)  (p0 : Int32) : RO m_X2_wayBy 0 D cA [.int p0] [] (some (.int (F_X2_wayBy p0))) := by
  obtain ⟨r, h⟩ : ∃ r, F_X2_wayBy p0 = r := ⟨_, rfl⟩
  rw [h]
  refine RO.ofW gy_X2_wayBy.2.2 (Nat.le_of_ble_eq_true rfl) ?_
  intro l p e sM m below meth c F hr hlk hK hP hS hAb ls hl
  have hl : lv_has ls 1 [(0, .int p0)] := hl
  unfold F_X2_wayBy at h
  refine lv_bipush (v := (90 : Int32)) F.1 F.2.1 (dd D_X2_wayBy 0 rfl) kb_90 ?_
  refine lv_iconst (v := (2 : Int32)) F.1 F.2.1 (dd D_X2_wayBy 1 rfl) ki_2 ?_
  refine lv_iload_n F.1 F.2.1 (dd D_X2_wayBy 2 rfl) rfl (lv_at hl 0 rfl) ?_
  refine lv_imul F.1 F.2.1 (dd D_X2_wayBy 3 rfl) ?_
  refine lv_isub F.1 F.2.1 (dd D_X2_wayBy 4 rfl) ?_
  exact ro_i (R := rmOf 0 0 0) F hr hlk (congrArg (fun z => some (Value.int z)) h) (dd D_X2_wayBy 5 rfl)
def F_X2_riseOf (s : XS) (p1 : Int32) : Int32 := ((F_X2_riseBy (F_X2_ageOf s p1) (F_X2_slantOf s p1)))
set_option maxHeartbeats 4000000 in
set_option maxRecDepth 100000 in
theorem c_X2_riseOf (D : va_G) (cA : Nat → ClassId) (ax : Nat → Nat) (s : XS) (p1 : Int32) : RO m_X2_riseOf 2 D cA [.ref (ax 40), .int p1] (xW cA ax s) (some (.int (F_X2_riseOf s p1))) := by
  obtain ⟨r, h⟩ : ∃ r, F_X2_riseOf s p1 = r := ⟨_, rfl⟩
  rw [h]
  refine RO.ofW gy_X2_riseOf.2.2 (Nat.le_of_ble_eq_true rfl) ?_
  intro l p e sM m below meth c F hr hlk hK hP hS hAb ls hl
  have hl : lv_has ls 2 [(0, .ref (ax 40)), (1, .int p1)] := hl
  unfold F_X2_riseOf at h
  refine lv_aload_n F.1 F.2.1 (dd D_X2_riseOf 0 rfl) rfl (lv_at hl 0 rfl) ?_
  refine lv_iload_n F.1 F.2.1 (dd D_X2_riseOf 1 rfl) rfl (lv_at hl 1 rfl) ?_
  refine ro_go (st' := [.int (F_X2_ageOf s p1)]) (rV (rest := []) F (c_X2_ageOf D cA ax s p1 l) lk_X2_27 (Nat.le_of_ble_eq_true rfl) (preRO hK hS hAb hP) (rcv_2 hK hP (q0 := (40)) (xp_40 cA ax s)) rfl hl rfl (Nat.le_of_ble_eq_true rfl) (dd D_X2_riseOf 2 rfl) ⟨Nat.le_of_ble_eq_true rfl, Nat.le_of_ble_eq_true rfl⟩) rfl ?_
  refine lv_aload_n F.1 F.2.1 (dd D_X2_riseOf 3 rfl) rfl (lv_at hl 0 rfl) ?_
  refine lv_iload_n F.1 F.2.1 (dd D_X2_riseOf 4 rfl) rfl (lv_at hl 1 rfl) ?_
  refine ro_go (st' := [.int (F_X2_slantOf s p1), .int (F_X2_ageOf s p1)]) (rV (rest := [.int (F_X2_ageOf s p1)]) F (c_X2_slantOf D cA ax s p1 l) lk_X2_43 (Nat.le_of_ble_eq_true rfl) (preRO hK hS hAb hP) (rcv_2 hK hP (q0 := (40)) (xp_40 cA ax s)) rfl hl rfl (Nat.le_of_ble_eq_true rfl) (dd D_X2_riseOf 5 rfl) ⟨Nat.le_of_ble_eq_true rfl, Nat.le_of_ble_eq_true rfl⟩) rfl ?_
  refine ro_go (st' := [.int (F_X2_riseBy (F_X2_ageOf s p1) (F_X2_slantOf s p1))]) (rS (rest := []) F (c_X2_riseBy D cA (F_X2_ageOf s p1) (F_X2_slantOf s p1) l) lk_X2_46 (Nat.le_of_ble_eq_true rfl) (preRO hK hS hAb (emP)) rfl hl rfl (Nat.le_of_ble_eq_true rfl) (dd D_X2_riseOf 6 rfl) ⟨Nat.le_of_ble_eq_true rfl, Nat.le_of_ble_eq_true rfl⟩) rfl ?_
  exact ro_i (R := rmOf 2 0 0) F hr hlk (congrArg (fun z => some (Value.int z)) h) (dd D_X2_riseOf 7 rfl)
def F_X2_wayOf (s : XS) (p1 : Int32) : Int32 := ((F_X2_wayBy (F_X2_slantOf s p1)))
set_option maxHeartbeats 4000000 in
set_option maxRecDepth 100000 in
theorem c_X2_wayOf (D : va_G) (cA : Nat → ClassId) (ax : Nat → Nat) (s : XS) (p1 : Int32) : RO m_X2_wayOf 2 D cA [.ref (ax 40), .int p1] (xW cA ax s) (some (.int (F_X2_wayOf s p1))) := by
  obtain ⟨r, h⟩ : ∃ r, F_X2_wayOf s p1 = r := ⟨_, rfl⟩
  rw [h]
  refine RO.ofW gy_X2_wayOf.2.2 (Nat.le_of_ble_eq_true rfl) ?_
  intro l p e sM m below meth c F hr hlk hK hP hS hAb ls hl
  have hl : lv_has ls 2 [(0, .ref (ax 40)), (1, .int p1)] := hl
  unfold F_X2_wayOf at h
  refine lv_aload_n F.1 F.2.1 (dd D_X2_wayOf 0 rfl) rfl (lv_at hl 0 rfl) ?_
  refine lv_iload_n F.1 F.2.1 (dd D_X2_wayOf 1 rfl) rfl (lv_at hl 1 rfl) ?_
  refine ro_go (st' := [.int (F_X2_slantOf s p1)]) (rV (rest := []) F (c_X2_slantOf D cA ax s p1 l) lk_X2_43 (Nat.le_of_ble_eq_true rfl) (preRO hK hS hAb hP) (rcv_2 hK hP (q0 := (40)) (xp_40 cA ax s)) rfl hl rfl (Nat.le_of_ble_eq_true rfl) (dd D_X2_wayOf 2 rfl) ⟨Nat.le_of_ble_eq_true rfl, Nat.le_of_ble_eq_true rfl⟩) rfl ?_
  refine ro_go (st' := [.int (F_X2_wayBy (F_X2_slantOf s p1))]) (rS (rest := []) F (c_X2_wayBy D cA (F_X2_slantOf s p1) l) lk_X2_49 (Nat.le_of_ble_eq_true rfl) (preRO hK hS hAb (emP)) rfl hl rfl (Nat.le_of_ble_eq_true rfl) (dd D_X2_wayOf 3 rfl) ⟨Nat.le_of_ble_eq_true rfl, Nat.le_of_ble_eq_true rfl⟩) rfl ?_
  exact ro_i (R := rmOf 2 0 0) F hr hlk (congrArg (fun z => some (Value.int z)) h) (dd D_X2_wayOf 4 rfl)
def F_X2_overOf (n : Nat) (s : XS) (p1 : Int32) : Option Int32 := (((F_X1_overFrom n (st_hill (x_now s)) (F_X2_wayOf s p1))).bind fun r1 => some (r1))
set_option maxHeartbeats 4000000 in
set_option maxRecDepth 100000 in
theorem c_X2_overOf (D : va_G) (cA : Nat → ClassId) (ax : Nat → Nat) (s : XS) (n : Nat) (p1 : Int32) (r : Int32) (h : F_X2_overOf n s p1 = some r) : RO m_X2_overOf 3 D cA [.ref (ax 40), .int p1] (xW cA ax s) (some (.int r)) := by
  refine RO.ofW gy_X2_overOf.2.2 (Nat.le_of_ble_eq_true rfl) ?_
  intro l p e sM m below meth c F hr hlk hK hP hS hAb ls hl
  have hl : lv_has ls 2 [(0, .ref (ax 40)), (1, .int p1)] := hl
  unfold F_X2_overOf at h
  refine lv_aload_n F.1 F.2.1 (dd D_X2_overOf 0 rfl) rfl (lv_at hl 0 rfl) ?_
  refine getF F hK hP lf_X2_9 (40) (xp_40 cA ax s) rfl (dd D_X2_overOf 1 rfl) ?_
  refine getF F hK hP lf_X2_52 (1) (xp_1 cA ax s) rfl (dd D_X2_overOf 2 rfl) ?_
  refine lv_aload_n F.1 F.2.1 (dd D_X2_overOf 3 rfl) rfl (lv_at hl 0 rfl) ?_
  refine lv_iload_n F.1 F.2.1 (dd D_X2_overOf 4 rfl) rfl (lv_at hl 1 rfl) ?_
  refine ro_go (st' := [.int (F_X2_wayOf s p1), .ref (ax 2)]) (rV (rest := [.ref (ax 2)]) F (c_X2_wayOf D cA ax s p1 l) lk_X2_56 (Nat.le_of_ble_eq_true rfl) (preRO hK hS hAb hP) (rcv_2 hK hP (q0 := (40)) (xp_40 cA ax s)) rfl hl rfl (Nat.le_of_ble_eq_true rfl) (dd D_X2_overOf 5 rfl) ⟨Nat.le_of_ble_eq_true rfl, Nat.le_of_ble_eq_true rfl⟩) rfl ?_
  obtain ⟨r1, e2, h⟩ := Option.bind_eq_some_iff.mp h
  refine ro_go (st' := [.int r1]) (rV (rest := []) F (c_X1_overFrom D cA (fun i => ax (2+i)) (st_hill (x_now s)) n (F_X2_wayOf s p1) r1 e2 l) lk_X2_59 (Nat.le_of_ble_eq_true rfl) (preRO hK hS hAb (pg_x_2 hP)) (rcv_1 hK hP (q0 := (2)) (xp_2 cA ax s)) rfl hl rfl (Nat.le_of_ble_eq_true rfl) (dd D_X2_overOf 6 rfl) ⟨Nat.le_of_ble_eq_true rfl, Nat.le_of_ble_eq_true rfl⟩) rfl ?_
  exact ro_i (R := rmOf 3 0 0) F hr hlk (congrArg (Option.map Value.int) h) (dd D_X2_overOf 7 rfl)
def F_X2_upOf (n : Nat) (s : XS) (p1 : Int32) : Option Int32 := (((F_X1_overFrom n (st_hill (x_now s)) (F_X2_wayBy (F_X2_slantOf s p1)))).bind fun r1 => some ((jrem ((F_X2_riseBy (F_X2_ageOf s p1) (F_X2_slantOf s p1)) + r1) (1440 : Int32))))
set_option maxHeartbeats 4000000 in
set_option maxRecDepth 100000 in
theorem c_X2_upOf (D : va_G) (cA : Nat → ClassId) (ax : Nat → Nat) (s : XS) (n : Nat) (p1 : Int32) (r : Int32) (h : F_X2_upOf n s p1 = some r) : RO m_X2_upOf 2 D cA [.ref (ax 40), .int p1] (xW cA ax s) (some (.int r)) := by
  refine RO.ofW gy_X2_upOf.2.2 (Nat.le_of_ble_eq_true rfl) ?_
  intro l p e sM m below meth c F hr hlk hK hP hS hAb ls hl
  have hl : lv_has ls 3 [(0, .ref (ax 40)), (1, .int p1)] := hl
  unfold F_X2_upOf at h
  refine lv_aload_n F.1 F.2.1 (dd D_X2_upOf 0 rfl) rfl (lv_at hl 0 rfl) ?_
  refine lv_iload_n F.1 F.2.1 (dd D_X2_upOf 1 rfl) rfl (lv_at hl 1 rfl) ?_
  refine ro_go (st' := [.int (F_X2_slantOf s p1)]) (rV (rest := []) F (c_X2_slantOf D cA ax s p1 l) lk_X2_43 (Nat.le_of_ble_eq_true rfl) (preRO hK hS hAb hP) (rcv_2 hK hP (q0 := (40)) (xp_40 cA ax s)) rfl hl rfl (Nat.le_of_ble_eq_true rfl) (dd D_X2_upOf 2 rfl) ⟨Nat.le_of_ble_eq_true rfl, Nat.le_of_ble_eq_true rfl⟩) rfl ?_
  refine lv_istore_n (lv' := [(2, .int (F_X2_slantOf s p1)), (0, .ref (ax 40)), (1, .int p1)]) F.1 F.2.1 (dd D_X2_upOf 3 rfl) rfl hl (Nat.le_of_ble_eq_true rfl) rfl (fun ls hl => ?_)
  refine lv_aload_n F.1 F.2.1 (dd D_X2_upOf 4 rfl) rfl (lv_at hl 1 rfl) ?_
  refine lv_iload_n F.1 F.2.1 (dd D_X2_upOf 5 rfl) rfl (lv_at hl 2 rfl) ?_
  refine ro_go (st' := [.int (F_X2_ageOf s p1)]) (rV (rest := []) F (c_X2_ageOf D cA ax s p1 l) lk_X2_27 (Nat.le_of_ble_eq_true rfl) (preRO hK hS hAb hP) (rcv_2 hK hP (q0 := (40)) (xp_40 cA ax s)) rfl hl rfl (Nat.le_of_ble_eq_true rfl) (dd D_X2_upOf 6 rfl) ⟨Nat.le_of_ble_eq_true rfl, Nat.le_of_ble_eq_true rfl⟩) rfl ?_
  refine lv_iload_n F.1 F.2.1 (dd D_X2_upOf 7 rfl) rfl (lv_at hl 0 rfl) ?_
  refine ro_go (st' := [.int (F_X2_riseBy (F_X2_ageOf s p1) (F_X2_slantOf s p1))]) (rS (rest := []) F (c_X2_riseBy D cA (F_X2_ageOf s p1) (F_X2_slantOf s p1) l) lk_X2_46 (Nat.le_of_ble_eq_true rfl) (preRO hK hS hAb (emP)) rfl hl rfl (Nat.le_of_ble_eq_true rfl) (dd D_X2_upOf 8 rfl) ⟨Nat.le_of_ble_eq_true rfl, Nat.le_of_ble_eq_true rfl⟩) rfl ?_
  refine lv_aload_n F.1 F.2.1 (dd D_X2_upOf 9 rfl) rfl (lv_at hl 1 rfl) ?_
  refine getF F hK hP lf_X2_9 (40) (xp_40 cA ax s) rfl (dd D_X2_upOf 10 rfl) ?_
  refine getF F hK hP lf_X2_52 (1) (xp_1 cA ax s) rfl (dd D_X2_upOf 11 rfl) ?_
  refine lv_iload_n F.1 F.2.1 (dd D_X2_upOf 12 rfl) rfl (lv_at hl 0 rfl) ?_
  refine ro_go (st' := [.int (F_X2_wayBy (F_X2_slantOf s p1)), .ref (ax 2), .int (F_X2_riseBy (F_X2_ageOf s p1) (F_X2_slantOf s p1))]) (rS (rest := [.ref (ax 2), .int (F_X2_riseBy (F_X2_ageOf s p1) (F_X2_slantOf s p1))]) F (c_X2_wayBy D cA (F_X2_slantOf s p1) l) lk_X2_49 (Nat.le_of_ble_eq_true rfl) (preRO hK hS hAb (emP)) rfl hl rfl (Nat.le_of_ble_eq_true rfl) (dd D_X2_upOf 13 rfl) ⟨Nat.le_of_ble_eq_true rfl, Nat.le_of_ble_eq_true rfl⟩) rfl ?_
  obtain ⟨r1, e2, h⟩ := Option.bind_eq_some_iff.mp h
  refine ro_go (st' := [.int r1, .int (F_X2_riseBy (F_X2_ageOf s p1) (F_X2_slantOf s p1))]) (rV (rest := [.int (F_X2_riseBy (F_X2_ageOf s p1) (F_X2_slantOf s p1))]) F (c_X1_overFrom D cA (fun i => ax (2+i)) (st_hill (x_now s)) n (F_X2_wayBy (F_X2_slantOf s p1)) r1 e2 l) lk_X2_59 (Nat.le_of_ble_eq_true rfl) (preRO hK hS hAb (pg_x_2 hP)) (rcv_1 hK hP (q0 := (2)) (xp_2 cA ax s)) rfl hl rfl (Nat.le_of_ble_eq_true rfl) (dd D_X2_upOf 14 rfl) ⟨Nat.le_of_ble_eq_true rfl, Nat.le_of_ble_eq_true rfl⟩) rfl ?_
  refine lv_iadd F.1 F.2.1 (dd D_X2_upOf 15 rfl) ?_
  refine lv_sipush (v := (1440 : Int32)) F.1 F.2.1 (dd D_X2_upOf 16 rfl) ks_1440 ?_
  refine x_irem F.1 F.2.1 (dd D_X2_upOf 17 rfl) kd_1440 ?_
  exact ro_i (R := rmOf 2 0 0) F hr hlk (congrArg (Option.map Value.int) h) (dd D_X2_upOf 18 rfl)
def F_X2_laterOf (n : Nat) (s : XS) (p1 : Int32) : Option Int32 := (if p1 < (9999 : Int32) then (((F_X2_upOf n s (p1 + (1 : Int32)))).bind fun r2 => (((F_X2_upOf n s p1)).bind fun r4 => some ((F_J9_floorMod_7cf53 (r2 - r4) (1440 : Int32))))) else some ((0 : Int32)))
set_option maxHeartbeats 4000000 in
set_option maxRecDepth 100000 in
theorem c_X2_laterOf (D : va_G) (cA : Nat → ClassId) (ax : Nat → Nat) (s : XS) (n : Nat) (p1 : Int32) (r : Int32) (h : F_X2_laterOf n s p1 = some r) : RO m_X2_laterOf 3 D cA [.ref (ax 40), .int p1] (xW cA ax s) (some (.int r)) := by
  refine RO.ofW gy_X2_laterOf.2.2 (Nat.le_of_ble_eq_true rfl) ?_
  intro l p e sM m below meth c F hr hlk hK hP hS hAb ls hl
  have hl : lv_has ls 2 [(0, .ref (ax 40)), (1, .int p1)] := hl
  unfold F_X2_laterOf at h
  refine lv_iload_n F.1 F.2.1 (dd D_X2_laterOf 0 rfl) rfl (lv_at hl 1 rfl) ?_
  refine lv_sipush (v := (9999 : Int32)) F.1 F.2.1 (dd D_X2_laterOf 1 rfl) ks_9999 ?_
  refine x_icmp_lt (tgt := 11) F.1 F.2.1 (dd D_X2_laterOf 2 rfl) rfl h (fun c1 h => ?_) (fun c1 h => ?_)
  · refine lv_aload_n F.1 F.2.1 (dd D_X2_laterOf 5 rfl) rfl (lv_at hl 0 rfl) ?_
    refine lv_iload_n F.1 F.2.1 (dd D_X2_laterOf 6 rfl) rfl (lv_at hl 1 rfl) ?_
    refine lv_iconst (v := (1 : Int32)) F.1 F.2.1 (dd D_X2_laterOf 7 rfl) ki_1 ?_
    refine lv_iadd F.1 F.2.1 (dd D_X2_laterOf 8 rfl) ?_
    obtain ⟨r2, e3, h⟩ := Option.bind_eq_some_iff.mp h
    refine ro_go (st' := [.int r2]) (rV (rest := []) F (c_X2_upOf D cA ax s n (p1 + (1 : Int32)) r2 e3 l) lk_X2_64 (Nat.le_of_ble_eq_true rfl) (preRO hK hS hAb hP) (rcv_2 hK hP (q0 := (40)) (xp_40 cA ax s)) rfl hl rfl (Nat.le_of_ble_eq_true rfl) (dd D_X2_laterOf 9 rfl) ⟨Nat.le_of_ble_eq_true rfl, Nat.le_of_ble_eq_true rfl⟩) rfl ?_
    refine lv_aload_n F.1 F.2.1 (dd D_X2_laterOf 10 rfl) rfl (lv_at hl 0 rfl) ?_
    refine lv_iload_n F.1 F.2.1 (dd D_X2_laterOf 11 rfl) rfl (lv_at hl 1 rfl) ?_
    obtain ⟨r4, e5, h⟩ := Option.bind_eq_some_iff.mp h
    refine ro_go (st' := [.int r4, .int r2]) (rV (rest := [.int r2]) F (c_X2_upOf D cA ax s n p1 r4 e5 l) lk_X2_64 (Nat.le_of_ble_eq_true rfl) (preRO hK hS hAb hP) (rcv_2 hK hP (q0 := (40)) (xp_40 cA ax s)) rfl hl rfl (Nat.le_of_ble_eq_true rfl) (dd D_X2_laterOf 12 rfl) ⟨Nat.le_of_ble_eq_true rfl, Nat.le_of_ble_eq_true rfl⟩) rfl ?_
    refine lv_isub F.1 F.2.1 (dd D_X2_laterOf 13 rfl) ?_
    refine lv_sipush (v := (1440 : Int32)) F.1 F.2.1 (dd D_X2_laterOf 14 rfl) ks_1440 ?_
    refine ro_go (st' := [.int (F_J9_floorMod_7cf53 (r2 - r4) (1440 : Int32))]) (rS (rest := []) F (c_J9_floorMod_7cf53 D cA (r2 - r4) (1440 : Int32) kd_1440 l) lk_X2_40 (Nat.le_of_ble_eq_true rfl) (preRO hK hS hAb (emP)) rfl hl rfl (Nat.le_of_ble_eq_true rfl) (dd D_X2_laterOf 15 rfl) ⟨Nat.le_of_ble_eq_true rfl, Nat.le_of_ble_eq_true rfl⟩) rfl ?_
    exact ro_i (R := rmOf 3 0 0) F hr hlk (congrArg (Option.map Value.int) h) (dd D_X2_laterOf 16 rfl)
  · refine lv_iconst (v := (0 : Int32)) F.1 F.2.1 (dd D_X2_laterOf 3 rfl) ki_0 ?_
    refine lv_goto (tgt := 30) F.1 F.2.1 (dd D_X2_laterOf 4 rfl) rfl ?_
    exact ro_i (R := rmOf 3 0 0) F hr hlk (congrArg (Option.map Value.int) h) (dd D_X2_laterOf 16 rfl)
def F_X2_degreeOf (n : Nat) (s : XS) (p1 : Int32) : Option Int32 := (((F_X1_overFrom n (st_hill (x_now s)) (F_X2_wayOf s p1))).bind fun r1 => some (((F_X2_wayOf s p1) + (r1 / (4 : Int32)))))
set_option maxHeartbeats 4000000 in
set_option maxRecDepth 100000 in
theorem c_X2_degreeOf (D : va_G) (cA : Nat → ClassId) (ax : Nat → Nat) (s : XS) (n : Nat) (p1 : Int32) (r : Int32) (h : F_X2_degreeOf n s p1 = some r) : RO m_X2_degreeOf 3 D cA [.ref (ax 40), .int p1] (xW cA ax s) (some (.int r)) := by
  refine RO.ofW gy_X2_degreeOf.2.2 (Nat.le_of_ble_eq_true rfl) ?_
  intro l p e sM m below meth c F hr hlk hK hP hS hAb ls hl
  have hl : lv_has ls 3 [(0, .ref (ax 40)), (1, .int p1)] := hl
  unfold F_X2_degreeOf at h
  refine lv_aload_n F.1 F.2.1 (dd D_X2_degreeOf 0 rfl) rfl (lv_at hl 0 rfl) ?_
  refine lv_iload_n F.1 F.2.1 (dd D_X2_degreeOf 1 rfl) rfl (lv_at hl 1 rfl) ?_
  refine ro_go (st' := [.int (F_X2_wayOf s p1)]) (rV (rest := []) F (c_X2_wayOf D cA ax s p1 l) lk_X2_56 (Nat.le_of_ble_eq_true rfl) (preRO hK hS hAb hP) (rcv_2 hK hP (q0 := (40)) (xp_40 cA ax s)) rfl hl rfl (Nat.le_of_ble_eq_true rfl) (dd D_X2_degreeOf 2 rfl) ⟨Nat.le_of_ble_eq_true rfl, Nat.le_of_ble_eq_true rfl⟩) rfl ?_
  refine lv_istore_n (lv' := [(2, .int (F_X2_wayOf s p1)), (0, .ref (ax 40)), (1, .int p1)]) F.1 F.2.1 (dd D_X2_degreeOf 3 rfl) rfl hl (Nat.le_of_ble_eq_true rfl) rfl (fun ls hl => ?_)
  refine lv_iload_n F.1 F.2.1 (dd D_X2_degreeOf 4 rfl) rfl (lv_at hl 0 rfl) ?_
  refine lv_aload_n F.1 F.2.1 (dd D_X2_degreeOf 5 rfl) rfl (lv_at hl 1 rfl) ?_
  refine getF F hK hP lf_X2_9 (40) (xp_40 cA ax s) rfl (dd D_X2_degreeOf 6 rfl) ?_
  refine getF F hK hP lf_X2_52 (1) (xp_1 cA ax s) rfl (dd D_X2_degreeOf 7 rfl) ?_
  refine lv_iload_n F.1 F.2.1 (dd D_X2_degreeOf 8 rfl) rfl (lv_at hl 0 rfl) ?_
  obtain ⟨r1, e2, h⟩ := Option.bind_eq_some_iff.mp h
  refine ro_go (st' := [.int r1, .int (F_X2_wayOf s p1)]) (rV (rest := [.int (F_X2_wayOf s p1)]) F (c_X1_overFrom D cA (fun i => ax (2+i)) (st_hill (x_now s)) n (F_X2_wayOf s p1) r1 e2 l) lk_X2_59 (Nat.le_of_ble_eq_true rfl) (preRO hK hS hAb (pg_x_2 hP)) (rcv_1 hK hP (q0 := (2)) (xp_2 cA ax s)) rfl hl rfl (Nat.le_of_ble_eq_true rfl) (dd D_X2_degreeOf 9 rfl) ⟨Nat.le_of_ble_eq_true rfl, Nat.le_of_ble_eq_true rfl⟩) rfl ?_
  refine lv_iconst (v := (4 : Int32)) F.1 F.2.1 (dd D_X2_degreeOf 10 rfl) ki_4 ?_
  refine lv_idiv F.1 F.2.1 (dd D_X2_degreeOf 11 rfl) kd_4 ?_
  refine lv_iadd F.1 F.2.1 (dd D_X2_degreeOf 12 rfl) ?_
  exact ro_i (R := rmOf 3 0 0) F hr hlk (congrArg (Option.map Value.int) h) (dd D_X2_degreeOf 13 rfl)
def F_X2_behindOf (n : Nat) (s : XS) (p1 : Int32) : Option Int32 := (((F_X1_overFrom n (st_hill (x_now s)) (F_X2_wayOf s p1))).bind fun r1 => (if r1 = 0 then some ((-1 : Int32)) else (((F_X1_makerOf n (st_hill (x_now s)) ((F_X2_wayOf s p1) + ((r1 - (1 : Int32)) / (4 : Int32))))).bind fun r4 => some (r4))))
set_option maxHeartbeats 4000000 in
set_option maxRecDepth 100000 in
theorem c_X2_behindOf (D : va_G) (cA : Nat → ClassId) (ax : Nat → Nat) (s : XS) (n : Nat) (p1 : Int32) (r : Int32) (h : F_X2_behindOf n s p1 = some r) : RO m_X2_behindOf 3 D cA [.ref (ax 40), .int p1] (xW cA ax s) (some (.int r)) := by
  refine RO.ofW gy_X2_behindOf.2.2 (Nat.le_of_ble_eq_true rfl) ?_
  intro l p e sM m below meth c F hr hlk hK hP hS hAb ls hl
  have hl : lv_has ls 4 [(0, .ref (ax 40)), (1, .int p1)] := hl
  unfold F_X2_behindOf at h
  refine lv_aload_n F.1 F.2.1 (dd D_X2_behindOf 0 rfl) rfl (lv_at hl 0 rfl) ?_
  refine lv_iload_n F.1 F.2.1 (dd D_X2_behindOf 1 rfl) rfl (lv_at hl 1 rfl) ?_
  refine ro_go (st' := [.int (F_X2_wayOf s p1)]) (rV (rest := []) F (c_X2_wayOf D cA ax s p1 l) lk_X2_56 (Nat.le_of_ble_eq_true rfl) (preRO hK hS hAb hP) (rcv_2 hK hP (q0 := (40)) (xp_40 cA ax s)) rfl hl rfl (Nat.le_of_ble_eq_true rfl) (dd D_X2_behindOf 2 rfl) ⟨Nat.le_of_ble_eq_true rfl, Nat.le_of_ble_eq_true rfl⟩) rfl ?_
  refine lv_istore_n (lv' := [(2, .int (F_X2_wayOf s p1)), (0, .ref (ax 40)), (1, .int p1)]) F.1 F.2.1 (dd D_X2_behindOf 3 rfl) rfl hl (Nat.le_of_ble_eq_true rfl) rfl (fun ls hl => ?_)
  refine lv_aload_n F.1 F.2.1 (dd D_X2_behindOf 4 rfl) rfl (lv_at hl 1 rfl) ?_
  refine getF F hK hP lf_X2_9 (40) (xp_40 cA ax s) rfl (dd D_X2_behindOf 5 rfl) ?_
  refine getF F hK hP lf_X2_52 (1) (xp_1 cA ax s) rfl (dd D_X2_behindOf 6 rfl) ?_
  refine lv_iload_n F.1 F.2.1 (dd D_X2_behindOf 7 rfl) rfl (lv_at hl 0 rfl) ?_
  obtain ⟨r1, e2, h⟩ := Option.bind_eq_some_iff.mp h
  refine ro_go (st' := [.int r1]) (rV (rest := []) F (c_X1_overFrom D cA (fun i => ax (2+i)) (st_hill (x_now s)) n (F_X2_wayOf s p1) r1 e2 l) lk_X2_59 (Nat.le_of_ble_eq_true rfl) (preRO hK hS hAb (pg_x_2 hP)) (rcv_1 hK hP (q0 := (2)) (xp_2 cA ax s)) rfl hl rfl (Nat.le_of_ble_eq_true rfl) (dd D_X2_behindOf 8 rfl) ⟨Nat.le_of_ble_eq_true rfl, Nat.le_of_ble_eq_true rfl⟩) rfl ?_
  refine lv_istore_n (lv' := [(3, .int r1), (2, .int (F_X2_wayOf s p1)), (0, .ref (ax 40)), (1, .int p1)]) F.1 F.2.1 (dd D_X2_behindOf 9 rfl) rfl hl (Nat.le_of_ble_eq_true rfl) rfl (fun ls hl => ?_)
  refine lv_iload_n F.1 F.2.1 (dd D_X2_behindOf 10 rfl) rfl (lv_at hl 0 rfl) ?_
  refine x_if_ne (tgt := 26) F.1 F.2.1 (dd D_X2_behindOf 11 rfl) rfl h (fun c3 h => ?_) (fun c3 h => ?_)
  · refine lv_aload_n F.1 F.2.1 (dd D_X2_behindOf 14 rfl) rfl (lv_at hl 2 rfl) ?_
    refine getF F hK hP lf_X2_9 (40) (xp_40 cA ax s) rfl (dd D_X2_behindOf 15 rfl) ?_
    refine getF F hK hP lf_X2_52 (1) (xp_1 cA ax s) rfl (dd D_X2_behindOf 16 rfl) ?_
    refine lv_iload_n F.1 F.2.1 (dd D_X2_behindOf 17 rfl) rfl (lv_at hl 1 rfl) ?_
    refine lv_iload_n F.1 F.2.1 (dd D_X2_behindOf 18 rfl) rfl (lv_at hl 0 rfl) ?_
    refine lv_iconst (v := (1 : Int32)) F.1 F.2.1 (dd D_X2_behindOf 19 rfl) ki_1 ?_
    refine lv_isub F.1 F.2.1 (dd D_X2_behindOf 20 rfl) ?_
    refine lv_iconst (v := (4 : Int32)) F.1 F.2.1 (dd D_X2_behindOf 21 rfl) ki_4 ?_
    refine lv_idiv F.1 F.2.1 (dd D_X2_behindOf 22 rfl) kd_4 ?_
    refine lv_iadd F.1 F.2.1 (dd D_X2_behindOf 23 rfl) ?_
    obtain ⟨r4, e5, h⟩ := Option.bind_eq_some_iff.mp h
    refine ro_go (st' := [.int r4]) (rV (rest := []) F (c_X1_makerOf D cA (fun i => ax (2+i)) (st_hill (x_now s)) n ((F_X2_wayOf s p1) + ((r1 - (1 : Int32)) / (4 : Int32))) r4 e5 l) lk_X2_67 (Nat.le_of_ble_eq_true rfl) (preRO hK hS hAb (pg_x_2 hP)) (rcv_1 hK hP (q0 := (2)) (xp_2 cA ax s)) rfl hl rfl (Nat.le_of_ble_eq_true rfl) (dd D_X2_behindOf 24 rfl) ⟨Nat.le_of_ble_eq_true rfl, Nat.le_of_ble_eq_true rfl⟩) rfl ?_
    exact ro_i (R := rmOf 3 0 0) F hr hlk (congrArg (Option.map Value.int) h) (dd D_X2_behindOf 25 rfl)
  · refine lv_iconst (v := (-1 : Int32)) F.1 F.2.1 (dd D_X2_behindOf 12 rfl) ki_m1 ?_
    refine lv_goto (tgt := 43) F.1 F.2.1 (dd D_X2_behindOf 13 rfl) rfl ?_
    exact ro_i (R := rmOf 3 0 0) F hr hlk (congrArg (Option.map Value.int) h) (dd D_X2_behindOf 25 rfl)
def F_X2_shinesFrom (p0 : Int32) (p1 : Int32) (p2 : Int32) : Int32 := (((F_J9_max_7cf53 (((F_J9_min_7cf53 p2 ((p0 + (600 : Int32)) - (1 : Int32))) - (F_J9_max_7cf53 p1 p0)) + (1 : Int32)) (0 : Int32)) + (F_J9_max_7cf53 (((F_J9_min_7cf53 p2 (((p0 + (600 : Int32)) - (1 : Int32)) - (1440 : Int32))) - p1) + (1 : Int32)) (0 : Int32))))
set_option maxHeartbeats 4000000 in
set_option maxRecDepth 100000 in
theorem c_X2_shinesFrom (D : va_G) (cA : Nat → ClassId)  (p0 : Int32) (p1 : Int32) (p2 : Int32) : RO m_X2_shinesFrom 1 D cA [.int p0, .int p1, .int p2] [] (some (.int (F_X2_shinesFrom p0 p1 p2))) := by
  obtain ⟨r, h⟩ : ∃ r, F_X2_shinesFrom p0 p1 p2 = r := ⟨_, rfl⟩
  rw [h]
  refine RO.ofW gy_X2_shinesFrom.2.2 (Nat.le_of_ble_eq_true rfl) ?_
  intro l p e sM m below meth c F hr hlk hK hP hS hAb ls hl
  have hl : lv_has ls 6 [(0, .int p0), (1, .int p1), (2, .int p2)] := hl
  unfold F_X2_shinesFrom at h
  refine lv_iload_n F.1 F.2.1 (dd D_X2_shinesFrom 0 rfl) rfl (lv_at hl 0 rfl) ?_
  refine lv_sipush (v := (600 : Int32)) F.1 F.2.1 (dd D_X2_shinesFrom 1 rfl) ks_600 ?_
  refine lv_iadd F.1 F.2.1 (dd D_X2_shinesFrom 2 rfl) ?_
  refine lv_iconst (v := (1 : Int32)) F.1 F.2.1 (dd D_X2_shinesFrom 3 rfl) ki_1 ?_
  refine lv_isub F.1 F.2.1 (dd D_X2_shinesFrom 4 rfl) ?_
  refine lv_istore_n (lv' := [(3, .int ((p0 + (600 : Int32)) - (1 : Int32))), (0, .int p0), (1, .int p1), (2, .int p2)]) F.1 F.2.1 (dd D_X2_shinesFrom 5 rfl) rfl hl (Nat.le_of_ble_eq_true rfl) rfl (fun ls hl => ?_)
  refine lv_iload_n F.1 F.2.1 (dd D_X2_shinesFrom 6 rfl) rfl (lv_at hl 3 rfl) ?_
  refine lv_iload_n F.1 F.2.1 (dd D_X2_shinesFrom 7 rfl) rfl (lv_at hl 0 rfl) ?_
  refine ro_go (st' := [.int (F_J9_min_7cf53 p2 ((p0 + (600 : Int32)) - (1 : Int32)))]) (rS (rest := []) F (c_J9_min_7cf53 D cA p2 ((p0 + (600 : Int32)) - (1 : Int32)) l) lk_X2_15 (Nat.le_of_ble_eq_true rfl) (preRO hK hS hAb (emP)) rfl hl rfl (Nat.le_of_ble_eq_true rfl) (dd D_X2_shinesFrom 8 rfl) ⟨Nat.le_of_ble_eq_true rfl, Nat.le_of_ble_eq_true rfl⟩) rfl ?_
  refine lv_iload_n F.1 F.2.1 (dd D_X2_shinesFrom 9 rfl) rfl (lv_at hl 2 rfl) ?_
  refine lv_iload_n F.1 F.2.1 (dd D_X2_shinesFrom 10 rfl) rfl (lv_at hl 1 rfl) ?_
  refine ro_go (st' := [.int (F_J9_max_7cf53 p1 p0), .int (F_J9_min_7cf53 p2 ((p0 + (600 : Int32)) - (1 : Int32)))]) (rS (rest := [.int (F_J9_min_7cf53 p2 ((p0 + (600 : Int32)) - (1 : Int32)))]) F (c_J9_max_7cf53 D cA p1 p0 l) lk_X2_70 (Nat.le_of_ble_eq_true rfl) (preRO hK hS hAb (emP)) rfl hl rfl (Nat.le_of_ble_eq_true rfl) (dd D_X2_shinesFrom 11 rfl) ⟨Nat.le_of_ble_eq_true rfl, Nat.le_of_ble_eq_true rfl⟩) rfl ?_
  refine lv_isub F.1 F.2.1 (dd D_X2_shinesFrom 12 rfl) ?_
  refine lv_iconst (v := (1 : Int32)) F.1 F.2.1 (dd D_X2_shinesFrom 13 rfl) ki_1 ?_
  refine lv_iadd F.1 F.2.1 (dd D_X2_shinesFrom 14 rfl) ?_
  refine lv_istore (lv' := [(4, .int (((F_J9_min_7cf53 p2 ((p0 + (600 : Int32)) - (1 : Int32))) - (F_J9_max_7cf53 p1 p0)) + (1 : Int32))), (3, .int ((p0 + (600 : Int32)) - (1 : Int32))), (0, .int p0), (1, .int p1), (2, .int p2)]) F.1 F.2.1 (dd D_X2_shinesFrom 15 rfl) hl (Nat.le_of_ble_eq_true rfl) rfl (fun ls hl => ?_)
  refine lv_iload_n F.1 F.2.1 (dd D_X2_shinesFrom 16 rfl) rfl (lv_at hl 4 rfl) ?_
  refine lv_iload_n F.1 F.2.1 (dd D_X2_shinesFrom 17 rfl) rfl (lv_at hl 1 rfl) ?_
  refine lv_sipush (v := (1440 : Int32)) F.1 F.2.1 (dd D_X2_shinesFrom 18 rfl) ks_1440 ?_
  refine lv_isub F.1 F.2.1 (dd D_X2_shinesFrom 19 rfl) ?_
  refine ro_go (st' := [.int (F_J9_min_7cf53 p2 (((p0 + (600 : Int32)) - (1 : Int32)) - (1440 : Int32)))]) (rS (rest := []) F (c_J9_min_7cf53 D cA p2 (((p0 + (600 : Int32)) - (1 : Int32)) - (1440 : Int32)) l) lk_X2_15 (Nat.le_of_ble_eq_true rfl) (preRO hK hS hAb (emP)) rfl hl rfl (Nat.le_of_ble_eq_true rfl) (dd D_X2_shinesFrom 20 rfl) ⟨Nat.le_of_ble_eq_true rfl, Nat.le_of_ble_eq_true rfl⟩) rfl ?_
  refine lv_iload_n F.1 F.2.1 (dd D_X2_shinesFrom 21 rfl) rfl (lv_at hl 3 rfl) ?_
  refine lv_isub F.1 F.2.1 (dd D_X2_shinesFrom 22 rfl) ?_
  refine lv_iconst (v := (1 : Int32)) F.1 F.2.1 (dd D_X2_shinesFrom 23 rfl) ki_1 ?_
  refine lv_iadd F.1 F.2.1 (dd D_X2_shinesFrom 24 rfl) ?_
  refine lv_istore (lv' := [(5, .int (((F_J9_min_7cf53 p2 (((p0 + (600 : Int32)) - (1 : Int32)) - (1440 : Int32))) - p1) + (1 : Int32))), (4, .int (((F_J9_min_7cf53 p2 ((p0 + (600 : Int32)) - (1 : Int32))) - (F_J9_max_7cf53 p1 p0)) + (1 : Int32))), (3, .int ((p0 + (600 : Int32)) - (1 : Int32))), (0, .int p0), (1, .int p1), (2, .int p2)]) F.1 F.2.1 (dd D_X2_shinesFrom 25 rfl) hl (Nat.le_of_ble_eq_true rfl) rfl (fun ls hl => ?_)
  refine lv_iload F.1 F.2.1 (dd D_X2_shinesFrom 26 rfl) (lv_at hl 1 rfl) ?_
  refine lv_iconst (v := (0 : Int32)) F.1 F.2.1 (dd D_X2_shinesFrom 27 rfl) ki_0 ?_
  refine ro_go (st' := [.int (F_J9_max_7cf53 (((F_J9_min_7cf53 p2 ((p0 + (600 : Int32)) - (1 : Int32))) - (F_J9_max_7cf53 p1 p0)) + (1 : Int32)) (0 : Int32))]) (rS (rest := []) F (c_J9_max_7cf53 D cA (((F_J9_min_7cf53 p2 ((p0 + (600 : Int32)) - (1 : Int32))) - (F_J9_max_7cf53 p1 p0)) + (1 : Int32)) (0 : Int32) l) lk_X2_70 (Nat.le_of_ble_eq_true rfl) (preRO hK hS hAb (emP)) rfl hl rfl (Nat.le_of_ble_eq_true rfl) (dd D_X2_shinesFrom 28 rfl) ⟨Nat.le_of_ble_eq_true rfl, Nat.le_of_ble_eq_true rfl⟩) rfl ?_
  refine lv_iload F.1 F.2.1 (dd D_X2_shinesFrom 29 rfl) (lv_at hl 0 rfl) ?_
  refine lv_iconst (v := (0 : Int32)) F.1 F.2.1 (dd D_X2_shinesFrom 30 rfl) ki_0 ?_
  refine ro_go (st' := [.int (F_J9_max_7cf53 (((F_J9_min_7cf53 p2 (((p0 + (600 : Int32)) - (1 : Int32)) - (1440 : Int32))) - p1) + (1 : Int32)) (0 : Int32)), .int (F_J9_max_7cf53 (((F_J9_min_7cf53 p2 ((p0 + (600 : Int32)) - (1 : Int32))) - (F_J9_max_7cf53 p1 p0)) + (1 : Int32)) (0 : Int32))]) (rS (rest := [.int (F_J9_max_7cf53 (((F_J9_min_7cf53 p2 ((p0 + (600 : Int32)) - (1 : Int32))) - (F_J9_max_7cf53 p1 p0)) + (1 : Int32)) (0 : Int32))]) F (c_J9_max_7cf53 D cA (((F_J9_min_7cf53 p2 (((p0 + (600 : Int32)) - (1 : Int32)) - (1440 : Int32))) - p1) + (1 : Int32)) (0 : Int32) l) lk_X2_70 (Nat.le_of_ble_eq_true rfl) (preRO hK hS hAb (emP)) rfl hl rfl (Nat.le_of_ble_eq_true rfl) (dd D_X2_shinesFrom 31 rfl) ⟨Nat.le_of_ble_eq_true rfl, Nat.le_of_ble_eq_true rfl⟩) rfl ?_
  refine lv_iadd F.1 F.2.1 (dd D_X2_shinesFrom 32 rfl) ?_
  exact ro_i (R := rmOf 1 0 0) F hr hlk (congrArg (fun z => some (Value.int z)) h) (dd D_X2_shinesFrom 33 rfl)
def F_X2_shinesOf (n : Nat) (s : XS) (p1 : Int32) (p2 : Int32) (p3 : Int32) : Option Int32 := (((F_X2_upOf n s p1)).bind fun r1 => some ((F_X2_shinesFrom r1 p2 p3)))
set_option maxHeartbeats 4000000 in
set_option maxRecDepth 100000 in
theorem c_X2_shinesOf (D : va_G) (cA : Nat → ClassId) (ax : Nat → Nat) (s : XS) (n : Nat) (p1 : Int32) (p2 : Int32) (p3 : Int32) (r : Int32) (h : F_X2_shinesOf n s p1 p2 p3 = some r) : RO m_X2_shinesOf 3 D cA [.ref (ax 40), .int p1, .int p2, .int p3] (xW cA ax s) (some (.int r)) := by
  refine RO.ofW gy_X2_shinesOf.2.2 (Nat.le_of_ble_eq_true rfl) ?_
  intro l p e sM m below meth c F hr hlk hK hP hS hAb ls hl
  have hl : lv_has ls 4 [(0, .ref (ax 40)), (1, .int p1), (2, .int p2), (3, .int p3)] := hl
  unfold F_X2_shinesOf at h
  refine lv_aload_n F.1 F.2.1 (dd D_X2_shinesOf 0 rfl) rfl (lv_at hl 0 rfl) ?_
  refine lv_iload_n F.1 F.2.1 (dd D_X2_shinesOf 1 rfl) rfl (lv_at hl 1 rfl) ?_
  obtain ⟨r1, e2, h⟩ := Option.bind_eq_some_iff.mp h
  refine ro_go (st' := [.int r1]) (rV (rest := []) F (c_X2_upOf D cA ax s n p1 r1 e2 l) lk_X2_64 (Nat.le_of_ble_eq_true rfl) (preRO hK hS hAb hP) (rcv_2 hK hP (q0 := (40)) (xp_40 cA ax s)) rfl hl rfl (Nat.le_of_ble_eq_true rfl) (dd D_X2_shinesOf 2 rfl) ⟨Nat.le_of_ble_eq_true rfl, Nat.le_of_ble_eq_true rfl⟩) rfl ?_
  refine lv_iload_n F.1 F.2.1 (dd D_X2_shinesOf 3 rfl) rfl (lv_at hl 2 rfl) ?_
  refine lv_iload_n F.1 F.2.1 (dd D_X2_shinesOf 4 rfl) rfl (lv_at hl 3 rfl) ?_
  refine ro_go (st' := [.int (F_X2_shinesFrom r1 p2 p3)]) (rS (rest := []) F (c_X2_shinesFrom D cA r1 p2 p3 l) lk_X2_73 (Nat.le_of_ble_eq_true rfl) (preRO hK hS hAb (emP)) rfl hl rfl (Nat.le_of_ble_eq_true rfl) (dd D_X2_shinesOf 5 rfl) ⟨Nat.le_of_ble_eq_true rfl, Nat.le_of_ble_eq_true rfl⟩) rfl ?_
  exact ro_i (R := rmOf 3 0 0) F hr hlk (congrArg (Option.map Value.int) h) (dd D_X2_shinesOf 6 rfl)
def F_X2_lightOf (n : Nat) (s : XS) (p1 : Int32) (p2 : Int32) (p3 : Int32) : Option Int32 := (((F_X2_upOf n s p1)).bind fun r1 => some ((((F_X2_shinesFrom r1 p2 p3) * (F_X2_litOf s p1)) / (100 : Int32))))
set_option maxHeartbeats 4000000 in
set_option maxRecDepth 100000 in
theorem c_X2_lightOf (D : va_G) (cA : Nat → ClassId) (ax : Nat → Nat) (s : XS) (n : Nat) (p1 : Int32) (p2 : Int32) (p3 : Int32) (r : Int32) (h : F_X2_lightOf n s p1 p2 p3 = some r) : RO m_X2_lightOf 3 D cA [.ref (ax 40), .int p1, .int p2, .int p3] (xW cA ax s) (some (.int r)) := by
  refine RO.ofW gy_X2_lightOf.2.2 (Nat.le_of_ble_eq_true rfl) ?_
  intro l p e sM m below meth c F hr hlk hK hP hS hAb ls hl
  have hl : lv_has ls 4 [(0, .ref (ax 40)), (1, .int p1), (2, .int p2), (3, .int p3)] := hl
  unfold F_X2_lightOf at h
  refine lv_aload_n F.1 F.2.1 (dd D_X2_lightOf 0 rfl) rfl (lv_at hl 0 rfl) ?_
  refine lv_iload_n F.1 F.2.1 (dd D_X2_lightOf 1 rfl) rfl (lv_at hl 1 rfl) ?_
  obtain ⟨r1, e2, h⟩ := Option.bind_eq_some_iff.mp h
  refine ro_go (st' := [.int r1]) (rV (rest := []) F (c_X2_upOf D cA ax s n p1 r1 e2 l) lk_X2_64 (Nat.le_of_ble_eq_true rfl) (preRO hK hS hAb hP) (rcv_2 hK hP (q0 := (40)) (xp_40 cA ax s)) rfl hl rfl (Nat.le_of_ble_eq_true rfl) (dd D_X2_lightOf 2 rfl) ⟨Nat.le_of_ble_eq_true rfl, Nat.le_of_ble_eq_true rfl⟩) rfl ?_
  refine lv_iload_n F.1 F.2.1 (dd D_X2_lightOf 3 rfl) rfl (lv_at hl 2 rfl) ?_
  refine lv_iload_n F.1 F.2.1 (dd D_X2_lightOf 4 rfl) rfl (lv_at hl 3 rfl) ?_
  refine ro_go (st' := [.int (F_X2_shinesFrom r1 p2 p3)]) (rS (rest := []) F (c_X2_shinesFrom D cA r1 p2 p3 l) lk_X2_73 (Nat.le_of_ble_eq_true rfl) (preRO hK hS hAb (emP)) rfl hl rfl (Nat.le_of_ble_eq_true rfl) (dd D_X2_lightOf 5 rfl) ⟨Nat.le_of_ble_eq_true rfl, Nat.le_of_ble_eq_true rfl⟩) rfl ?_
  refine lv_aload_n F.1 F.2.1 (dd D_X2_lightOf 6 rfl) rfl (lv_at hl 0 rfl) ?_
  refine lv_iload_n F.1 F.2.1 (dd D_X2_lightOf 7 rfl) rfl (lv_at hl 1 rfl) ?_
  refine ro_go (st' := [.int (F_X2_litOf s p1), .int (F_X2_shinesFrom r1 p2 p3)]) (rV (rest := [.int (F_X2_shinesFrom r1 p2 p3)]) F (c_X2_litOf D cA ax s p1 l) lk_X2_77 (Nat.le_of_ble_eq_true rfl) (preRO hK hS hAb hP) (rcv_2 hK hP (q0 := (40)) (xp_40 cA ax s)) rfl hl rfl (Nat.le_of_ble_eq_true rfl) (dd D_X2_lightOf 8 rfl) ⟨Nat.le_of_ble_eq_true rfl, Nat.le_of_ble_eq_true rfl⟩) rfl ?_
  refine lv_imul F.1 F.2.1 (dd D_X2_lightOf 9 rfl) ?_
  refine lv_bipush (v := (100 : Int32)) F.1 F.2.1 (dd D_X2_lightOf 10 rfl) kb_100 ?_
  refine lv_idiv F.1 F.2.1 (dd D_X2_lightOf 11 rfl) kd_100 ?_
  exact ro_i (R := rmOf 3 0 0) F hr hlk (congrArg (Option.map Value.int) h) (dd D_X2_lightOf 12 rfl)
def F_X2_isFull (s : XS) (p1 : Int32) : Bool := ((F_X8_isIn (F_X2_ageOf s p1) (1427 : Int32) (1526 : Int32)))
set_option maxHeartbeats 4000000 in
set_option maxRecDepth 100000 in
theorem c_X2_isFull (D : va_G) (cA : Nat → ClassId) (ax : Nat → Nat) (s : XS) (p1 : Int32) : RO m_X2_isFull 1 D cA [.ref (ax 40), .int p1] (xW cA ax s) (some (.int (bI (F_X2_isFull s p1)))) := by
  obtain ⟨r, h⟩ : ∃ r, F_X2_isFull s p1 = r := ⟨_, rfl⟩
  rw [h]
  refine RO.ofW gy_X2_isFull.2.2 (Nat.le_of_ble_eq_true rfl) ?_
  intro l p e sM m below meth c F hr hlk hK hP hS hAb ls hl
  have hl : lv_has ls 2 [(0, .ref (ax 40)), (1, .int p1)] := hl
  unfold F_X2_isFull at h
  refine lv_aload_n F.1 F.2.1 (dd D_X2_isFull 0 rfl) rfl (lv_at hl 0 rfl) ?_
  refine lv_iload_n F.1 F.2.1 (dd D_X2_isFull 1 rfl) rfl (lv_at hl 1 rfl) ?_
  refine ro_go (st' := [.int (F_X2_ageOf s p1)]) (rV (rest := []) F (c_X2_ageOf D cA ax s p1 l) lk_X2_27 (Nat.le_of_ble_eq_true rfl) (preRO hK hS hAb hP) (rcv_2 hK hP (q0 := (40)) (xp_40 cA ax s)) rfl hl rfl (Nat.le_of_ble_eq_true rfl) (dd D_X2_isFull 2 rfl) ⟨Nat.le_of_ble_eq_true rfl, Nat.le_of_ble_eq_true rfl⟩) rfl ?_
  refine lv_sipush (v := (1427 : Int32)) F.1 F.2.1 (dd D_X2_isFull 3 rfl) ks_1427 ?_
  refine lv_sipush (v := (1526 : Int32)) F.1 F.2.1 (dd D_X2_isFull 4 rfl) ks_1526 ?_
  refine ro_go (st' := [.int (bI (F_X8_isIn (F_X2_ageOf s p1) (1427 : Int32) (1526 : Int32)))]) (rSN hK (rest := []) F (c_X8_isIn D cA (F_X2_ageOf s p1) (1427 : Int32) (1526 : Int32) l) lk_X2_80 (Nat.le_of_ble_eq_true rfl) (preRO hK hS hAb (emP)) rfl hl rfl (Nat.le_of_ble_eq_true rfl) (dd D_X2_isFull 5 rfl) ⟨Nat.le_of_ble_eq_true rfl, Nat.le_of_ble_eq_true rfl⟩) rfl ?_
  exact ro_z (R := rmOf 1 0 0) F hr (bI_nar _) hlk (congrArg (fun z => some (Value.int (bI z))) h) (dd D_X2_isFull 6 rfl)
def F_X2_saysOf (n : Nat) (s : XS) (p1 : Int32) (p2 : Int32) : Option Int32 := (if p2 = (1 : Int32) then some ((F_J9_abs_0f7a4 ((F_X2_ageOf s p1) - (1476 : Int32)))) else (if p2 = (2 : Int32) then (((F_X2_laterOf n s p1)).bind fun r2 => some (r2)) else (if p2 = (3 : Int32) then some (((28 : Int32) - (F_X2_outOf s p1))) else (if p2 = (4 : Int32) then some ((F_X2_ageOf s p1)) else (if p2 = (5 : Int32) then (((F_X2_shinesOf n s p1 (1320 : Int32) (1439 : Int32))).bind fun r4 => some (r4)) else some (p1))))))
set_option maxHeartbeats 4000000 in
set_option maxRecDepth 100000 in
theorem c_X2_saysOf (D : va_G) (cA : Nat → ClassId) (ax : Nat → Nat) (s : XS) (n : Nat) (p1 : Int32) (p2 : Int32) (r : Int32) (h : F_X2_saysOf n s p1 p2 = some r) : RO m_X2_saysOf 4 D cA [.ref (ax 40), .int p1, .int p2] (xW cA ax s) (some (.int r)) := by
  refine RO.ofW gy_X2_saysOf.2.2 (Nat.le_of_ble_eq_true rfl) ?_
  intro l p e sM m below meth c F hr hlk hK hP hS hAb ls hl
  have hl : lv_has ls 3 [(0, .ref (ax 40)), (1, .int p1), (2, .int p2)] := hl
  unfold F_X2_saysOf at h
  refine lv_iload_n F.1 F.2.1 (dd D_X2_saysOf 0 rfl) rfl (lv_at hl 2 rfl) ?_
  refine x_ts (tgt := 36) F.1 F.2.1 (1 : Int32) (dd D_X2_saysOf 1 rfl) h (by decide) (by decide) rfl rfl (fun c1_0 h => ?_) (fun c1_0 h => ?_)
  · refine lv_aload_n F.1 F.2.1 (dd D_X2_saysOf 2 rfl) rfl (lv_at hl 0 rfl) ?_
    refine lv_iload_n F.1 F.2.1 (dd D_X2_saysOf 3 rfl) rfl (lv_at hl 1 rfl) ?_
    refine ro_go (st' := [.int (F_X2_ageOf s p1)]) (rV (rest := []) F (c_X2_ageOf D cA ax s p1 l) lk_X2_27 (Nat.le_of_ble_eq_true rfl) (preRO hK hS hAb hP) (rcv_2 hK hP (q0 := (40)) (xp_40 cA ax s)) rfl hl rfl (Nat.le_of_ble_eq_true rfl) (dd D_X2_saysOf 4 rfl) ⟨Nat.le_of_ble_eq_true rfl, Nat.le_of_ble_eq_true rfl⟩) rfl ?_
    refine lv_sipush (v := (1476 : Int32)) F.1 F.2.1 (dd D_X2_saysOf 5 rfl) ks_1476 ?_
    refine lv_isub F.1 F.2.1 (dd D_X2_saysOf 6 rfl) ?_
    refine ro_go (st' := [.int (F_J9_abs_0f7a4 ((F_X2_ageOf s p1) - (1476 : Int32)))]) (rS (rest := []) F (c_J9_abs_0f7a4 D cA ((F_X2_ageOf s p1) - (1476 : Int32)) l) lk_X2_84 (Nat.le_of_ble_eq_true rfl) (preRO hK hS hAb (emP)) rfl hl rfl (Nat.le_of_ble_eq_true rfl) (dd D_X2_saysOf 7 rfl) ⟨Nat.le_of_ble_eq_true rfl, Nat.le_of_ble_eq_true rfl⟩) rfl ?_
    exact ro_i (R := rmOf 4 0 0) F hr hlk (congrArg (Option.map Value.int) h) (dd D_X2_saysOf 8 rfl)
  refine x_ts (tgt := 49) F.1 F.2.1 (2 : Int32) (dd D_X2_saysOf 1 rfl) h (by decide) (by decide) rfl rfl (fun c1_1 h => ?_) (fun c1_1 h => ?_)
  · refine lv_aload_n F.1 F.2.1 (dd D_X2_saysOf 9 rfl) rfl (lv_at hl 0 rfl) ?_
    refine lv_iload_n F.1 F.2.1 (dd D_X2_saysOf 10 rfl) rfl (lv_at hl 1 rfl) ?_
    obtain ⟨r2, e3, h⟩ := Option.bind_eq_some_iff.mp h
    refine ro_go (st' := [.int r2]) (rV (rest := []) F (c_X2_laterOf D cA ax s n p1 r2 e3 l) lk_X2_87 (Nat.le_of_ble_eq_true rfl) (preRO hK hS hAb hP) (rcv_2 hK hP (q0 := (40)) (xp_40 cA ax s)) rfl hl rfl (Nat.le_of_ble_eq_true rfl) (dd D_X2_saysOf 11 rfl) ⟨Nat.le_of_ble_eq_true rfl, Nat.le_of_ble_eq_true rfl⟩) rfl ?_
    exact ro_i (R := rmOf 4 0 0) F hr hlk (congrArg (Option.map Value.int) h) (dd D_X2_saysOf 12 rfl)
  refine x_ts (tgt := 55) F.1 F.2.1 (3 : Int32) (dd D_X2_saysOf 1 rfl) h (by decide) (by decide) rfl rfl (fun c1_2 h => ?_) (fun c1_2 h => ?_)
  · refine lv_bipush (v := (28 : Int32)) F.1 F.2.1 (dd D_X2_saysOf 13 rfl) kb_28 ?_
    refine lv_aload_n F.1 F.2.1 (dd D_X2_saysOf 14 rfl) rfl (lv_at hl 0 rfl) ?_
    refine lv_iload_n F.1 F.2.1 (dd D_X2_saysOf 15 rfl) rfl (lv_at hl 1 rfl) ?_
    refine ro_go (st' := [.int (F_X2_outOf s p1), .int (28 : Int32)]) (rV (rest := [.int (28 : Int32)]) F (c_X2_outOf D cA ax s p1 l) lk_X2_34 (Nat.le_of_ble_eq_true rfl) (preRO hK hS hAb hP) (rcv_2 hK hP (q0 := (40)) (xp_40 cA ax s)) rfl hl rfl (Nat.le_of_ble_eq_true rfl) (dd D_X2_saysOf 16 rfl) ⟨Nat.le_of_ble_eq_true rfl, Nat.le_of_ble_eq_true rfl⟩) rfl ?_
    refine lv_isub F.1 F.2.1 (dd D_X2_saysOf 17 rfl) ?_
    exact ro_i (R := rmOf 4 0 0) F hr hlk (congrArg (Option.map Value.int) h) (dd D_X2_saysOf 18 rfl)
  refine x_ts (tgt := 64) F.1 F.2.1 (4 : Int32) (dd D_X2_saysOf 1 rfl) h (by decide) (by decide) rfl rfl (fun c1_3 h => ?_) (fun c1_3 h => ?_)
  · refine lv_aload_n F.1 F.2.1 (dd D_X2_saysOf 19 rfl) rfl (lv_at hl 0 rfl) ?_
    refine lv_iload_n F.1 F.2.1 (dd D_X2_saysOf 20 rfl) rfl (lv_at hl 1 rfl) ?_
    refine ro_go (st' := [.int (F_X2_ageOf s p1)]) (rV (rest := []) F (c_X2_ageOf D cA ax s p1 l) lk_X2_27 (Nat.le_of_ble_eq_true rfl) (preRO hK hS hAb hP) (rcv_2 hK hP (q0 := (40)) (xp_40 cA ax s)) rfl hl rfl (Nat.le_of_ble_eq_true rfl) (dd D_X2_saysOf 21 rfl) ⟨Nat.le_of_ble_eq_true rfl, Nat.le_of_ble_eq_true rfl⟩) rfl ?_
    exact ro_i (R := rmOf 4 0 0) F hr hlk (congrArg (Option.map Value.int) h) (dd D_X2_saysOf 22 rfl)
  refine x_ts (tgt := 70) F.1 F.2.1 (5 : Int32) (dd D_X2_saysOf 1 rfl) h (by decide) (by decide) rfl rfl (fun c1_4 h => ?_) (fun c1_4 h => ?_)
  · refine lv_aload_n F.1 F.2.1 (dd D_X2_saysOf 23 rfl) rfl (lv_at hl 0 rfl) ?_
    refine lv_iload_n F.1 F.2.1 (dd D_X2_saysOf 24 rfl) rfl (lv_at hl 1 rfl) ?_
    refine lv_sipush (v := (1320 : Int32)) F.1 F.2.1 (dd D_X2_saysOf 25 rfl) ks_1320 ?_
    refine lv_sipush (v := (1439 : Int32)) F.1 F.2.1 (dd D_X2_saysOf 26 rfl) ks_1439 ?_
    obtain ⟨r4, e5, h⟩ := Option.bind_eq_some_iff.mp h
    refine ro_go (st' := [.int r4]) (rV (rest := []) F (c_X2_shinesOf D cA ax s n p1 (1320 : Int32) (1439 : Int32) r4 e5 l) lk_X2_90 (Nat.le_of_ble_eq_true rfl) (preRO hK hS hAb hP) (rcv_2 hK hP (q0 := (40)) (xp_40 cA ax s)) rfl hl rfl (Nat.le_of_ble_eq_true rfl) (dd D_X2_saysOf 27 rfl) ⟨Nat.le_of_ble_eq_true rfl, Nat.le_of_ble_eq_true rfl⟩) rfl ?_
    exact ro_i (R := rmOf 4 0 0) F hr hlk (congrArg (Option.map Value.int) h) (dd D_X2_saysOf 28 rfl)
  refine lv_tableOut (tgt := 82) F.1 F.2.1 (dd D_X2_saysOf 1 rfl) (ts_out (lo := 1) (vs := [(1 : Int32), (2 : Int32), (3 : Int32), (4 : Int32), (5 : Int32)]) tsv_1_5 (by intro v hv; simp only [List.mem_cons, List.not_mem_nil, or_false] at hv; rcases hv with rfl | rfl | rfl | rfl | rfl <;> assumption)) rfl ?_
  refine lv_iload_n F.1 F.2.1 (dd D_X2_saysOf 29 rfl) rfl (lv_at hl 1 rfl) ?_
  exact ro_i (R := rmOf 4 0 0) F hr hlk (congrArg (Option.map Value.int) h) (dd D_X2_saysOf 30 rfl)
def F_X2_isAtNode (s : XS) (p1 : Int32) : Bool := (if (jrem (((100 : Int32) * p1) + (st_node (x_now s))) (1366 : Int32)) ≤ (80 : Int32) then (true) else (if (jrem (((100 : Int32) * p1) + (st_node (x_now s))) (1366 : Int32)) < (1286 : Int32) then (false) else (true)))
set_option maxHeartbeats 4000000 in
set_option maxRecDepth 100000 in
theorem c_X2_isAtNode (D : va_G) (cA : Nat → ClassId) (ax : Nat → Nat) (s : XS) (p1 : Int32) : RO m_X2_isAtNode 0 D cA [.ref (ax 40), .int p1] (xW cA ax s) (some (.int (bI (F_X2_isAtNode s p1)))) := by
  obtain ⟨r, h⟩ : ∃ r, F_X2_isAtNode s p1 = r := ⟨_, rfl⟩
  rw [h]
  refine RO.ofW gy_X2_isAtNode.2.2 (Nat.le_of_ble_eq_true rfl) ?_
  intro l p e sM m below meth c F hr hlk hK hP hS hAb ls hl
  have hl : lv_has ls 3 [(0, .ref (ax 40)), (1, .int p1)] := hl
  unfold F_X2_isAtNode at h
  refine lv_bipush (v := (100 : Int32)) F.1 F.2.1 (dd D_X2_isAtNode 0 rfl) kb_100 ?_
  refine lv_iload_n F.1 F.2.1 (dd D_X2_isAtNode 1 rfl) rfl (lv_at hl 1 rfl) ?_
  refine lv_imul F.1 F.2.1 (dd D_X2_isAtNode 2 rfl) ?_
  refine lv_aload_n F.1 F.2.1 (dd D_X2_isAtNode 3 rfl) rfl (lv_at hl 0 rfl) ?_
  refine getF F hK hP lf_X2_9 (40) (xp_40 cA ax s) rfl (dd D_X2_isAtNode 4 rfl) ?_
  refine getF F hK hP lf_X2_37 (1) (xp_1 cA ax s) rfl (dd D_X2_isAtNode 5 rfl) ?_
  refine lv_iadd F.1 F.2.1 (dd D_X2_isAtNode 6 rfl) ?_
  refine lv_sipush (v := (1366 : Int32)) F.1 F.2.1 (dd D_X2_isAtNode 7 rfl) ks_1366 ?_
  refine x_irem F.1 F.2.1 (dd D_X2_isAtNode 8 rfl) kd_1366 ?_
  refine lv_istore_n (lv' := [(2, .int (jrem (((100 : Int32) * p1) + (st_node (x_now s))) (1366 : Int32))), (0, .ref (ax 40)), (1, .int p1)]) F.1 F.2.1 (dd D_X2_isAtNode 9 rfl) rfl hl (Nat.le_of_ble_eq_true rfl) rfl (fun ls hl => ?_)
  refine lv_iload_n F.1 F.2.1 (dd D_X2_isAtNode 10 rfl) rfl (lv_at hl 0 rfl) ?_
  refine lv_bipush (v := (80 : Int32)) F.1 F.2.1 (dd D_X2_isAtNode 11 rfl) kb_80 ?_
  refine x_icmp_le (tgt := 30) F.1 F.2.1 (dd D_X2_isAtNode 12 rfl) rfl h (fun c1 h => ?_) (fun c1 h => ?_)
  · refine lv_iconst (v := (1 : Int32)) F.1 F.2.1 (dd D_X2_isAtNode 16 rfl) ki_1 ?_
    refine lv_goto (tgt := 35) F.1 F.2.1 (dd D_X2_isAtNode 17 rfl) rfl ?_
    exact ro_z (R := rmOf 0 0 0) F hr rfl hlk (congrArg (fun z => some (Value.int (bI z))) h) (dd D_X2_isAtNode 19 rfl)
  · refine lv_iload_n F.1 F.2.1 (dd D_X2_isAtNode 13 rfl) rfl (lv_at hl 0 rfl) ?_
    refine lv_sipush (v := (1286 : Int32)) F.1 F.2.1 (dd D_X2_isAtNode 14 rfl) ks_1286 ?_
    refine x_icmp_lt (tgt := 34) F.1 F.2.1 (dd D_X2_isAtNode 15 rfl) rfl h (fun c2 h => ?_) (fun c2 h => ?_)
    · refine lv_iconst (v := (0 : Int32)) F.1 F.2.1 (dd D_X2_isAtNode 18 rfl) ki_0 ?_
      exact ro_z (R := rmOf 0 0 0) F hr rfl hlk (congrArg (fun z => some (Value.int (bI z))) h) (dd D_X2_isAtNode 19 rfl)
    · refine lv_iconst (v := (1 : Int32)) F.1 F.2.1 (dd D_X2_isAtNode 16 rfl) ki_1 ?_
      refine lv_goto (tgt := 35) F.1 F.2.1 (dd D_X2_isAtNode 17 rfl) rfl ?_
      exact ro_z (R := rmOf 0 0 0) F hr rfl hlk (congrArg (fun z => some (Value.int (bI z))) h) (dd D_X2_isAtNode 19 rfl)
def F_X2_minutesUp (p0 : Int32) (p1 : Int32) : Int32 := (if (600 : Int32) < (F_J9_floorMod_7cf53 (p1 - p0) (1440 : Int32)) then ((-1 : Int32)) else ((F_J9_floorMod_7cf53 (p1 - p0) (1440 : Int32))))
set_option maxHeartbeats 4000000 in
set_option maxRecDepth 100000 in
theorem c_X2_minutesUp (D : va_G) (cA : Nat → ClassId)  (p0 : Int32) (p1 : Int32) : RO m_X2_minutesUp 1 D cA [.int p0, .int p1] [] (some (.int (F_X2_minutesUp p0 p1))) := by
  obtain ⟨r, h⟩ : ∃ r, F_X2_minutesUp p0 p1 = r := ⟨_, rfl⟩
  rw [h]
  refine RO.ofW gy_X2_minutesUp.2.2 (Nat.le_of_ble_eq_true rfl) ?_
  intro l p e sM m below meth c F hr hlk hK hP hS hAb ls hl
  have hl : lv_has ls 3 [(0, .int p0), (1, .int p1)] := hl
  unfold F_X2_minutesUp at h
  refine lv_iload_n F.1 F.2.1 (dd D_X2_minutesUp 0 rfl) rfl (lv_at hl 1 rfl) ?_
  refine lv_iload_n F.1 F.2.1 (dd D_X2_minutesUp 1 rfl) rfl (lv_at hl 0 rfl) ?_
  refine lv_isub F.1 F.2.1 (dd D_X2_minutesUp 2 rfl) ?_
  refine lv_sipush (v := (1440 : Int32)) F.1 F.2.1 (dd D_X2_minutesUp 3 rfl) ks_1440 ?_
  refine ro_go (st' := [.int (F_J9_floorMod_7cf53 (p1 - p0) (1440 : Int32))]) (rS (rest := []) F (c_J9_floorMod_7cf53 D cA (p1 - p0) (1440 : Int32) kd_1440 l) lk_X2_40 (Nat.le_of_ble_eq_true rfl) (preRO hK hS hAb (emP)) rfl hl rfl (Nat.le_of_ble_eq_true rfl) (dd D_X2_minutesUp 4 rfl) ⟨Nat.le_of_ble_eq_true rfl, Nat.le_of_ble_eq_true rfl⟩) rfl ?_
  refine lv_istore_n (lv' := [(2, .int (F_J9_floorMod_7cf53 (p1 - p0) (1440 : Int32))), (0, .int p0), (1, .int p1)]) F.1 F.2.1 (dd D_X2_minutesUp 5 rfl) rfl hl (Nat.le_of_ble_eq_true rfl) rfl (fun ls hl => ?_)
  refine lv_iload_n F.1 F.2.1 (dd D_X2_minutesUp 6 rfl) rfl (lv_at hl 0 rfl) ?_
  refine lv_sipush (v := (600 : Int32)) F.1 F.2.1 (dd D_X2_minutesUp 7 rfl) ks_600 ?_
  refine x_icmp_gt (tgt := 21) F.1 F.2.1 (dd D_X2_minutesUp 8 rfl) rfl h (fun c1 h => ?_) (fun c1 h => ?_)
  · refine lv_iconst (v := (-1 : Int32)) F.1 F.2.1 (dd D_X2_minutesUp 11 rfl) ki_m1 ?_
    exact ro_i (R := rmOf 1 0 0) F hr hlk (congrArg (fun z => some (Value.int z)) h) (dd D_X2_minutesUp 12 rfl)
  · refine lv_iload_n F.1 F.2.1 (dd D_X2_minutesUp 9 rfl) rfl (lv_at hl 0 rfl) ?_
    refine lv_goto (tgt := 22) F.1 F.2.1 (dd D_X2_minutesUp 10 rfl) rfl ?_
    exact ro_i (R := rmOf 1 0 0) F hr hlk (congrArg (fun z => some (Value.int z)) h) (dd D_X2_minutesUp 12 rfl)
def F_X2_isAsPictured (n : Nat) (s : XS) (k : Nat) (p2 : Int32) : Option Bool := (((F_X5_at n (x_sh s k) (6 : Int32))).bind fun r1 => (if (F_X2_minutesUp (F_X2_riseBy (F_X2_ageOf s p2) (F_X2_slantOf s p2)) (Int64.toInt32 r1)) = (-1 : Int32) then some (false) else (((F_X5_isSpan n (x_sh s k) (0 : Int32) (F_X2_litOf s p2))).bind fun r4 => bf r4 ((((F_X5_isSpan n (x_sh s k) (2 : Int32) ((F_X2_wayBy (F_X2_slantOf s p2)) + ((F_X2_minutesUp (F_X2_riseBy (F_X2_ageOf s p2) (F_X2_slantOf s p2)) (Int64.toInt32 r1)) / (4 : Int32))))).bind fun r6 => bf r6 ((((F_X5_isSpan n (x_sh s k) (4 : Int32) ((F_X2_minutesUp (F_X2_riseBy (F_X2_ageOf s p2) (F_X2_slantOf s p2)) (Int64.toInt32 r1)) / (5 : Int32)))).bind fun r8 => bf r8 (some (true)) (some (false)))) (some (false)))) (some (false)))))
set_option maxHeartbeats 4000000 in
set_option maxRecDepth 100000 in
theorem c_X2_isAsPictured (D : va_G) (cA : Nat → ClassId) (ax : Nat → Nat) (s : XS) (k : Nat) (hk : k < 8) (n : Nat) (p2 : Int32) (r : Bool) (h : F_X2_isAsPictured n s k p2 = some r) : RO m_X2_isAsPictured 2 D cA [.ref (ax 40), .ref (ax (46+2*k)), .int p2] (xW cA ax s) (some (.int (bI r))) := by
  refine RO.ofW gy_X2_isAsPictured.2.2 (Nat.le_of_ble_eq_true rfl) ?_
  intro l p e sM m below meth c F hr hlk hK hP hS hAb ls hl
  have hl : lv_has ls 6 [(0, .ref (ax 40)), (1, .ref (ax (46+2*k))), (2, .int p2)] := hl
  unfold F_X2_isAsPictured at h
  refine lv_aload_n F.1 F.2.1 (dd D_X2_isAsPictured 0 rfl) rfl (lv_at hl 1 rfl) ?_
  refine lv_bipush (v := (6 : Int32)) F.1 F.2.1 (dd D_X2_isAsPictured 1 rfl) kb_6 ?_
  obtain ⟨r1, e2, h⟩ := Option.bind_eq_some_iff.mp h
  refine ro_go (st' := [.long r1]) (rV (rest := []) F (c_X5_at D cA (fun i => ax (46+2*k+i)) (x_sh s k) n (6 : Int32) r1 e2 l) lk_X2_162 (Nat.le_of_ble_eq_true rfl) (preRO hK hS hAb (pg_sh hk hP)) (rcv_5 hK hP (q0 := (46+2*k)) (xp_sh cA ax s k hk)) rfl hl rfl (Nat.le_of_ble_eq_true rfl) (dd D_X2_isAsPictured 2 rfl) ⟨Nat.le_of_ble_eq_true rfl, Nat.le_of_ble_eq_true rfl⟩) rfl ?_
  refine lv_l2i (v := (Int64.toInt32 r1)) F.1 F.2.1 (dd D_X2_isAsPictured 3 rfl) rfl ?_
  refine lv_istore_n (lv' := [(3, .int (Int64.toInt32 r1)), (0, .ref (ax 40)), (1, .ref (ax (46+2*k))), (2, .int p2)]) F.1 F.2.1 (dd D_X2_isAsPictured 4 rfl) rfl hl (Nat.le_of_ble_eq_true rfl) rfl (fun ls hl => ?_)
  refine lv_aload_n F.1 F.2.1 (dd D_X2_isAsPictured 5 rfl) rfl (lv_at hl 1 rfl) ?_
  refine lv_iload_n F.1 F.2.1 (dd D_X2_isAsPictured 6 rfl) rfl (lv_at hl 3 rfl) ?_
  refine ro_go (st' := [.int (F_X2_slantOf s p2)]) (rV (rest := []) F (c_X2_slantOf D cA ax s p2 l) lk_X2_43 (Nat.le_of_ble_eq_true rfl) (preRO hK hS hAb hP) (rcv_2 hK hP (q0 := (40)) (xp_40 cA ax s)) rfl hl rfl (Nat.le_of_ble_eq_true rfl) (dd D_X2_isAsPictured 7 rfl) ⟨Nat.le_of_ble_eq_true rfl, Nat.le_of_ble_eq_true rfl⟩) rfl ?_
  refine lv_istore (lv' := [(4, .int (F_X2_slantOf s p2)), (3, .int (Int64.toInt32 r1)), (0, .ref (ax 40)), (1, .ref (ax (46+2*k))), (2, .int p2)]) F.1 F.2.1 (dd D_X2_isAsPictured 8 rfl) hl (Nat.le_of_ble_eq_true rfl) rfl (fun ls hl => ?_)
  refine lv_aload_n F.1 F.2.1 (dd D_X2_isAsPictured 9 rfl) rfl (lv_at hl 2 rfl) ?_
  refine lv_iload_n F.1 F.2.1 (dd D_X2_isAsPictured 10 rfl) rfl (lv_at hl 4 rfl) ?_
  refine ro_go (st' := [.int (F_X2_ageOf s p2)]) (rV (rest := []) F (c_X2_ageOf D cA ax s p2 l) lk_X2_27 (Nat.le_of_ble_eq_true rfl) (preRO hK hS hAb hP) (rcv_2 hK hP (q0 := (40)) (xp_40 cA ax s)) rfl hl rfl (Nat.le_of_ble_eq_true rfl) (dd D_X2_isAsPictured 11 rfl) ⟨Nat.le_of_ble_eq_true rfl, Nat.le_of_ble_eq_true rfl⟩) rfl ?_
  refine lv_iload F.1 F.2.1 (dd D_X2_isAsPictured 12 rfl) (lv_at hl 0 rfl) ?_
  refine ro_go (st' := [.int (F_X2_riseBy (F_X2_ageOf s p2) (F_X2_slantOf s p2))]) (rS (rest := []) F (c_X2_riseBy D cA (F_X2_ageOf s p2) (F_X2_slantOf s p2) l) lk_X2_46 (Nat.le_of_ble_eq_true rfl) (preRO hK hS hAb (emP)) rfl hl rfl (Nat.le_of_ble_eq_true rfl) (dd D_X2_isAsPictured 13 rfl) ⟨Nat.le_of_ble_eq_true rfl, Nat.le_of_ble_eq_true rfl⟩) rfl ?_
  refine lv_iload_n F.1 F.2.1 (dd D_X2_isAsPictured 14 rfl) rfl (lv_at hl 1 rfl) ?_
  refine ro_go (st' := [.int (F_X2_minutesUp (F_X2_riseBy (F_X2_ageOf s p2) (F_X2_slantOf s p2)) (Int64.toInt32 r1))]) (rS (rest := []) F (c_X2_minutesUp D cA (F_X2_riseBy (F_X2_ageOf s p2) (F_X2_slantOf s p2)) (Int64.toInt32 r1) l) lk_X2_159 (Nat.le_of_ble_eq_true rfl) (preRO hK hS hAb (emP)) rfl hl rfl (Nat.le_of_ble_eq_true rfl) (dd D_X2_isAsPictured 15 rfl) ⟨Nat.le_of_ble_eq_true rfl, Nat.le_of_ble_eq_true rfl⟩) rfl ?_
  refine lv_istore (lv' := [(5, .int (F_X2_minutesUp (F_X2_riseBy (F_X2_ageOf s p2) (F_X2_slantOf s p2)) (Int64.toInt32 r1))), (4, .int (F_X2_slantOf s p2)), (3, .int (Int64.toInt32 r1)), (0, .ref (ax 40)), (1, .ref (ax (46+2*k))), (2, .int p2)]) F.1 F.2.1 (dd D_X2_isAsPictured 16 rfl) hl (Nat.le_of_ble_eq_true rfl) rfl (fun ls hl => ?_)
  refine lv_iload F.1 F.2.1 (dd D_X2_isAsPictured 17 rfl) (lv_at hl 0 rfl) ?_
  refine lv_iconst (v := (-1 : Int32)) F.1 F.2.1 (dd D_X2_isAsPictured 18 rfl) ki_m1 ?_
  refine x_icmp_eq (tgt := 84) F.1 F.2.1 (dd D_X2_isAsPictured 19 rfl) rfl h (fun c3 h => ?_) (fun c3 h => ?_)
  · refine lv_iconst (v := (0 : Int32)) F.1 F.2.1 (dd D_X2_isAsPictured 46 rfl) ki_0 ?_
    exact ro_z (R := rmOf 2 0 0) F hr rfl hlk (congrArg (Option.map fun z => Value.int (bI z)) h) (dd D_X2_isAsPictured 47 rfl)
  · refine lv_aload_n F.1 F.2.1 (dd D_X2_isAsPictured 20 rfl) rfl (lv_at hl 4 rfl) ?_
    refine lv_iconst (v := (0 : Int32)) F.1 F.2.1 (dd D_X2_isAsPictured 21 rfl) ki_0 ?_
    refine lv_aload_n F.1 F.2.1 (dd D_X2_isAsPictured 22 rfl) rfl (lv_at hl 3 rfl) ?_
    refine lv_iload_n F.1 F.2.1 (dd D_X2_isAsPictured 23 rfl) rfl (lv_at hl 5 rfl) ?_
    refine ro_go (st' := [.int (F_X2_litOf s p2), .int (0 : Int32), .ref (ax (46+2*k))]) (rV (rest := [.int (0 : Int32), .ref (ax (46+2*k))]) F (c_X2_litOf D cA ax s p2 l) lk_X2_77 (Nat.le_of_ble_eq_true rfl) (preRO hK hS hAb hP) (rcv_2 hK hP (q0 := (40)) (xp_40 cA ax s)) rfl hl rfl (Nat.le_of_ble_eq_true rfl) (dd D_X2_isAsPictured 24 rfl) ⟨Nat.le_of_ble_eq_true rfl, Nat.le_of_ble_eq_true rfl⟩) rfl ?_
    obtain ⟨r4, e5, h⟩ := Option.bind_eq_some_iff.mp h
    refine ro_go (st' := [.int (bI r4)]) (rV (rest := []) F (c_X5_isSpan D cA (fun i => ax (46+2*k+i)) (x_sh s k) n (0 : Int32) (F_X2_litOf s p2) r4 e5 l) lk_X2_168 (Nat.le_of_ble_eq_true rfl) (preRO hK hS hAb (pg_sh hk hP)) (rcv_5 hK hP (q0 := (46+2*k)) (xp_sh cA ax s k hk)) rfl hl rfl (Nat.le_of_ble_eq_true rfl) (dd D_X2_isAsPictured 25 rfl) ⟨Nat.le_of_ble_eq_true rfl, Nat.le_of_ble_eq_true rfl⟩) rfl ?_
    refine x_bif_eq (tgt := 84) F.1 F.2.1 (dd D_X2_isAsPictured 26 rfl) rfl h (fun c12 h => ?_) (fun c12 h => ?_)
    · refine lv_iconst (v := (0 : Int32)) F.1 F.2.1 (dd D_X2_isAsPictured 46 rfl) ki_0 ?_
      exact ro_z (R := rmOf 2 0 0) F hr rfl hlk (congrArg (Option.map fun z => Value.int (bI z)) h) (dd D_X2_isAsPictured 47 rfl)
    · refine lv_aload_n F.1 F.2.1 (dd D_X2_isAsPictured 27 rfl) rfl (lv_at hl 4 rfl) ?_
      refine lv_iconst (v := (2 : Int32)) F.1 F.2.1 (dd D_X2_isAsPictured 28 rfl) ki_2 ?_
      refine lv_iload F.1 F.2.1 (dd D_X2_isAsPictured 29 rfl) (lv_at hl 1 rfl) ?_
      refine ro_go (st' := [.int (F_X2_wayBy (F_X2_slantOf s p2)), .int (2 : Int32), .ref (ax (46+2*k))]) (rS (rest := [.int (2 : Int32), .ref (ax (46+2*k))]) F (c_X2_wayBy D cA (F_X2_slantOf s p2) l) lk_X2_49 (Nat.le_of_ble_eq_true rfl) (preRO hK hS hAb (emP)) rfl hl rfl (Nat.le_of_ble_eq_true rfl) (dd D_X2_isAsPictured 30 rfl) ⟨Nat.le_of_ble_eq_true rfl, Nat.le_of_ble_eq_true rfl⟩) rfl ?_
      refine lv_iload F.1 F.2.1 (dd D_X2_isAsPictured 31 rfl) (lv_at hl 0 rfl) ?_
      refine lv_iconst (v := (4 : Int32)) F.1 F.2.1 (dd D_X2_isAsPictured 32 rfl) ki_4 ?_
      refine lv_idiv F.1 F.2.1 (dd D_X2_isAsPictured 33 rfl) kd_4 ?_
      refine lv_iadd F.1 F.2.1 (dd D_X2_isAsPictured 34 rfl) ?_
      obtain ⟨r6, e7, h⟩ := Option.bind_eq_some_iff.mp h
      refine ro_go (st' := [.int (bI r6)]) (rV (rest := []) F (c_X5_isSpan D cA (fun i => ax (46+2*k+i)) (x_sh s k) n (2 : Int32) ((F_X2_wayBy (F_X2_slantOf s p2)) + ((F_X2_minutesUp (F_X2_riseBy (F_X2_ageOf s p2) (F_X2_slantOf s p2)) (Int64.toInt32 r1)) / (4 : Int32))) r6 e7 l) lk_X2_168 (Nat.le_of_ble_eq_true rfl) (preRO hK hS hAb (pg_sh hk hP)) (rcv_5 hK hP (q0 := (46+2*k)) (xp_sh cA ax s k hk)) rfl hl rfl (Nat.le_of_ble_eq_true rfl) (dd D_X2_isAsPictured 35 rfl) ⟨Nat.le_of_ble_eq_true rfl, Nat.le_of_ble_eq_true rfl⟩) rfl ?_
      refine x_bif_eq (tgt := 84) F.1 F.2.1 (dd D_X2_isAsPictured 36 rfl) rfl h (fun c11 h => ?_) (fun c11 h => ?_)
      · refine lv_iconst (v := (0 : Int32)) F.1 F.2.1 (dd D_X2_isAsPictured 46 rfl) ki_0 ?_
        exact ro_z (R := rmOf 2 0 0) F hr rfl hlk (congrArg (Option.map fun z => Value.int (bI z)) h) (dd D_X2_isAsPictured 47 rfl)
      · refine lv_aload_n F.1 F.2.1 (dd D_X2_isAsPictured 37 rfl) rfl (lv_at hl 4 rfl) ?_
        refine lv_iconst (v := (4 : Int32)) F.1 F.2.1 (dd D_X2_isAsPictured 38 rfl) ki_4 ?_
        refine lv_iload F.1 F.2.1 (dd D_X2_isAsPictured 39 rfl) (lv_at hl 0 rfl) ?_
        refine lv_iconst (v := (5 : Int32)) F.1 F.2.1 (dd D_X2_isAsPictured 40 rfl) ki_5 ?_
        refine lv_idiv F.1 F.2.1 (dd D_X2_isAsPictured 41 rfl) kd_5 ?_
        obtain ⟨r8, e9, h⟩ := Option.bind_eq_some_iff.mp h
        refine ro_go (st' := [.int (bI r8)]) (rV (rest := []) F (c_X5_isSpan D cA (fun i => ax (46+2*k+i)) (x_sh s k) n (4 : Int32) ((F_X2_minutesUp (F_X2_riseBy (F_X2_ageOf s p2) (F_X2_slantOf s p2)) (Int64.toInt32 r1)) / (5 : Int32)) r8 e9 l) lk_X2_168 (Nat.le_of_ble_eq_true rfl) (preRO hK hS hAb (pg_sh hk hP)) (rcv_5 hK hP (q0 := (46+2*k)) (xp_sh cA ax s k hk)) rfl hl rfl (Nat.le_of_ble_eq_true rfl) (dd D_X2_isAsPictured 42 rfl) ⟨Nat.le_of_ble_eq_true rfl, Nat.le_of_ble_eq_true rfl⟩) rfl ?_
        refine x_bif_eq (tgt := 84) F.1 F.2.1 (dd D_X2_isAsPictured 43 rfl) rfl h (fun c10 h => ?_) (fun c10 h => ?_)
        · refine lv_iconst (v := (0 : Int32)) F.1 F.2.1 (dd D_X2_isAsPictured 46 rfl) ki_0 ?_
          exact ro_z (R := rmOf 2 0 0) F hr rfl hlk (congrArg (Option.map fun z => Value.int (bI z)) h) (dd D_X2_isAsPictured 47 rfl)
        · refine lv_iconst (v := (1 : Int32)) F.1 F.2.1 (dd D_X2_isAsPictured 44 rfl) ki_1 ?_
          refine lv_goto (tgt := 85) F.1 F.2.1 (dd D_X2_isAsPictured 45 rfl) rfl ?_
          exact ro_z (R := rmOf 2 0 0) F hr rfl hlk (congrArg (Option.map fun z => Value.int (bI z)) h) (dd D_X2_isAsPictured 47 rfl)
def F_X2_fits (n : Nat) (s : XS) (ab qa qb qc : Int32) (pic : Option Nat) (p2 : Int32) : Option Bool := (if ab = (0 : Int32) then some (true) else (if ab = (1 : Int32) then some ((F_X2_isFull s p2)) else (if ab = (2 : Int32) then bf (F_X2_isFull s p2) ((if (9999 : Int32) ≤ p2 then some (false) else (((F_X2_laterOf n s p2)).bind fun r3 => (if (30 : Int32) < r3 then some (false) else some (true))))) (some (false)) else (if ab = (3 : Int32) then (if (F_X2_outOf s p2) = (28 : Int32) then some (true) else some (false)) else (if ab = (4 : Int32) then (if (100 : Int32) ≤ (F_X2_ageOf s p2) then some (false) else some (true)) else (if ab = (5 : Int32) then some ((F_X2_isFull s p2)) else (if ab = (6 : Int32) then (((F_X2_degreeOf n s p2)).bind fun r9 => some ((F_X8_isIn r9 qa qb))) else (if ab = (7 : Int32) then (((F_X2_shinesOf n s p2 qa qb)).bind fun r11 => (if r11 < qc then some (false) else some (true))) else (if ab = (8 : Int32) then (((F_X2_behindOf n s p2)).bind fun r14 => (if r14 = qa then some (true) else some (false))) else (if ab = (9 : Int32) then bf (F_X2_isFull s p2) (bf (F_X2_isAtNode s p2) (some (true)) (some (false))) (some (false)) else (if ab = (10 : Int32) then bf (F_X8_isIn (F_X2_ageOf s p2) ((150 : Int32) - qa) (1476 : Int32)) ((((F_X0_contains n 8 (st_clouds (x_now s)) p2)).bind fun r19 => bf r19 (some (false)) (some (true)))) (some (false)) else (if ab = (11 : Int32) then oM pic (some (false)) (fun k23 => gd (decide (k23 < 8)) ((((F_X2_isAsPictured n s k23 p2)).bind fun r25 => bf r25 (some (true)) (some (false))))) else some (false)))))))))))))
set_option maxHeartbeats 4000000 in
set_option maxRecDepth 100000 in
theorem c_X2_fits (D : va_G) (cA : Nat → ClassId) (ax : Nat → Nat) (s : XS) (q : Nat) (ab qa qb qc : Int32) (pic : Option Nat) (n : Nat) (p2 : Int32) (r : Bool) (h : F_X2_fits n s ab qa qb qc pic p2 = some r) : RO m_X2_fits 4 D cA [.ref (ax 40), .ref (q), .int p2] ((xW cA ax s) ++ (questionW ax q ab qa qb qc pic)) (some (.int (bI r))) := by
  refine RO.ofW gy_X2_fits.2.2 (Nat.le_of_ble_eq_true rfl) ?_
  intro l p e sM m below meth c F hr hlk hK hP hS hAb ls hl
  have hl : lv_has ls 3 [(0, .ref (ax 40)), (1, .ref (q)), (2, .int p2)] := hl
  unfold F_X2_fits at h
  refine lv_aload_n F.1 F.2.1 (dd D_X2_fits 0 rfl) rfl (lv_at hl 1 rfl) ?_
  refine getF F hK hP lf_X2_93 (63+0) (gR (xp_len cA ax s) rfl) rfl (dd D_X2_fits 1 rfl) ?_
  refine x_ts (tgt := 68) F.1 F.2.1 (0 : Int32) (dd D_X2_fits 2 rfl) h (by decide) (by decide) rfl rfl (fun c1_0 h => ?_) (fun c1_0 h => ?_)
  · refine lv_iconst (v := (1 : Int32)) F.1 F.2.1 (dd D_X2_fits 3 rfl) ki_1 ?_
    exact ro_z (R := rmOf 4 0 0) F hr rfl hlk (congrArg (Option.map fun z => Value.int (bI z)) h) (dd D_X2_fits 4 rfl)
  refine x_ts (tgt := 70) F.1 F.2.1 (1 : Int32) (dd D_X2_fits 2 rfl) h (by decide) (by decide) rfl rfl (fun c1_1 h => ?_) (fun c1_1 h => ?_)
  · refine lv_aload_n F.1 F.2.1 (dd D_X2_fits 5 rfl) rfl (lv_at hl 0 rfl) ?_
    refine lv_iload_n F.1 F.2.1 (dd D_X2_fits 6 rfl) rfl (lv_at hl 2 rfl) ?_
    refine ro_go (st' := [.int (bI (F_X2_isFull s p2))]) (rV (rest := []) F (c_X2_isFull D cA ax s p2 l) lk_X2_98 (Nat.le_of_ble_eq_true rfl) (preRO hK hS hAb (preP hP)) (rcv_2 hK hP (q0 := (40)) (gL (xp_40 cA ax s))) rfl hl rfl (Nat.le_of_ble_eq_true rfl) (dd D_X2_fits 7 rfl) ⟨Nat.le_of_ble_eq_true rfl, Nat.le_of_ble_eq_true rfl⟩) rfl ?_
    exact ro_z (R := rmOf 4 0 0) F hr (bI_nar _) hlk (congrArg (Option.map fun z => Value.int (bI z)) h) (dd D_X2_fits 8 rfl)
  refine x_ts (tgt := 76) F.1 F.2.1 (2 : Int32) (dd D_X2_fits 2 rfl) h (by decide) (by decide) rfl rfl (fun c1_2 h => ?_) (fun c1_2 h => ?_)
  · refine lv_aload_n F.1 F.2.1 (dd D_X2_fits 9 rfl) rfl (lv_at hl 0 rfl) ?_
    refine lv_iload_n F.1 F.2.1 (dd D_X2_fits 10 rfl) rfl (lv_at hl 2 rfl) ?_
    refine ro_go (st' := [.int (bI (F_X2_isFull s p2))]) (rV (rest := []) F (c_X2_isFull D cA ax s p2 l) lk_X2_98 (Nat.le_of_ble_eq_true rfl) (preRO hK hS hAb (preP hP)) (rcv_2 hK hP (q0 := (40)) (gL (xp_40 cA ax s))) rfl hl rfl (Nat.le_of_ble_eq_true rfl) (dd D_X2_fits 11 rfl) ⟨Nat.le_of_ble_eq_true rfl, Nat.le_of_ble_eq_true rfl⟩) rfl ?_
    refine x_bif_eq (tgt := 105) F.1 F.2.1 (dd D_X2_fits 12 rfl) rfl h (fun c6 h => ?_) (fun c6 h => ?_)
    · refine lv_iconst (v := (0 : Int32)) F.1 F.2.1 (dd D_X2_fits 23 rfl) ki_0 ?_
      exact ro_z (R := rmOf 4 0 0) F hr rfl hlk (congrArg (Option.map fun z => Value.int (bI z)) h) (dd D_X2_fits 24 rfl)
    · refine lv_iload_n F.1 F.2.1 (dd D_X2_fits 13 rfl) rfl (lv_at hl 2 rfl) ?_
      refine lv_sipush (v := (9999 : Int32)) F.1 F.2.1 (dd D_X2_fits 14 rfl) ks_9999 ?_
      refine x_icmp_ge (tgt := 105) F.1 F.2.1 (dd D_X2_fits 15 rfl) rfl h (fun c2 h => ?_) (fun c2 h => ?_)
      · refine lv_iconst (v := (0 : Int32)) F.1 F.2.1 (dd D_X2_fits 23 rfl) ki_0 ?_
        exact ro_z (R := rmOf 4 0 0) F hr rfl hlk (congrArg (Option.map fun z => Value.int (bI z)) h) (dd D_X2_fits 24 rfl)
      · refine lv_aload_n F.1 F.2.1 (dd D_X2_fits 16 rfl) rfl (lv_at hl 0 rfl) ?_
        refine lv_iload_n F.1 F.2.1 (dd D_X2_fits 17 rfl) rfl (lv_at hl 2 rfl) ?_
        obtain ⟨r3, e4, h⟩ := Option.bind_eq_some_iff.mp h
        refine ro_go (st' := [.int r3]) (rV (rest := []) F (c_X2_laterOf D cA ax s n p2 r3 e4 l) lk_X2_87 (Nat.le_of_ble_eq_true rfl) (preRO hK hS hAb (preP hP)) (rcv_2 hK hP (q0 := (40)) (gL (xp_40 cA ax s))) rfl hl rfl (Nat.le_of_ble_eq_true rfl) (dd D_X2_fits 18 rfl) ⟨Nat.le_of_ble_eq_true rfl, Nat.le_of_ble_eq_true rfl⟩) rfl ?_
        refine lv_bipush (v := (30 : Int32)) F.1 F.2.1 (dd D_X2_fits 19 rfl) kb_30 ?_
        refine x_icmp_gt (tgt := 105) F.1 F.2.1 (dd D_X2_fits 20 rfl) rfl h (fun c5 h => ?_) (fun c5 h => ?_)
        · refine lv_iconst (v := (0 : Int32)) F.1 F.2.1 (dd D_X2_fits 23 rfl) ki_0 ?_
          exact ro_z (R := rmOf 4 0 0) F hr rfl hlk (congrArg (Option.map fun z => Value.int (bI z)) h) (dd D_X2_fits 24 rfl)
        · refine lv_iconst (v := (1 : Int32)) F.1 F.2.1 (dd D_X2_fits 21 rfl) ki_1 ?_
          refine lv_goto (tgt := 106) F.1 F.2.1 (dd D_X2_fits 22 rfl) rfl ?_
          exact ro_z (R := rmOf 4 0 0) F hr rfl hlk (congrArg (Option.map fun z => Value.int (bI z)) h) (dd D_X2_fits 24 rfl)
  refine x_ts (tgt := 107) F.1 F.2.1 (3 : Int32) (dd D_X2_fits 2 rfl) h (by decide) (by decide) rfl rfl (fun c1_3 h => ?_) (fun c1_3 h => ?_)
  · refine lv_aload_n F.1 F.2.1 (dd D_X2_fits 25 rfl) rfl (lv_at hl 0 rfl) ?_
    refine lv_iload_n F.1 F.2.1 (dd D_X2_fits 26 rfl) rfl (lv_at hl 2 rfl) ?_
    refine ro_go (st' := [.int (F_X2_outOf s p2)]) (rV (rest := []) F (c_X2_outOf D cA ax s p2 l) lk_X2_34 (Nat.le_of_ble_eq_true rfl) (preRO hK hS hAb (preP hP)) (rcv_2 hK hP (q0 := (40)) (gL (xp_40 cA ax s))) rfl hl rfl (Nat.le_of_ble_eq_true rfl) (dd D_X2_fits 27 rfl) ⟨Nat.le_of_ble_eq_true rfl, Nat.le_of_ble_eq_true rfl⟩) rfl ?_
    refine lv_bipush (v := (28 : Int32)) F.1 F.2.1 (dd D_X2_fits 28 rfl) kb_28 ?_
    refine x_icmp_ne (tgt := 121) F.1 F.2.1 (dd D_X2_fits 29 rfl) rfl h (fun c7 h => ?_) (fun c7 h => ?_)
    · refine lv_iconst (v := (0 : Int32)) F.1 F.2.1 (dd D_X2_fits 32 rfl) ki_0 ?_
      exact ro_z (R := rmOf 4 0 0) F hr rfl hlk (congrArg (Option.map fun z => Value.int (bI z)) h) (dd D_X2_fits 33 rfl)
    · refine lv_iconst (v := (1 : Int32)) F.1 F.2.1 (dd D_X2_fits 30 rfl) ki_1 ?_
      refine lv_goto (tgt := 122) F.1 F.2.1 (dd D_X2_fits 31 rfl) rfl ?_
      exact ro_z (R := rmOf 4 0 0) F hr rfl hlk (congrArg (Option.map fun z => Value.int (bI z)) h) (dd D_X2_fits 33 rfl)
  refine x_ts (tgt := 123) F.1 F.2.1 (4 : Int32) (dd D_X2_fits 2 rfl) h (by decide) (by decide) rfl rfl (fun c1_4 h => ?_) (fun c1_4 h => ?_)
  · refine lv_aload_n F.1 F.2.1 (dd D_X2_fits 34 rfl) rfl (lv_at hl 0 rfl) ?_
    refine lv_iload_n F.1 F.2.1 (dd D_X2_fits 35 rfl) rfl (lv_at hl 2 rfl) ?_
    refine ro_go (st' := [.int (F_X2_ageOf s p2)]) (rV (rest := []) F (c_X2_ageOf D cA ax s p2 l) lk_X2_27 (Nat.le_of_ble_eq_true rfl) (preRO hK hS hAb (preP hP)) (rcv_2 hK hP (q0 := (40)) (gL (xp_40 cA ax s))) rfl hl rfl (Nat.le_of_ble_eq_true rfl) (dd D_X2_fits 36 rfl) ⟨Nat.le_of_ble_eq_true rfl, Nat.le_of_ble_eq_true rfl⟩) rfl ?_
    refine lv_bipush (v := (100 : Int32)) F.1 F.2.1 (dd D_X2_fits 37 rfl) kb_100 ?_
    refine x_icmp_ge (tgt := 137) F.1 F.2.1 (dd D_X2_fits 38 rfl) rfl h (fun c8 h => ?_) (fun c8 h => ?_)
    · refine lv_iconst (v := (0 : Int32)) F.1 F.2.1 (dd D_X2_fits 41 rfl) ki_0 ?_
      exact ro_z (R := rmOf 4 0 0) F hr rfl hlk (congrArg (Option.map fun z => Value.int (bI z)) h) (dd D_X2_fits 42 rfl)
    · refine lv_iconst (v := (1 : Int32)) F.1 F.2.1 (dd D_X2_fits 39 rfl) ki_1 ?_
      refine lv_goto (tgt := 138) F.1 F.2.1 (dd D_X2_fits 40 rfl) rfl ?_
      exact ro_z (R := rmOf 4 0 0) F hr rfl hlk (congrArg (Option.map fun z => Value.int (bI z)) h) (dd D_X2_fits 42 rfl)
  refine x_ts (tgt := 70) F.1 F.2.1 (5 : Int32) (dd D_X2_fits 2 rfl) h (by decide) (by decide) rfl rfl (fun c1_5 h => ?_) (fun c1_5 h => ?_)
  · refine lv_aload_n F.1 F.2.1 (dd D_X2_fits 5 rfl) rfl (lv_at hl 0 rfl) ?_
    refine lv_iload_n F.1 F.2.1 (dd D_X2_fits 6 rfl) rfl (lv_at hl 2 rfl) ?_
    refine ro_go (st' := [.int (bI (F_X2_isFull s p2))]) (rV (rest := []) F (c_X2_isFull D cA ax s p2 l) lk_X2_98 (Nat.le_of_ble_eq_true rfl) (preRO hK hS hAb (preP hP)) (rcv_2 hK hP (q0 := (40)) (gL (xp_40 cA ax s))) rfl hl rfl (Nat.le_of_ble_eq_true rfl) (dd D_X2_fits 7 rfl) ⟨Nat.le_of_ble_eq_true rfl, Nat.le_of_ble_eq_true rfl⟩) rfl ?_
    exact ro_z (R := rmOf 4 0 0) F hr (bI_nar _) hlk (congrArg (Option.map fun z => Value.int (bI z)) h) (dd D_X2_fits 8 rfl)
  refine x_ts (tgt := 139) F.1 F.2.1 (6 : Int32) (dd D_X2_fits 2 rfl) h (by decide) (by decide) rfl rfl (fun c1_6 h => ?_) (fun c1_6 h => ?_)
  · refine lv_aload_n F.1 F.2.1 (dd D_X2_fits 43 rfl) rfl (lv_at hl 0 rfl) ?_
    refine lv_iload_n F.1 F.2.1 (dd D_X2_fits 44 rfl) rfl (lv_at hl 2 rfl) ?_
    obtain ⟨r9, e10, h⟩ := Option.bind_eq_some_iff.mp h
    refine ro_go (st' := [.int r9]) (rV (rest := []) F (c_X2_degreeOf D cA ax s n p2 r9 e10 l) lk_X2_102 (Nat.le_of_ble_eq_true rfl) (preRO hK hS hAb (preP hP)) (rcv_2 hK hP (q0 := (40)) (gL (xp_40 cA ax s))) rfl hl rfl (Nat.le_of_ble_eq_true rfl) (dd D_X2_fits 45 rfl) ⟨Nat.le_of_ble_eq_true rfl, Nat.le_of_ble_eq_true rfl⟩) rfl ?_
    refine lv_aload_n F.1 F.2.1 (dd D_X2_fits 46 rfl) rfl (lv_at hl 1 rfl) ?_
    refine getF F hK hP lf_X2_105 (63+0) (gR (xp_len cA ax s) rfl) rfl (dd D_X2_fits 47 rfl) ?_
    refine lv_aload_n F.1 F.2.1 (dd D_X2_fits 48 rfl) rfl (lv_at hl 1 rfl) ?_
    refine getF F hK hP lf_X2_108 (63+0) (gR (xp_len cA ax s) rfl) rfl (dd D_X2_fits 49 rfl) ?_
    refine ro_go (st' := [.int (bI (F_X8_isIn r9 qa qb))]) (rSN hK (rest := []) F (c_X8_isIn D cA r9 qa qb l) lk_X2_80 (Nat.le_of_ble_eq_true rfl) (preRO hK hS hAb (emP)) rfl hl rfl (Nat.le_of_ble_eq_true rfl) (dd D_X2_fits 50 rfl) ⟨Nat.le_of_ble_eq_true rfl, Nat.le_of_ble_eq_true rfl⟩) rfl ?_
    exact ro_z (R := rmOf 4 0 0) F hr (bI_nar _) hlk (congrArg (Option.map fun z => Value.int (bI z)) h) (dd D_X2_fits 51 rfl)
  refine x_ts (tgt := 156) F.1 F.2.1 (7 : Int32) (dd D_X2_fits 2 rfl) h (by decide) (by decide) rfl rfl (fun c1_7 h => ?_) (fun c1_7 h => ?_)
  · refine lv_aload_n F.1 F.2.1 (dd D_X2_fits 52 rfl) rfl (lv_at hl 0 rfl) ?_
    refine lv_iload_n F.1 F.2.1 (dd D_X2_fits 53 rfl) rfl (lv_at hl 2 rfl) ?_
    refine lv_aload_n F.1 F.2.1 (dd D_X2_fits 54 rfl) rfl (lv_at hl 1 rfl) ?_
    refine getF F hK hP lf_X2_105 (63+0) (gR (xp_len cA ax s) rfl) rfl (dd D_X2_fits 55 rfl) ?_
    refine lv_aload_n F.1 F.2.1 (dd D_X2_fits 56 rfl) rfl (lv_at hl 1 rfl) ?_
    refine getF F hK hP lf_X2_108 (63+0) (gR (xp_len cA ax s) rfl) rfl (dd D_X2_fits 57 rfl) ?_
    obtain ⟨r11, e12, h⟩ := Option.bind_eq_some_iff.mp h
    refine ro_go (st' := [.int r11]) (rV (rest := []) F (c_X2_shinesOf D cA ax s n p2 qa qb r11 e12 l) lk_X2_90 (Nat.le_of_ble_eq_true rfl) (preRO hK hS hAb (preP hP)) (rcv_2 hK hP (q0 := (40)) (gL (xp_40 cA ax s))) rfl hl rfl (Nat.le_of_ble_eq_true rfl) (dd D_X2_fits 58 rfl) ⟨Nat.le_of_ble_eq_true rfl, Nat.le_of_ble_eq_true rfl⟩) rfl ?_
    refine lv_aload_n F.1 F.2.1 (dd D_X2_fits 59 rfl) rfl (lv_at hl 1 rfl) ?_
    refine getF F hK hP lf_X2_111 (63+0) (gR (xp_len cA ax s) rfl) rfl (dd D_X2_fits 60 rfl) ?_
    refine x_icmp_lt (tgt := 180) F.1 F.2.1 (dd D_X2_fits 61 rfl) rfl h (fun c13 h => ?_) (fun c13 h => ?_)
    · refine lv_iconst (v := (0 : Int32)) F.1 F.2.1 (dd D_X2_fits 64 rfl) ki_0 ?_
      exact ro_z (R := rmOf 4 0 0) F hr rfl hlk (congrArg (Option.map fun z => Value.int (bI z)) h) (dd D_X2_fits 65 rfl)
    · refine lv_iconst (v := (1 : Int32)) F.1 F.2.1 (dd D_X2_fits 62 rfl) ki_1 ?_
      refine lv_goto (tgt := 181) F.1 F.2.1 (dd D_X2_fits 63 rfl) rfl ?_
      exact ro_z (R := rmOf 4 0 0) F hr rfl hlk (congrArg (Option.map fun z => Value.int (bI z)) h) (dd D_X2_fits 65 rfl)
  refine x_ts (tgt := 182) F.1 F.2.1 (8 : Int32) (dd D_X2_fits 2 rfl) h (by decide) (by decide) rfl rfl (fun c1_8 h => ?_) (fun c1_8 h => ?_)
  · refine lv_aload_n F.1 F.2.1 (dd D_X2_fits 66 rfl) rfl (lv_at hl 0 rfl) ?_
    refine lv_iload_n F.1 F.2.1 (dd D_X2_fits 67 rfl) rfl (lv_at hl 2 rfl) ?_
    obtain ⟨r14, e15, h⟩ := Option.bind_eq_some_iff.mp h
    refine ro_go (st' := [.int r14]) (rV (rest := []) F (c_X2_behindOf D cA ax s n p2 r14 e15 l) lk_X2_114 (Nat.le_of_ble_eq_true rfl) (preRO hK hS hAb (preP hP)) (rcv_2 hK hP (q0 := (40)) (gL (xp_40 cA ax s))) rfl hl rfl (Nat.le_of_ble_eq_true rfl) (dd D_X2_fits 68 rfl) ⟨Nat.le_of_ble_eq_true rfl, Nat.le_of_ble_eq_true rfl⟩) rfl ?_
    refine lv_aload_n F.1 F.2.1 (dd D_X2_fits 69 rfl) rfl (lv_at hl 1 rfl) ?_
    refine getF F hK hP lf_X2_105 (63+0) (gR (xp_len cA ax s) rfl) rfl (dd D_X2_fits 70 rfl) ?_
    refine x_icmp_ne (tgt := 198) F.1 F.2.1 (dd D_X2_fits 71 rfl) rfl h (fun c16 h => ?_) (fun c16 h => ?_)
    · refine lv_iconst (v := (0 : Int32)) F.1 F.2.1 (dd D_X2_fits 74 rfl) ki_0 ?_
      exact ro_z (R := rmOf 4 0 0) F hr rfl hlk (congrArg (Option.map fun z => Value.int (bI z)) h) (dd D_X2_fits 75 rfl)
    · refine lv_iconst (v := (1 : Int32)) F.1 F.2.1 (dd D_X2_fits 72 rfl) ki_1 ?_
      refine lv_goto (tgt := 199) F.1 F.2.1 (dd D_X2_fits 73 rfl) rfl ?_
      exact ro_z (R := rmOf 4 0 0) F hr rfl hlk (congrArg (Option.map fun z => Value.int (bI z)) h) (dd D_X2_fits 75 rfl)
  refine x_ts (tgt := 200) F.1 F.2.1 (9 : Int32) (dd D_X2_fits 2 rfl) h (by decide) (by decide) rfl rfl (fun c1_9 h => ?_) (fun c1_9 h => ?_)
  · refine lv_aload_n F.1 F.2.1 (dd D_X2_fits 76 rfl) rfl (lv_at hl 0 rfl) ?_
    refine lv_iload_n F.1 F.2.1 (dd D_X2_fits 77 rfl) rfl (lv_at hl 2 rfl) ?_
    refine ro_go (st' := [.int (bI (F_X2_isFull s p2))]) (rV (rest := []) F (c_X2_isFull D cA ax s p2 l) lk_X2_98 (Nat.le_of_ble_eq_true rfl) (preRO hK hS hAb (preP hP)) (rcv_2 hK hP (q0 := (40)) (gL (xp_40 cA ax s))) rfl hl rfl (Nat.le_of_ble_eq_true rfl) (dd D_X2_fits 78 rfl) ⟨Nat.le_of_ble_eq_true rfl, Nat.le_of_ble_eq_true rfl⟩) rfl ?_
    refine x_bif_eq (tgt := 220) F.1 F.2.1 (dd D_X2_fits 79 rfl) rfl h (fun c18 h => ?_) (fun c18 h => ?_)
    · refine lv_iconst (v := (0 : Int32)) F.1 F.2.1 (dd D_X2_fits 86 rfl) ki_0 ?_
      exact ro_z (R := rmOf 4 0 0) F hr rfl hlk (congrArg (Option.map fun z => Value.int (bI z)) h) (dd D_X2_fits 87 rfl)
    · refine lv_aload_n F.1 F.2.1 (dd D_X2_fits 80 rfl) rfl (lv_at hl 0 rfl) ?_
      refine lv_iload_n F.1 F.2.1 (dd D_X2_fits 81 rfl) rfl (lv_at hl 2 rfl) ?_
      refine ro_go (st' := [.int (bI (F_X2_isAtNode s p2))]) (rV (rest := []) F (c_X2_isAtNode D cA ax s p2 l) lk_X2_117 (Nat.le_of_ble_eq_true rfl) (preRO hK hS hAb (preP hP)) (rcv_2 hK hP (q0 := (40)) (gL (xp_40 cA ax s))) rfl hl rfl (Nat.le_of_ble_eq_true rfl) (dd D_X2_fits 82 rfl) ⟨Nat.le_of_ble_eq_true rfl, Nat.le_of_ble_eq_true rfl⟩) rfl ?_
      refine x_bif_eq (tgt := 220) F.1 F.2.1 (dd D_X2_fits 83 rfl) rfl h (fun c17 h => ?_) (fun c17 h => ?_)
      · refine lv_iconst (v := (0 : Int32)) F.1 F.2.1 (dd D_X2_fits 86 rfl) ki_0 ?_
        exact ro_z (R := rmOf 4 0 0) F hr rfl hlk (congrArg (Option.map fun z => Value.int (bI z)) h) (dd D_X2_fits 87 rfl)
      · refine lv_iconst (v := (1 : Int32)) F.1 F.2.1 (dd D_X2_fits 84 rfl) ki_1 ?_
        refine lv_goto (tgt := 221) F.1 F.2.1 (dd D_X2_fits 85 rfl) rfl ?_
        exact ro_z (R := rmOf 4 0 0) F hr rfl hlk (congrArg (Option.map fun z => Value.int (bI z)) h) (dd D_X2_fits 87 rfl)
  refine x_ts (tgt := 222) F.1 F.2.1 (10 : Int32) (dd D_X2_fits 2 rfl) h (by decide) (by decide) rfl rfl (fun c1_10 h => ?_) (fun c1_10 h => ?_)
  · refine lv_aload_n F.1 F.2.1 (dd D_X2_fits 88 rfl) rfl (lv_at hl 0 rfl) ?_
    refine lv_iload_n F.1 F.2.1 (dd D_X2_fits 89 rfl) rfl (lv_at hl 2 rfl) ?_
    refine ro_go (st' := [.int (F_X2_ageOf s p2)]) (rV (rest := []) F (c_X2_ageOf D cA ax s p2 l) lk_X2_27 (Nat.le_of_ble_eq_true rfl) (preRO hK hS hAb (preP hP)) (rcv_2 hK hP (q0 := (40)) (gL (xp_40 cA ax s))) rfl hl rfl (Nat.le_of_ble_eq_true rfl) (dd D_X2_fits 90 rfl) ⟨Nat.le_of_ble_eq_true rfl, Nat.le_of_ble_eq_true rfl⟩) rfl ?_
    refine lv_sipush (v := (150 : Int32)) F.1 F.2.1 (dd D_X2_fits 91 rfl) ks_150 ?_
    refine lv_aload_n F.1 F.2.1 (dd D_X2_fits 92 rfl) rfl (lv_at hl 1 rfl) ?_
    refine getF F hK hP lf_X2_105 (63+0) (gR (xp_len cA ax s) rfl) rfl (dd D_X2_fits 93 rfl) ?_
    refine lv_isub F.1 F.2.1 (dd D_X2_fits 94 rfl) ?_
    refine lv_sipush (v := (1476 : Int32)) F.1 F.2.1 (dd D_X2_fits 95 rfl) ks_1476 ?_
    refine ro_go (st' := [.int (bI (F_X8_isIn (F_X2_ageOf s p2) ((150 : Int32) - qa) (1476 : Int32)))]) (rSN hK (rest := []) F (c_X8_isIn D cA (F_X2_ageOf s p2) ((150 : Int32) - qa) (1476 : Int32) l) lk_X2_80 (Nat.le_of_ble_eq_true rfl) (preRO hK hS hAb (emP)) rfl hl rfl (Nat.le_of_ble_eq_true rfl) (dd D_X2_fits 96 rfl) ⟨Nat.le_of_ble_eq_true rfl, Nat.le_of_ble_eq_true rfl⟩) rfl ?_
    refine x_bif_eq (tgt := 262) F.1 F.2.1 (dd D_X2_fits 97 rfl) rfl h (fun c22 h => ?_) (fun c22 h => ?_)
    · refine lv_iconst (v := (0 : Int32)) F.1 F.2.1 (dd D_X2_fits 106 rfl) ki_0 ?_
      exact ro_z (R := rmOf 4 0 0) F hr rfl hlk (congrArg (Option.map fun z => Value.int (bI z)) h) (dd D_X2_fits 107 rfl)
    · refine lv_aload_n F.1 F.2.1 (dd D_X2_fits 98 rfl) rfl (lv_at hl 0 rfl) ?_
      refine getF F hK hP lf_X2_9 (40) (gL (xp_40 cA ax s)) rfl (dd D_X2_fits 99 rfl) ?_
      refine getF F hK hP lf_X2_120 (1) (gL (xp_1 cA ax s)) rfl (dd D_X2_fits 100 rfl) ?_
      refine lv_iload_n F.1 F.2.1 (dd D_X2_fits 101 rfl) rfl (lv_at hl 2 rfl) ?_
      obtain ⟨r19, e20, h⟩ := Option.bind_eq_some_iff.mp h
      refine ro_go (st' := [.int (bI r19)]) (rV (rest := []) F (c_X0_contains D cA 8 (fun i => ax (12+i)) (st_clouds (x_now s)) n p2 r19 e20 l) lk_X2_124 (Nat.le_of_ble_eq_true rfl) (preRO hK hS hAb (pg_x_12 (preP hP))) (rcv_0 hK hP (q0 := (12)) (gL (xp_12 cA ax s))) rfl hl rfl (Nat.le_of_ble_eq_true rfl) (dd D_X2_fits 102 rfl) ⟨Nat.le_of_ble_eq_true rfl, Nat.le_of_ble_eq_true rfl⟩) rfl ?_
      refine x_bif_ne (tgt := 262) F.1 F.2.1 (dd D_X2_fits 103 rfl) rfl h (fun c21 h => ?_) (fun c21 h => ?_)
      · refine lv_iconst (v := (0 : Int32)) F.1 F.2.1 (dd D_X2_fits 106 rfl) ki_0 ?_
        exact ro_z (R := rmOf 4 0 0) F hr rfl hlk (congrArg (Option.map fun z => Value.int (bI z)) h) (dd D_X2_fits 107 rfl)
      · refine lv_iconst (v := (1 : Int32)) F.1 F.2.1 (dd D_X2_fits 104 rfl) ki_1 ?_
        refine lv_goto (tgt := 263) F.1 F.2.1 (dd D_X2_fits 105 rfl) rfl ?_
        exact ro_z (R := rmOf 4 0 0) F hr rfl hlk (congrArg (Option.map fun z => Value.int (bI z)) h) (dd D_X2_fits 107 rfl)
  refine x_ts (tgt := 264) F.1 F.2.1 (11 : Int32) (dd D_X2_fits 2 rfl) h (by decide) (by decide) rfl rfl (fun c1_11 h => ?_) (fun c1_11 h => ?_)
  · refine lv_aload_n F.1 F.2.1 (dd D_X2_fits 108 rfl) rfl (lv_at hl 1 rfl) ?_
    refine getF F hK hP lf_X2_129 (63+0) (gR (xp_len cA ax s) rfl) rfl (dd D_X2_fits 109 rfl) ?_
    cases pic with
    | none =>
      dsimp only [oM] at h
      refine lv_ifnullN (tgt := 287) F.1 F.2.1 (dd D_X2_fits 110 rfl) rfl ?_
      refine lv_iconst (v := (0 : Int32)) F.1 F.2.1 (dd D_X2_fits 119 rfl) ki_0 ?_
      exact ro_z (R := rmOf 4 0 0) F hr rfl hlk (congrArg (Option.map fun z => Value.int (bI z)) h) (dd D_X2_fits 120 rfl)
    | some k23 =>
      dsimp only [oM] at h
      obtain ⟨hk24, h⟩ := gd_some (b := decide (k23 < 8)) h
      have hk24 := of_decide_eq_true hk24
      refine lv_ifnull F.1 F.2.1 (dd D_X2_fits 110 rfl) ?_
      refine lv_aload_n F.1 F.2.1 (dd D_X2_fits 111 rfl) rfl (lv_at hl 0 rfl) ?_
      refine lv_aload_n F.1 F.2.1 (dd D_X2_fits 112 rfl) rfl (lv_at hl 1 rfl) ?_
      refine getF F hK hP lf_X2_129 (63+0) (gR (xp_len cA ax s) rfl) rfl (dd D_X2_fits 113 rfl) ?_
      refine lv_iload_n F.1 F.2.1 (dd D_X2_fits 114 rfl) rfl (lv_at hl 2 rfl) ?_
      obtain ⟨r25, e26, h⟩ := Option.bind_eq_some_iff.mp h
      refine ro_go (st' := [.int (bI r25)]) (rV (rest := []) F (c_X2_isAsPictured D cA ax s k23 hk24 n p2 r25 e26 l) lk_X2_133 (Nat.le_of_ble_eq_true rfl) (preRO hK hS hAb (preP hP)) (rcv_2 hK hP (q0 := (40)) (gL (xp_40 cA ax s))) rfl hl rfl (Nat.le_of_ble_eq_true rfl) (dd D_X2_fits 115 rfl) ⟨Nat.le_of_ble_eq_true rfl, Nat.le_of_ble_eq_true rfl⟩) rfl ?_
      refine x_bif_eq (tgt := 287) F.1 F.2.1 (dd D_X2_fits 116 rfl) rfl h (fun c27 h => ?_) (fun c27 h => ?_)
      · refine lv_iconst (v := (0 : Int32)) F.1 F.2.1 (dd D_X2_fits 119 rfl) ki_0 ?_
        exact ro_z (R := rmOf 4 0 0) F hr rfl hlk (congrArg (Option.map fun z => Value.int (bI z)) h) (dd D_X2_fits 120 rfl)
      · refine lv_iconst (v := (1 : Int32)) F.1 F.2.1 (dd D_X2_fits 117 rfl) ki_1 ?_
        refine lv_goto (tgt := 288) F.1 F.2.1 (dd D_X2_fits 118 rfl) rfl ?_
        exact ro_z (R := rmOf 4 0 0) F hr rfl hlk (congrArg (Option.map fun z => Value.int (bI z)) h) (dd D_X2_fits 120 rfl)
  refine lv_tableOut (tgt := 289) F.1 F.2.1 (dd D_X2_fits 2 rfl) (ts_out (lo := 0) (vs := [(0 : Int32), (1 : Int32), (2 : Int32), (3 : Int32), (4 : Int32), (5 : Int32), (6 : Int32), (7 : Int32), (8 : Int32), (9 : Int32), (10 : Int32), (11 : Int32)]) tsv_0_12 (by intro v hv; simp only [List.mem_cons, List.not_mem_nil, or_false] at hv; rcases hv with rfl | rfl | rfl | rfl | rfl | rfl | rfl | rfl | rfl | rfl | rfl | rfl <;> assumption)) rfl ?_
  refine lv_iconst (v := (0 : Int32)) F.1 F.2.1 (dd D_X2_fits 121 rfl) ki_0 ?_
  exact ro_z (R := rmOf 4 0 0) F hr rfl hlk (congrArg (Option.map fun z => Value.int (bI z)) h) (dd D_X2_fits 122 rfl)
def F_X2_pick_L13 (n : Nat) (u0 : XS) (ab qa qb qc : Int32) (pic : Option Nat) (v1 : Int32) (v2 : Int32) (v3 : Int32) (v6 : Int32) : Nat → Int32 → Int32 → Option Int32
  | 0, _, _ => none
  | kf + 1, w5, w7 => (if v6 < w7 then (if v3 = (-1 : Int32) then some (w5) else some ((-1 : Int32))) else (((F_X2_fits n u0 ab qa qb qc pic w7)).bind fun r3 => bf r3 ((if w5 = v3 then some (w7) else F_X2_pick_L13 n u0 ab qa qb qc pic v1 v2 v3 v6 kf (w5 + (1 : Int32)) (w7 + (1 : Int32)))) (F_X2_pick_L13 n u0 ab qa qb qc pic v1 v2 v3 v6 kf w5 (w7 + (1 : Int32)))))
def F_X2_pick (n : Nat) (s : XS) (ab qa qb qc : Int32) (pic : Option Nat) (p1 : Int32) (p2 : Int32) (p3 : Int32) : Option Int32 := F_X2_pick_L13 n s ab qa qb qc pic p1 p2 p3 (F_X2_lastOf p1 p2) n (0 : Int32) p1
set_option maxHeartbeats 4000000 in
set_option maxRecDepth 100000 in
theorem c_X2_pick (D : va_G) (cA : Nat → ClassId) (ax : Nat → Nat) (s : XS) (q : Nat) (ab qa qb qc : Int32) (pic : Option Nat) (n : Nat) (p1 : Int32) (p2 : Int32) (p3 : Int32) (r : Int32) (h : F_X2_pick n s ab qa qb qc pic p1 p2 p3 = some r) : RO m_X2_pick 5 D cA [.ref (ax 40), .int p1, .int p2, .int p3, .ref (q)] ((xW cA ax s) ++ (questionW ax q ab qa qb qc pic)) (some (.int r)) := by
  refine RO.ofW gy_X2_pick.2.2 (Nat.le_of_ble_eq_true rfl) ?_
  intro l p e sM m below meth c F hr hlk hK hP hS hAb ls hl
  have hl : lv_has ls 8 [(0, .ref (ax 40)), (1, .int p1), (2, .int p2), (3, .int p3), (4, .ref (q))] := hl
  unfold F_X2_pick at h
  refine lv_iconst (v := (0 : Int32)) F.1 F.2.1 (dd D_X2_pick 0 rfl) ki_0 ?_
  refine lv_istore (lv' := [(5, .int (0 : Int32)), (0, .ref (ax 40)), (1, .int p1), (2, .int p2), (3, .int p3), (4, .ref (q))]) F.1 F.2.1 (dd D_X2_pick 1 rfl) hl (Nat.le_of_ble_eq_true rfl) rfl (fun ls hl => ?_)
  refine lv_iload_n F.1 F.2.1 (dd D_X2_pick 2 rfl) rfl (lv_at hl 2 rfl) ?_
  refine lv_iload_n F.1 F.2.1 (dd D_X2_pick 3 rfl) rfl (lv_at hl 3 rfl) ?_
  refine ro_go (st' := [.int (F_X2_lastOf p1 p2)]) (rS (rest := []) F (c_X2_lastOf D cA p1 p2 l) lk_X2_137 (Nat.le_of_ble_eq_true rfl) (preRO hK hS hAb (emP)) rfl hl rfl (Nat.le_of_ble_eq_true rfl) (dd D_X2_pick 4 rfl) ⟨Nat.le_of_ble_eq_true rfl, Nat.le_of_ble_eq_true rfl⟩) rfl ?_
  refine lv_istore (lv' := [(6, .int (F_X2_lastOf p1 p2)), (5, .int (0 : Int32)), (0, .ref (ax 40)), (1, .int p1), (2, .int p2), (3, .int p3), (4, .ref (q))]) F.1 F.2.1 (dd D_X2_pick 5 rfl) hl (Nat.le_of_ble_eq_true rfl) rfl (fun ls hl => ?_)
  refine lv_iload_n F.1 F.2.1 (dd D_X2_pick 6 rfl) rfl (lv_at hl 3 rfl) ?_
  refine lv_istore (lv' := [(7, .int p1), (6, .int (F_X2_lastOf p1 p2)), (5, .int (0 : Int32)), (0, .ref (ax 40)), (1, .int p1), (2, .int p2), (3, .int p3), (4, .ref (q))]) F.1 F.2.1 (dd D_X2_pick 7 rfl) hl (Nat.le_of_ble_eq_true rfl) rfl (fun ls hl => ?_)
  have L7 : ∀ (kf : Nat) (w5_L7 : Int32) (w7_L7 : Int32) (ls : Array Slot), lv_has ls 8 [(0, .ref (ax 40)), (1, .int p1), (2, .int p2), (3, .int p3), (4, .ref (q)), (6, .int (F_X2_lastOf p1 p2)), (5, .int w5_L7), (7, .int w7_L7)] → F_X2_pick_L13 n s ab qa qb qc pic p1 p2 p3 (F_X2_lastOf p1 p2) kf w5_L7 w7_L7 = some r → Wro 5 (some (.int r)) p l e sM m ([.ref (ax 40), .int p1, .int p2, .int p3, .ref (q)] : List Value).toArray below meth c 13 ls [] := by
    intro kf
    induction kf with
    | zero =>
      intro w5_L7 w7_L7 ls hl h
      cases (show none = some r from h)
    | succ k_L7 ih_L7 =>
      intro w5_L7 w7_L7 ls hl h
      unfold F_X2_pick_L13 at h
      refine lv_iload F.1 F.2.1 (dd D_X2_pick 8 rfl) (lv_at hl 7 rfl) ?_
      refine lv_iload F.1 F.2.1 (dd D_X2_pick 9 rfl) (lv_at hl 5 rfl) ?_
      refine x_icmp_gt (tgt := 49) F.1 F.2.1 (dd D_X2_pick 10 rfl) rfl h (fun c8 h => ?_) (fun c8 h => ?_)
      · refine lv_iload_n F.1 F.2.1 (dd D_X2_pick 24 rfl) rfl (lv_at hl 3 rfl) ?_
        refine lv_iconst (v := (-1 : Int32)) F.1 F.2.1 (dd D_X2_pick 25 rfl) ki_m1 ?_
        refine x_icmp_ne (tgt := 59) F.1 F.2.1 (dd D_X2_pick 26 rfl) rfl h (fun c9 h => ?_) (fun c9 h => ?_)
        · refine lv_iconst (v := (-1 : Int32)) F.1 F.2.1 (dd D_X2_pick 29 rfl) ki_m1 ?_
          exact ro_i (R := rmOf 5 0 0) F hr hlk (congrArg (Option.map Value.int) h) (dd D_X2_pick 30 rfl)
        · refine lv_iload F.1 F.2.1 (dd D_X2_pick 27 rfl) (lv_at hl 6 rfl) ?_
          refine lv_goto (tgt := 60) F.1 F.2.1 (dd D_X2_pick 28 rfl) rfl ?_
          exact ro_i (R := rmOf 5 0 0) F hr hlk (congrArg (Option.map Value.int) h) (dd D_X2_pick 30 rfl)
      · refine lv_aload_n F.1 F.2.1 (dd D_X2_pick 11 rfl) rfl (lv_at hl 0 rfl) ?_
        refine lv_aload F.1 F.2.1 (dd D_X2_pick 12 rfl) (lv_at hl 4 rfl) ?_
        refine lv_iload F.1 F.2.1 (dd D_X2_pick 13 rfl) (lv_at hl 7 rfl) ?_
        obtain ⟨r10, e11, h⟩ := Option.bind_eq_some_iff.mp h
        refine ro_go (st' := [.int (bI r10)]) (rV (rest := []) F (c_X2_fits D cA ax s q ab qa qb qc pic n w7_L7 r10 e11 l) lk_X2_140 (Nat.le_of_ble_eq_true rfl) (preRO hK hS hAb hP) (rcv_2 hK hP (q0 := (40)) (gL (xp_40 cA ax s))) rfl hl rfl (Nat.le_of_ble_eq_true rfl) (dd D_X2_pick 14 rfl) ⟨Nat.le_of_ble_eq_true rfl, Nat.le_of_ble_eq_true rfl⟩) rfl ?_
        refine x_bif_eq (tgt := 43) F.1 F.2.1 (dd D_X2_pick 15 rfl) rfl h (fun c13 h => ?_) (fun c13 h => ?_)
        · refine lv_iinc (v := (w7_L7 + (1 : Int32))) (lv' := [(7, .int (w7_L7 + (1 : Int32))), (0, .ref (ax 40)), (1, .int p1), (2, .int p2), (3, .int p3), (4, .ref (q)), (6, .int (F_X2_lastOf p1 p2)), (5, .int w5_L7)]) F.1 F.2.1 (dd D_X2_pick 22 rfl) hl (k := 7) rfl (congrArg (fun z => w7_L7 + z) ki_1) (Nat.le_of_ble_eq_true rfl) rfl (fun ls hl => ?_)
          refine lv_goto (tgt := 13) F.1 F.2.1 (dd D_X2_pick 23 rfl) rfl ?_
          exact ih_L7 w5_L7 (w7_L7 + (1 : Int32)) ls (lv_sub hl [1, 2, 3, 4, 5, 6, 7, 0] rfl) h
        · refine lv_iload F.1 F.2.1 (dd D_X2_pick 16 rfl) (lv_at hl 6 rfl) ?_
          refine lv_iload_n F.1 F.2.1 (dd D_X2_pick 17 rfl) rfl (lv_at hl 3 rfl) ?_
          refine x_icmp_ne (tgt := 40) F.1 F.2.1 (dd D_X2_pick 18 rfl) rfl h (fun c12 h => ?_) (fun c12 h => ?_)
          · refine lv_iinc (v := (w5_L7 + (1 : Int32))) (lv' := [(5, .int (w5_L7 + (1 : Int32))), (0, .ref (ax 40)), (1, .int p1), (2, .int p2), (3, .int p3), (4, .ref (q)), (6, .int (F_X2_lastOf p1 p2)), (7, .int w7_L7)]) F.1 F.2.1 (dd D_X2_pick 21 rfl) hl (k := 6) rfl (congrArg (fun z => w5_L7 + z) ki_1) (Nat.le_of_ble_eq_true rfl) rfl (fun ls hl => ?_)
            refine lv_iinc (v := (w7_L7 + (1 : Int32))) (lv' := [(7, .int (w7_L7 + (1 : Int32))), (5, .int (w5_L7 + (1 : Int32))), (0, .ref (ax 40)), (1, .int p1), (2, .int p2), (3, .int p3), (4, .ref (q)), (6, .int (F_X2_lastOf p1 p2))]) F.1 F.2.1 (dd D_X2_pick 22 rfl) hl (k := 7) rfl (congrArg (fun z => w7_L7 + z) ki_1) (Nat.le_of_ble_eq_true rfl) rfl (fun ls hl => ?_)
            refine lv_goto (tgt := 13) F.1 F.2.1 (dd D_X2_pick 23 rfl) rfl ?_
            exact ih_L7 (w5_L7 + (1 : Int32)) (w7_L7 + (1 : Int32)) ls (lv_sub hl [2, 3, 4, 5, 6, 7, 1, 0] rfl) h
          · refine lv_iload F.1 F.2.1 (dd D_X2_pick 19 rfl) (lv_at hl 7 rfl) ?_
            exact ro_i (R := rmOf 5 0 0) F hr hlk (congrArg (Option.map Value.int) h) (dd D_X2_pick 20 rfl)
  exact L7 n (0 : Int32) p1 ls (lv_sub hl [3, 4, 5, 6, 7, 1, 2, 0] rfl) h
def F_X2_meritOf (n : Nat) (s : XS) (p1 : Int32) (p2 : Int32) : Option Int32 := (if p2 = (0 : Int32) then (((F_X2_laterOf n s p1)).bind fun r2 => some ((-r2))) else (if p2 = (1 : Int32) then some ((F_J9_abs_0f7a4 (F_X2_slantOf s p1))) else (if p2 = (2 : Int32) then (((F_X2_overOf n s p1)).bind fun r4 => some ((-r4))) else (if p2 = (3 : Int32) then (((F_X2_lightOf n s p1 (1200 : Int32) (1439 : Int32))).bind fun r6 => some (r6)) else some ((0 : Int32))))))
set_option maxHeartbeats 4000000 in
set_option maxRecDepth 100000 in
theorem c_X2_meritOf (D : va_G) (cA : Nat → ClassId) (ax : Nat → Nat) (s : XS) (n : Nat) (p1 : Int32) (p2 : Int32) (r : Int32) (h : F_X2_meritOf n s p1 p2 = some r) : RO m_X2_meritOf 4 D cA [.ref (ax 40), .int p1, .int p2] (xW cA ax s) (some (.int r)) := by
  refine RO.ofW gy_X2_meritOf.2.2 (Nat.le_of_ble_eq_true rfl) ?_
  intro l p e sM m below meth c F hr hlk hK hP hS hAb ls hl
  have hl : lv_has ls 3 [(0, .ref (ax 40)), (1, .int p1), (2, .int p2)] := hl
  unfold F_X2_meritOf at h
  refine lv_iload_n F.1 F.2.1 (dd D_X2_meritOf 0 rfl) rfl (lv_at hl 2 rfl) ?_
  refine x_ts (tgt := 32) F.1 F.2.1 (0 : Int32) (dd D_X2_meritOf 1 rfl) h (by decide) (by decide) rfl rfl (fun c1_0 h => ?_) (fun c1_0 h => ?_)
  · refine lv_aload_n F.1 F.2.1 (dd D_X2_meritOf 2 rfl) rfl (lv_at hl 0 rfl) ?_
    refine lv_iload_n F.1 F.2.1 (dd D_X2_meritOf 3 rfl) rfl (lv_at hl 1 rfl) ?_
    obtain ⟨r2, e3, h⟩ := Option.bind_eq_some_iff.mp h
    refine ro_go (st' := [.int r2]) (rV (rest := []) F (c_X2_laterOf D cA ax s n p1 r2 e3 l) lk_X2_87 (Nat.le_of_ble_eq_true rfl) (preRO hK hS hAb hP) (rcv_2 hK hP (q0 := (40)) (xp_40 cA ax s)) rfl hl rfl (Nat.le_of_ble_eq_true rfl) (dd D_X2_meritOf 4 rfl) ⟨Nat.le_of_ble_eq_true rfl, Nat.le_of_ble_eq_true rfl⟩) rfl ?_
    refine lv_ineg F.1 F.2.1 (dd D_X2_meritOf 5 rfl) ?_
    exact ro_i (R := rmOf 4 0 0) F hr hlk (congrArg (Option.map Value.int) h) (dd D_X2_meritOf 6 rfl)
  refine x_ts (tgt := 39) F.1 F.2.1 (1 : Int32) (dd D_X2_meritOf 1 rfl) h (by decide) (by decide) rfl rfl (fun c1_1 h => ?_) (fun c1_1 h => ?_)
  · refine lv_aload_n F.1 F.2.1 (dd D_X2_meritOf 7 rfl) rfl (lv_at hl 0 rfl) ?_
    refine lv_iload_n F.1 F.2.1 (dd D_X2_meritOf 8 rfl) rfl (lv_at hl 1 rfl) ?_
    refine ro_go (st' := [.int (F_X2_slantOf s p1)]) (rV (rest := []) F (c_X2_slantOf D cA ax s p1 l) lk_X2_43 (Nat.le_of_ble_eq_true rfl) (preRO hK hS hAb hP) (rcv_2 hK hP (q0 := (40)) (xp_40 cA ax s)) rfl hl rfl (Nat.le_of_ble_eq_true rfl) (dd D_X2_meritOf 9 rfl) ⟨Nat.le_of_ble_eq_true rfl, Nat.le_of_ble_eq_true rfl⟩) rfl ?_
    refine ro_go (st' := [.int (F_J9_abs_0f7a4 (F_X2_slantOf s p1))]) (rS (rest := []) F (c_J9_abs_0f7a4 D cA (F_X2_slantOf s p1) l) lk_X2_84 (Nat.le_of_ble_eq_true rfl) (preRO hK hS hAb (emP)) rfl hl rfl (Nat.le_of_ble_eq_true rfl) (dd D_X2_meritOf 10 rfl) ⟨Nat.le_of_ble_eq_true rfl, Nat.le_of_ble_eq_true rfl⟩) rfl ?_
    exact ro_i (R := rmOf 4 0 0) F hr hlk (congrArg (Option.map Value.int) h) (dd D_X2_meritOf 11 rfl)
  refine x_ts (tgt := 48) F.1 F.2.1 (2 : Int32) (dd D_X2_meritOf 1 rfl) h (by decide) (by decide) rfl rfl (fun c1_2 h => ?_) (fun c1_2 h => ?_)
  · refine lv_aload_n F.1 F.2.1 (dd D_X2_meritOf 12 rfl) rfl (lv_at hl 0 rfl) ?_
    refine lv_iload_n F.1 F.2.1 (dd D_X2_meritOf 13 rfl) rfl (lv_at hl 1 rfl) ?_
    obtain ⟨r4, e5, h⟩ := Option.bind_eq_some_iff.mp h
    refine ro_go (st' := [.int r4]) (rV (rest := []) F (c_X2_overOf D cA ax s n p1 r4 e5 l) lk_X2_147 (Nat.le_of_ble_eq_true rfl) (preRO hK hS hAb hP) (rcv_2 hK hP (q0 := (40)) (xp_40 cA ax s)) rfl hl rfl (Nat.le_of_ble_eq_true rfl) (dd D_X2_meritOf 14 rfl) ⟨Nat.le_of_ble_eq_true rfl, Nat.le_of_ble_eq_true rfl⟩) rfl ?_
    refine lv_ineg F.1 F.2.1 (dd D_X2_meritOf 15 rfl) ?_
    exact ro_i (R := rmOf 4 0 0) F hr hlk (congrArg (Option.map Value.int) h) (dd D_X2_meritOf 16 rfl)
  refine x_ts (tgt := 55) F.1 F.2.1 (3 : Int32) (dd D_X2_meritOf 1 rfl) h (by decide) (by decide) rfl rfl (fun c1_3 h => ?_) (fun c1_3 h => ?_)
  · refine lv_aload_n F.1 F.2.1 (dd D_X2_meritOf 17 rfl) rfl (lv_at hl 0 rfl) ?_
    refine lv_iload_n F.1 F.2.1 (dd D_X2_meritOf 18 rfl) rfl (lv_at hl 1 rfl) ?_
    refine lv_sipush (v := (1200 : Int32)) F.1 F.2.1 (dd D_X2_meritOf 19 rfl) ks_1200 ?_
    refine lv_sipush (v := (1439 : Int32)) F.1 F.2.1 (dd D_X2_meritOf 20 rfl) ks_1439 ?_
    obtain ⟨r6, e7, h⟩ := Option.bind_eq_some_iff.mp h
    refine ro_go (st' := [.int r6]) (rV (rest := []) F (c_X2_lightOf D cA ax s n p1 (1200 : Int32) (1439 : Int32) r6 e7 l) lk_X2_150 (Nat.le_of_ble_eq_true rfl) (preRO hK hS hAb hP) (rcv_2 hK hP (q0 := (40)) (xp_40 cA ax s)) rfl hl rfl (Nat.le_of_ble_eq_true rfl) (dd D_X2_meritOf 21 rfl) ⟨Nat.le_of_ble_eq_true rfl, Nat.le_of_ble_eq_true rfl⟩) rfl ?_
    exact ro_i (R := rmOf 4 0 0) F hr hlk (congrArg (Option.map Value.int) h) (dd D_X2_meritOf 22 rfl)
  refine lv_tableOut (tgt := 67) F.1 F.2.1 (dd D_X2_meritOf 1 rfl) (ts_out (lo := 0) (vs := [(0 : Int32), (1 : Int32), (2 : Int32), (3 : Int32)]) tsv_0_4 (by intro v hv; simp only [List.mem_cons, List.not_mem_nil, or_false] at hv; rcases hv with rfl | rfl | rfl | rfl <;> assumption)) rfl ?_
  refine lv_iconst (v := (0 : Int32)) F.1 F.2.1 (dd D_X2_meritOf 23 rfl) ki_0 ?_
  exact ro_i (R := rmOf 4 0 0) F hr hlk (congrArg (Option.map Value.int) h) (dd D_X2_meritOf 24 rfl)
def F_X2_bestOf_L23 (n : Nat) (u0 : XS) (v1 : Int32) (v2 : Int32) (v3 : Int32) (v6 : Int32) : Nat → Int32 → Int32 → Int32 → Option Int32
  | 0, _, _, _ => none
  | kf + 1, w4, w5, w7 => (if v6 < w7 then some (w4) else (((F_X2_meritOf n u0 w7 v3)).bind fun r4 => (if r4 ≤ w5 then F_X2_bestOf_L23 n u0 v1 v2 v3 v6 kf w4 w5 (w7 + (1 : Int32)) else F_X2_bestOf_L23 n u0 v1 v2 v3 v6 kf w7 r4 (w7 + (1 : Int32)))))
def F_X2_bestOf (n : Nat) (s : XS) (p1 : Int32) (p2 : Int32) (p3 : Int32) : Option Int32 := (((F_X2_meritOf n s p1 p3)).bind fun r1 => F_X2_bestOf_L23 n s p1 p2 p3 (F_X2_lastOf p1 p2) n p1 r1 (p1 + (1 : Int32)))
set_option maxHeartbeats 4000000 in
set_option maxRecDepth 100000 in
theorem c_X2_bestOf (D : va_G) (cA : Nat → ClassId) (ax : Nat → Nat) (s : XS) (n : Nat) (p1 : Int32) (p2 : Int32) (p3 : Int32) (r : Int32) (h : F_X2_bestOf n s p1 p2 p3 = some r) : RO m_X2_bestOf 5 D cA [.ref (ax 40), .int p1, .int p2, .int p3] (xW cA ax s) (some (.int r)) := by
  refine RO.ofW gy_X2_bestOf.2.2 (Nat.le_of_ble_eq_true rfl) ?_
  intro l p e sM m below meth c F hr hlk hK hP hS hAb ls hl
  have hl : lv_has ls 9 [(0, .ref (ax 40)), (1, .int p1), (2, .int p2), (3, .int p3)] := hl
  unfold F_X2_bestOf at h
  refine lv_iload_n F.1 F.2.1 (dd D_X2_bestOf 0 rfl) rfl (lv_at hl 1 rfl) ?_
  refine lv_istore (lv' := [(4, .int p1), (0, .ref (ax 40)), (1, .int p1), (2, .int p2), (3, .int p3)]) F.1 F.2.1 (dd D_X2_bestOf 1 rfl) hl (Nat.le_of_ble_eq_true rfl) rfl (fun ls hl => ?_)
  refine lv_aload_n F.1 F.2.1 (dd D_X2_bestOf 2 rfl) rfl (lv_at hl 1 rfl) ?_
  refine lv_iload_n F.1 F.2.1 (dd D_X2_bestOf 3 rfl) rfl (lv_at hl 2 rfl) ?_
  refine lv_iload_n F.1 F.2.1 (dd D_X2_bestOf 4 rfl) rfl (lv_at hl 4 rfl) ?_
  obtain ⟨r1, e2, h⟩ := Option.bind_eq_some_iff.mp h
  refine ro_go (st' := [.int r1]) (rV (rest := []) F (c_X2_meritOf D cA ax s n p1 p3 r1 e2 l) lk_X2_144 (Nat.le_of_ble_eq_true rfl) (preRO hK hS hAb hP) (rcv_2 hK hP (q0 := (40)) (xp_40 cA ax s)) rfl hl rfl (Nat.le_of_ble_eq_true rfl) (dd D_X2_bestOf 5 rfl) ⟨Nat.le_of_ble_eq_true rfl, Nat.le_of_ble_eq_true rfl⟩) rfl ?_
  refine lv_istore (lv' := [(5, .int r1), (4, .int p1), (0, .ref (ax 40)), (1, .int p1), (2, .int p2), (3, .int p3)]) F.1 F.2.1 (dd D_X2_bestOf 6 rfl) hl (Nat.le_of_ble_eq_true rfl) rfl (fun ls hl => ?_)
  refine lv_iload_n F.1 F.2.1 (dd D_X2_bestOf 7 rfl) rfl (lv_at hl 3 rfl) ?_
  refine lv_iload_n F.1 F.2.1 (dd D_X2_bestOf 8 rfl) rfl (lv_at hl 4 rfl) ?_
  refine ro_go (st' := [.int (F_X2_lastOf p1 p2)]) (rS (rest := []) F (c_X2_lastOf D cA p1 p2 l) lk_X2_137 (Nat.le_of_ble_eq_true rfl) (preRO hK hS hAb (emP)) rfl hl rfl (Nat.le_of_ble_eq_true rfl) (dd D_X2_bestOf 9 rfl) ⟨Nat.le_of_ble_eq_true rfl, Nat.le_of_ble_eq_true rfl⟩) rfl ?_
  refine lv_istore (lv' := [(6, .int (F_X2_lastOf p1 p2)), (5, .int r1), (4, .int p1), (0, .ref (ax 40)), (1, .int p1), (2, .int p2), (3, .int p3)]) F.1 F.2.1 (dd D_X2_bestOf 10 rfl) hl (Nat.le_of_ble_eq_true rfl) rfl (fun ls hl => ?_)
  refine lv_iload_n F.1 F.2.1 (dd D_X2_bestOf 11 rfl) rfl (lv_at hl 4 rfl) ?_
  refine lv_iconst (v := (1 : Int32)) F.1 F.2.1 (dd D_X2_bestOf 12 rfl) ki_1 ?_
  refine lv_iadd F.1 F.2.1 (dd D_X2_bestOf 13 rfl) ?_
  refine lv_istore (lv' := [(7, .int (p1 + (1 : Int32))), (6, .int (F_X2_lastOf p1 p2)), (5, .int r1), (4, .int p1), (0, .ref (ax 40)), (1, .int p1), (2, .int p2), (3, .int p3)]) F.1 F.2.1 (dd D_X2_bestOf 14 rfl) hl (Nat.le_of_ble_eq_true rfl) rfl (fun ls hl => ?_)
  have L7 : ∀ (kf : Nat) (w4_L7 : Int32) (w5_L7 : Int32) (w7_L7 : Int32) (ls : Array Slot), lv_has ls 9 [(0, .ref (ax 40)), (1, .int p1), (2, .int p2), (3, .int p3), (6, .int (F_X2_lastOf p1 p2)), (4, .int w4_L7), (5, .int w5_L7), (7, .int w7_L7)] → F_X2_bestOf_L23 n s p1 p2 p3 (F_X2_lastOf p1 p2) kf w4_L7 w5_L7 w7_L7 = some r → Wro 5 (some (.int r)) p l e sM m ([.ref (ax 40), .int p1, .int p2, .int p3] : List Value).toArray below meth c 23 ls [] := by
    intro kf
    induction kf with
    | zero =>
      intro w4_L7 w5_L7 w7_L7 ls hl h
      cases (show none = some r from h)
    | succ k_L7 ih_L7 =>
      intro w4_L7 w5_L7 w7_L7 ls hl h
      unfold F_X2_bestOf_L23 at h
      refine lv_iload F.1 F.2.1 (dd D_X2_bestOf 15 rfl) (lv_at hl 7 rfl) ?_
      refine lv_iload F.1 F.2.1 (dd D_X2_bestOf 16 rfl) (lv_at hl 4 rfl) ?_
      refine x_icmp_gt (tgt := 60) F.1 F.2.1 (dd D_X2_bestOf 17 rfl) rfl h (fun c8 h => ?_) (fun c8 h => ?_)
      · refine lv_iload F.1 F.2.1 (dd D_X2_bestOf 32 rfl) (lv_at hl 5 rfl) ?_
        exact ro_i (R := rmOf 5 0 0) F hr hlk (congrArg (Option.map Value.int) h) (dd D_X2_bestOf 33 rfl)
      · refine lv_aload_n F.1 F.2.1 (dd D_X2_bestOf 18 rfl) rfl (lv_at hl 0 rfl) ?_
        refine lv_iload F.1 F.2.1 (dd D_X2_bestOf 19 rfl) (lv_at hl 7 rfl) ?_
        refine lv_iload_n F.1 F.2.1 (dd D_X2_bestOf 20 rfl) rfl (lv_at hl 3 rfl) ?_
        obtain ⟨r9, e10, h⟩ := Option.bind_eq_some_iff.mp h
        refine ro_go (st' := [.int r9]) (rV (rest := []) F (c_X2_meritOf D cA ax s n w7_L7 p3 r9 e10 l) lk_X2_144 (Nat.le_of_ble_eq_true rfl) (preRO hK hS hAb hP) (rcv_2 hK hP (q0 := (40)) (xp_40 cA ax s)) rfl hl rfl (Nat.le_of_ble_eq_true rfl) (dd D_X2_bestOf 21 rfl) ⟨Nat.le_of_ble_eq_true rfl, Nat.le_of_ble_eq_true rfl⟩) rfl ?_
        refine lv_istore (lv' := [(8, .int r9), (0, .ref (ax 40)), (1, .int p1), (2, .int p2), (3, .int p3), (6, .int (F_X2_lastOf p1 p2)), (4, .int w4_L7), (5, .int w5_L7), (7, .int w7_L7)]) F.1 F.2.1 (dd D_X2_bestOf 22 rfl) hl (Nat.le_of_ble_eq_true rfl) rfl (fun ls hl => ?_)
        refine lv_iload F.1 F.2.1 (dd D_X2_bestOf 23 rfl) (lv_at hl 0 rfl) ?_
        refine lv_iload F.1 F.2.1 (dd D_X2_bestOf 24 rfl) (lv_at hl 7 rfl) ?_
        refine x_icmp_le (tgt := 54) F.1 F.2.1 (dd D_X2_bestOf 25 rfl) rfl h (fun c11 h => ?_) (fun c11 h => ?_)
        · refine lv_iinc (v := (w7_L7 + (1 : Int32))) (lv' := [(7, .int (w7_L7 + (1 : Int32))), (8, .int r9), (0, .ref (ax 40)), (1, .int p1), (2, .int p2), (3, .int p3), (6, .int (F_X2_lastOf p1 p2)), (4, .int w4_L7), (5, .int w5_L7)]) F.1 F.2.1 (dd D_X2_bestOf 30 rfl) hl (k := 8) rfl (congrArg (fun z => w7_L7 + z) ki_1) (Nat.le_of_ble_eq_true rfl) rfl (fun ls hl => ?_)
          refine lv_goto (tgt := 23) F.1 F.2.1 (dd D_X2_bestOf 31 rfl) rfl ?_
          exact ih_L7 w4_L7 w5_L7 (w7_L7 + (1 : Int32)) ls (lv_sub hl [2, 3, 4, 5, 6, 7, 8, 0] rfl) h
        · refine lv_iload F.1 F.2.1 (dd D_X2_bestOf 26 rfl) (lv_at hl 0 rfl) ?_
          refine lv_istore (lv' := [(5, .int r9), (8, .int r9), (0, .ref (ax 40)), (1, .int p1), (2, .int p2), (3, .int p3), (6, .int (F_X2_lastOf p1 p2)), (4, .int w4_L7), (7, .int w7_L7)]) F.1 F.2.1 (dd D_X2_bestOf 27 rfl) hl (Nat.le_of_ble_eq_true rfl) rfl (fun ls hl => ?_)
          refine lv_iload F.1 F.2.1 (dd D_X2_bestOf 28 rfl) (lv_at hl 8 rfl) ?_
          refine lv_istore (lv' := [(4, .int w7_L7), (5, .int r9), (8, .int r9), (0, .ref (ax 40)), (1, .int p1), (2, .int p2), (3, .int p3), (6, .int (F_X2_lastOf p1 p2)), (7, .int w7_L7)]) F.1 F.2.1 (dd D_X2_bestOf 29 rfl) hl (Nat.le_of_ble_eq_true rfl) rfl (fun ls hl => ?_)
          refine lv_iinc (v := (w7_L7 + (1 : Int32))) (lv' := [(7, .int (w7_L7 + (1 : Int32))), (4, .int w7_L7), (5, .int r9), (8, .int r9), (0, .ref (ax 40)), (1, .int p1), (2, .int p2), (3, .int p3), (6, .int (F_X2_lastOf p1 p2))]) F.1 F.2.1 (dd D_X2_bestOf 30 rfl) hl (k := 8) rfl (congrArg (fun z => w7_L7 + z) ki_1) (Nat.le_of_ble_eq_true rfl) rfl (fun ls hl => ?_)
          refine lv_goto (tgt := 23) F.1 F.2.1 (dd D_X2_bestOf 31 rfl) rfl ?_
          exact ih_L7 w7_L7 r9 (w7_L7 + (1 : Int32)) ls (lv_sub hl [4, 5, 6, 7, 8, 1, 2, 0] rfl) h
  exact L7 n p1 r1 (p1 + (1 : Int32)) ls (lv_sub hl [4, 5, 6, 7, 1, 3, 2, 0] rfl) h
def F_X2_newDaysTill (s : XS) (p1 : Int32) : Int32 := (((F_J9_floorDiv_7cf53 (((100 : Int32) * p1) + (st_off (x_now s))) (2953 : Int32)) - (F_J9_floorDiv_7cf53 ((st_off (x_now s)) - (100 : Int32)) (2953 : Int32))))
set_option maxHeartbeats 4000000 in
set_option maxRecDepth 100000 in
theorem c_X2_newDaysTill (D : va_G) (cA : Nat → ClassId) (ax : Nat → Nat) (s : XS) (p1 : Int32) : RO m_X2_newDaysTill 1 D cA [.ref (ax 40), .int p1] (xW cA ax s) (some (.int (F_X2_newDaysTill s p1))) := by
  obtain ⟨r, h⟩ : ∃ r, F_X2_newDaysTill s p1 = r := ⟨_, rfl⟩
  rw [h]
  refine RO.ofW gy_X2_newDaysTill.2.2 (Nat.le_of_ble_eq_true rfl) ?_
  intro l p e sM m below meth c F hr hlk hK hP hS hAb ls hl
  have hl : lv_has ls 3 [(0, .ref (ax 40)), (1, .int p1)] := hl
  unfold F_X2_newDaysTill at h
  refine lv_bipush (v := (100 : Int32)) F.1 F.2.1 (dd D_X2_newDaysTill 0 rfl) kb_100 ?_
  refine lv_iload_n F.1 F.2.1 (dd D_X2_newDaysTill 1 rfl) rfl (lv_at hl 1 rfl) ?_
  refine lv_imul F.1 F.2.1 (dd D_X2_newDaysTill 2 rfl) ?_
  refine lv_aload_n F.1 F.2.1 (dd D_X2_newDaysTill 3 rfl) rfl (lv_at hl 0 rfl) ?_
  refine getF F hK hP lf_X2_9 (40) (xp_40 cA ax s) rfl (dd D_X2_newDaysTill 4 rfl) ?_
  refine getF F hK hP lf_X2_21 (1) (xp_1 cA ax s) rfl (dd D_X2_newDaysTill 5 rfl) ?_
  refine lv_iadd F.1 F.2.1 (dd D_X2_newDaysTill 6 rfl) ?_
  refine lv_sipush (v := (2953 : Int32)) F.1 F.2.1 (dd D_X2_newDaysTill 7 rfl) ks_2953 ?_
  refine ro_go (st' := [.int (F_J9_floorDiv_7cf53 (((100 : Int32) * p1) + (st_off (x_now s))) (2953 : Int32))]) (rS (rest := []) F (c_J9_floorDiv_7cf53 D cA (((100 : Int32) * p1) + (st_off (x_now s))) (2953 : Int32) kd_2953 l) lk_X2_153 (Nat.le_of_ble_eq_true rfl) (preRO hK hS hAb (emP)) rfl hl rfl (Nat.le_of_ble_eq_true rfl) (dd D_X2_newDaysTill 8 rfl) ⟨Nat.le_of_ble_eq_true rfl, Nat.le_of_ble_eq_true rfl⟩) rfl ?_
  refine lv_istore_n (lv' := [(2, .int (F_J9_floorDiv_7cf53 (((100 : Int32) * p1) + (st_off (x_now s))) (2953 : Int32))), (0, .ref (ax 40)), (1, .int p1)]) F.1 F.2.1 (dd D_X2_newDaysTill 9 rfl) rfl hl (Nat.le_of_ble_eq_true rfl) rfl (fun ls hl => ?_)
  refine lv_iload_n F.1 F.2.1 (dd D_X2_newDaysTill 10 rfl) rfl (lv_at hl 0 rfl) ?_
  refine lv_aload_n F.1 F.2.1 (dd D_X2_newDaysTill 11 rfl) rfl (lv_at hl 1 rfl) ?_
  refine getF F hK hP lf_X2_9 (40) (xp_40 cA ax s) rfl (dd D_X2_newDaysTill 12 rfl) ?_
  refine getF F hK hP lf_X2_21 (1) (xp_1 cA ax s) rfl (dd D_X2_newDaysTill 13 rfl) ?_
  refine lv_bipush (v := (100 : Int32)) F.1 F.2.1 (dd D_X2_newDaysTill 14 rfl) kb_100 ?_
  refine lv_isub F.1 F.2.1 (dd D_X2_newDaysTill 15 rfl) ?_
  refine lv_sipush (v := (2953 : Int32)) F.1 F.2.1 (dd D_X2_newDaysTill 16 rfl) ks_2953 ?_
  refine ro_go (st' := [.int (F_J9_floorDiv_7cf53 ((st_off (x_now s)) - (100 : Int32)) (2953 : Int32)), .int (F_J9_floorDiv_7cf53 (((100 : Int32) * p1) + (st_off (x_now s))) (2953 : Int32))]) (rS (rest := [.int (F_J9_floorDiv_7cf53 (((100 : Int32) * p1) + (st_off (x_now s))) (2953 : Int32))]) F (c_J9_floorDiv_7cf53 D cA ((st_off (x_now s)) - (100 : Int32)) (2953 : Int32) kd_2953 l) lk_X2_153 (Nat.le_of_ble_eq_true rfl) (preRO hK hS hAb (emP)) rfl hl rfl (Nat.le_of_ble_eq_true rfl) (dd D_X2_newDaysTill 17 rfl) ⟨Nat.le_of_ble_eq_true rfl, Nat.le_of_ble_eq_true rfl⟩) rfl ?_
  refine lv_isub F.1 F.2.1 (dd D_X2_newDaysTill 18 rfl) ?_
  exact ro_i (R := rmOf 1 0 0) F hr hlk (congrArg (fun z => some (Value.int z)) h) (dd D_X2_newDaysTill 19 rfl)
def F_X2_heightAt (s : XS) (p1 : Int32) (p2 : Int32) : Int32 := (if (F_X2_minutesUp (F_X2_riseOf s p1) p2) = (-1 : Int32) then ((-1 : Int32)) else (((F_X2_minutesUp (F_X2_riseOf s p1) p2) / (5 : Int32))))
set_option maxHeartbeats 4000000 in
set_option maxRecDepth 100000 in
theorem c_X2_heightAt (D : va_G) (cA : Nat → ClassId) (ax : Nat → Nat) (s : XS) (p1 : Int32) (p2 : Int32) : RO m_X2_heightAt 3 D cA [.ref (ax 40), .int p1, .int p2] (xW cA ax s) (some (.int (F_X2_heightAt s p1 p2))) := by
  obtain ⟨r, h⟩ : ∃ r, F_X2_heightAt s p1 p2 = r := ⟨_, rfl⟩
  rw [h]
  refine RO.ofW gy_X2_heightAt.2.2 (Nat.le_of_ble_eq_true rfl) ?_
  intro l p e sM m below meth c F hr hlk hK hP hS hAb ls hl
  have hl : lv_has ls 4 [(0, .ref (ax 40)), (1, .int p1), (2, .int p2)] := hl
  unfold F_X2_heightAt at h
  refine lv_aload_n F.1 F.2.1 (dd D_X2_heightAt 0 rfl) rfl (lv_at hl 0 rfl) ?_
  refine lv_iload_n F.1 F.2.1 (dd D_X2_heightAt 1 rfl) rfl (lv_at hl 1 rfl) ?_
  refine ro_go (st' := [.int (F_X2_riseOf s p1)]) (rV (rest := []) F (c_X2_riseOf D cA ax s p1 l) lk_X2_156 (Nat.le_of_ble_eq_true rfl) (preRO hK hS hAb hP) (rcv_2 hK hP (q0 := (40)) (xp_40 cA ax s)) rfl hl rfl (Nat.le_of_ble_eq_true rfl) (dd D_X2_heightAt 2 rfl) ⟨Nat.le_of_ble_eq_true rfl, Nat.le_of_ble_eq_true rfl⟩) rfl ?_
  refine lv_iload_n F.1 F.2.1 (dd D_X2_heightAt 3 rfl) rfl (lv_at hl 2 rfl) ?_
  refine ro_go (st' := [.int (F_X2_minutesUp (F_X2_riseOf s p1) p2)]) (rS (rest := []) F (c_X2_minutesUp D cA (F_X2_riseOf s p1) p2 l) lk_X2_159 (Nat.le_of_ble_eq_true rfl) (preRO hK hS hAb (emP)) rfl hl rfl (Nat.le_of_ble_eq_true rfl) (dd D_X2_heightAt 4 rfl) ⟨Nat.le_of_ble_eq_true rfl, Nat.le_of_ble_eq_true rfl⟩) rfl ?_
  refine lv_istore_n (lv' := [(3, .int (F_X2_minutesUp (F_X2_riseOf s p1) p2)), (0, .ref (ax 40)), (1, .int p1), (2, .int p2)]) F.1 F.2.1 (dd D_X2_heightAt 5 rfl) rfl hl (Nat.le_of_ble_eq_true rfl) rfl (fun ls hl => ?_)
  refine lv_iload_n F.1 F.2.1 (dd D_X2_heightAt 6 rfl) rfl (lv_at hl 0 rfl) ?_
  refine lv_iconst (v := (-1 : Int32)) F.1 F.2.1 (dd D_X2_heightAt 7 rfl) ki_m1 ?_
  refine x_icmp_ne (tgt := 19) F.1 F.2.1 (dd D_X2_heightAt 8 rfl) rfl h (fun c1 h => ?_) (fun c1 h => ?_)
  · refine lv_iload_n F.1 F.2.1 (dd D_X2_heightAt 11 rfl) rfl (lv_at hl 0 rfl) ?_
    refine lv_iconst (v := (5 : Int32)) F.1 F.2.1 (dd D_X2_heightAt 12 rfl) ki_5 ?_
    refine lv_idiv F.1 F.2.1 (dd D_X2_heightAt 13 rfl) kd_5 ?_
    exact ro_i (R := rmOf 3 0 0) F hr hlk (congrArg (fun z => some (Value.int z)) h) (dd D_X2_heightAt 14 rfl)
  · refine lv_iconst (v := (-1 : Int32)) F.1 F.2.1 (dd D_X2_heightAt 9 rfl) ki_m1 ?_
    refine lv_goto (tgt := 22) F.1 F.2.1 (dd D_X2_heightAt 10 rfl) rfl ?_
    exact ro_i (R := rmOf 3 0 0) F hr hlk (congrArg (fun z => some (Value.int z)) h) (dd D_X2_heightAt 14 rfl)
def F_X2_degreeAt (s : XS) (p1 : Int32) (p2 : Int32) : Int32 := (if (F_X2_minutesUp (F_X2_riseBy (F_X2_ageOf s p1) (F_X2_slantOf s p1)) p2) = (-1 : Int32) then ((-1 : Int32)) else (((F_X2_wayBy (F_X2_slantOf s p1)) + ((F_X2_minutesUp (F_X2_riseBy (F_X2_ageOf s p1) (F_X2_slantOf s p1)) p2) / (4 : Int32)))))
set_option maxHeartbeats 4000000 in
set_option maxRecDepth 100000 in
theorem c_X2_degreeAt (D : va_G) (cA : Nat → ClassId) (ax : Nat → Nat) (s : XS) (p1 : Int32) (p2 : Int32) : RO m_X2_degreeAt 2 D cA [.ref (ax 40), .int p1, .int p2] (xW cA ax s) (some (.int (F_X2_degreeAt s p1 p2))) := by
  obtain ⟨r, h⟩ : ∃ r, F_X2_degreeAt s p1 p2 = r := ⟨_, rfl⟩
  rw [h]
  refine RO.ofW gy_X2_degreeAt.2.2 (Nat.le_of_ble_eq_true rfl) ?_
  intro l p e sM m below meth c F hr hlk hK hP hS hAb ls hl
  have hl : lv_has ls 5 [(0, .ref (ax 40)), (1, .int p1), (2, .int p2)] := hl
  unfold F_X2_degreeAt at h
  refine lv_aload_n F.1 F.2.1 (dd D_X2_degreeAt 0 rfl) rfl (lv_at hl 0 rfl) ?_
  refine lv_iload_n F.1 F.2.1 (dd D_X2_degreeAt 1 rfl) rfl (lv_at hl 1 rfl) ?_
  refine ro_go (st' := [.int (F_X2_slantOf s p1)]) (rV (rest := []) F (c_X2_slantOf D cA ax s p1 l) lk_X2_43 (Nat.le_of_ble_eq_true rfl) (preRO hK hS hAb hP) (rcv_2 hK hP (q0 := (40)) (xp_40 cA ax s)) rfl hl rfl (Nat.le_of_ble_eq_true rfl) (dd D_X2_degreeAt 2 rfl) ⟨Nat.le_of_ble_eq_true rfl, Nat.le_of_ble_eq_true rfl⟩) rfl ?_
  refine lv_istore_n (lv' := [(3, .int (F_X2_slantOf s p1)), (0, .ref (ax 40)), (1, .int p1), (2, .int p2)]) F.1 F.2.1 (dd D_X2_degreeAt 3 rfl) rfl hl (Nat.le_of_ble_eq_true rfl) rfl (fun ls hl => ?_)
  refine lv_aload_n F.1 F.2.1 (dd D_X2_degreeAt 4 rfl) rfl (lv_at hl 1 rfl) ?_
  refine lv_iload_n F.1 F.2.1 (dd D_X2_degreeAt 5 rfl) rfl (lv_at hl 2 rfl) ?_
  refine ro_go (st' := [.int (F_X2_ageOf s p1)]) (rV (rest := []) F (c_X2_ageOf D cA ax s p1 l) lk_X2_27 (Nat.le_of_ble_eq_true rfl) (preRO hK hS hAb hP) (rcv_2 hK hP (q0 := (40)) (xp_40 cA ax s)) rfl hl rfl (Nat.le_of_ble_eq_true rfl) (dd D_X2_degreeAt 6 rfl) ⟨Nat.le_of_ble_eq_true rfl, Nat.le_of_ble_eq_true rfl⟩) rfl ?_
  refine lv_iload_n F.1 F.2.1 (dd D_X2_degreeAt 7 rfl) rfl (lv_at hl 0 rfl) ?_
  refine ro_go (st' := [.int (F_X2_riseBy (F_X2_ageOf s p1) (F_X2_slantOf s p1))]) (rS (rest := []) F (c_X2_riseBy D cA (F_X2_ageOf s p1) (F_X2_slantOf s p1) l) lk_X2_46 (Nat.le_of_ble_eq_true rfl) (preRO hK hS hAb (emP)) rfl hl rfl (Nat.le_of_ble_eq_true rfl) (dd D_X2_degreeAt 8 rfl) ⟨Nat.le_of_ble_eq_true rfl, Nat.le_of_ble_eq_true rfl⟩) rfl ?_
  refine lv_iload_n F.1 F.2.1 (dd D_X2_degreeAt 9 rfl) rfl (lv_at hl 3 rfl) ?_
  refine ro_go (st' := [.int (F_X2_minutesUp (F_X2_riseBy (F_X2_ageOf s p1) (F_X2_slantOf s p1)) p2)]) (rS (rest := []) F (c_X2_minutesUp D cA (F_X2_riseBy (F_X2_ageOf s p1) (F_X2_slantOf s p1)) p2 l) lk_X2_159 (Nat.le_of_ble_eq_true rfl) (preRO hK hS hAb (emP)) rfl hl rfl (Nat.le_of_ble_eq_true rfl) (dd D_X2_degreeAt 10 rfl) ⟨Nat.le_of_ble_eq_true rfl, Nat.le_of_ble_eq_true rfl⟩) rfl ?_
  refine lv_istore (lv' := [(4, .int (F_X2_minutesUp (F_X2_riseBy (F_X2_ageOf s p1) (F_X2_slantOf s p1)) p2)), (3, .int (F_X2_slantOf s p1)), (0, .ref (ax 40)), (1, .int p1), (2, .int p2)]) F.1 F.2.1 (dd D_X2_degreeAt 11 rfl) hl (Nat.le_of_ble_eq_true rfl) rfl (fun ls hl => ?_)
  refine lv_iload F.1 F.2.1 (dd D_X2_degreeAt 12 rfl) (lv_at hl 0 rfl) ?_
  refine lv_iconst (v := (-1 : Int32)) F.1 F.2.1 (dd D_X2_degreeAt 13 rfl) ki_m1 ?_
  refine x_icmp_ne (tgt := 31) F.1 F.2.1 (dd D_X2_degreeAt 14 rfl) rfl h (fun c1 h => ?_) (fun c1 h => ?_)
  · refine lv_iload_n F.1 F.2.1 (dd D_X2_degreeAt 17 rfl) rfl (lv_at hl 1 rfl) ?_
    refine ro_go (st' := [.int (F_X2_wayBy (F_X2_slantOf s p1))]) (rS (rest := []) F (c_X2_wayBy D cA (F_X2_slantOf s p1) l) lk_X2_49 (Nat.le_of_ble_eq_true rfl) (preRO hK hS hAb (emP)) rfl hl rfl (Nat.le_of_ble_eq_true rfl) (dd D_X2_degreeAt 18 rfl) ⟨Nat.le_of_ble_eq_true rfl, Nat.le_of_ble_eq_true rfl⟩) rfl ?_
    refine lv_iload F.1 F.2.1 (dd D_X2_degreeAt 19 rfl) (lv_at hl 0 rfl) ?_
    refine lv_iconst (v := (4 : Int32)) F.1 F.2.1 (dd D_X2_degreeAt 20 rfl) ki_4 ?_
    refine lv_idiv F.1 F.2.1 (dd D_X2_degreeAt 21 rfl) kd_4 ?_
    refine lv_iadd F.1 F.2.1 (dd D_X2_degreeAt 22 rfl) ?_
    exact ro_i (R := rmOf 2 0 0) F hr hlk (congrArg (fun z => some (Value.int z)) h) (dd D_X2_degreeAt 23 rfl)
  · refine lv_iconst (v := (-1 : Int32)) F.1 F.2.1 (dd D_X2_degreeAt 15 rfl) ki_m1 ?_
    refine lv_goto (tgt := 40) F.1 F.2.1 (dd D_X2_degreeAt 16 rfl) rfl ?_
    exact ro_i (R := rmOf 2 0 0) F hr hlk (congrArg (fun z => some (Value.int z)) h) (dd D_X2_degreeAt 23 rfl)
def F_X2_couldBegin (s : XS) (p1 : Int64) : Bool := (if (lg_cmp p1 (0 : Int64)) < 0 then (false) else (if 0 < (lg_cmp p1 (9999 : Int64)) then (false) else bf (F_X8_isIn (F_X2_ageOf s (Int64.toInt32 p1)) (100 : Int32) (400 : Int32)) ((true)) ((false))))
set_option maxHeartbeats 4000000 in
set_option maxRecDepth 100000 in
theorem c_X2_couldBegin (D : va_G) (cA : Nat → ClassId) (ax : Nat → Nat) (s : XS) (p1 : Int64) : RO m_X2_couldBegin 1 D cA [.ref (ax 40), .long p1] (xW cA ax s) (some (.int (bI (F_X2_couldBegin s p1)))) := by
  obtain ⟨r, h⟩ : ∃ r, F_X2_couldBegin s p1 = r := ⟨_, rfl⟩
  rw [h]
  refine RO.ofW gy_X2_couldBegin.2.2 (Nat.le_of_ble_eq_true rfl) ?_
  intro l p e sM m below meth c F hr hlk hK hP hS hAb ls hl
  have hl : lv_has ls 3 [(0, .ref (ax 40)), (1, .long p1)] := hl
  unfold F_X2_couldBegin at h
  refine lv_lload_n F.1 F.2.1 (dd D_X2_couldBegin 0 rfl) rfl (lv_at hl 1 rfl) ?_
  refine lv_lconst (v := (0 : Int64)) F.1 F.2.1 (dd D_X2_couldBegin 1 rfl) kl_0 ?_
  refine W.lcmp F.1 F.2.1 (dd D_X2_couldBegin 2 rfl) ?_
  refine x_if_lt (tgt := 35) F.1 F.2.1 (dd D_X2_couldBegin 3 rfl) rfl h (fun c1 h => ?_) (fun c1 h => ?_)
  · refine lv_iconst (v := (0 : Int32)) F.1 F.2.1 (dd D_X2_couldBegin 18 rfl) ki_0 ?_
    exact ro_z (R := rmOf 1 0 0) F hr rfl hlk (congrArg (fun z => some (Value.int (bI z))) h) (dd D_X2_couldBegin 19 rfl)
  · refine lv_lload_n F.1 F.2.1 (dd D_X2_couldBegin 4 rfl) rfl (lv_at hl 1 rfl) ?_
    refine lv_ldc2 (own := RX2) (v := (9999 : Int64)) F.1 F.2.1 F.2.2.2.1 (F.2.2.2.2 _ (kL_X2_172)) (dd D_X2_couldBegin 5 rfl) ?_
    refine W.lcmp F.1 F.2.1 (dd D_X2_couldBegin 6 rfl) ?_
    refine x_if_gt (tgt := 35) F.1 F.2.1 (dd D_X2_couldBegin 7 rfl) rfl h (fun c2 h => ?_) (fun c2 h => ?_)
    · refine lv_iconst (v := (0 : Int32)) F.1 F.2.1 (dd D_X2_couldBegin 18 rfl) ki_0 ?_
      exact ro_z (R := rmOf 1 0 0) F hr rfl hlk (congrArg (fun z => some (Value.int (bI z))) h) (dd D_X2_couldBegin 19 rfl)
    · refine lv_aload_n F.1 F.2.1 (dd D_X2_couldBegin 8 rfl) rfl (lv_at hl 0 rfl) ?_
      refine lv_lload_n F.1 F.2.1 (dd D_X2_couldBegin 9 rfl) rfl (lv_at hl 1 rfl) ?_
      refine lv_l2i (v := (Int64.toInt32 p1)) F.1 F.2.1 (dd D_X2_couldBegin 10 rfl) rfl ?_
      refine ro_go (st' := [.int (F_X2_ageOf s (Int64.toInt32 p1))]) (rV (rest := []) F (c_X2_ageOf D cA ax s (Int64.toInt32 p1) l) lk_X2_27 (Nat.le_of_ble_eq_true rfl) (preRO hK hS hAb hP) (rcv_2 hK hP (q0 := (40)) (xp_40 cA ax s)) rfl hl rfl (Nat.le_of_ble_eq_true rfl) (dd D_X2_couldBegin 11 rfl) ⟨Nat.le_of_ble_eq_true rfl, Nat.le_of_ble_eq_true rfl⟩) rfl ?_
      refine lv_bipush (v := (100 : Int32)) F.1 F.2.1 (dd D_X2_couldBegin 12 rfl) kb_100 ?_
      refine lv_sipush (v := (400 : Int32)) F.1 F.2.1 (dd D_X2_couldBegin 13 rfl) ks_400 ?_
      refine ro_go (st' := [.int (bI (F_X8_isIn (F_X2_ageOf s (Int64.toInt32 p1)) (100 : Int32) (400 : Int32)))]) (rSN hK (rest := []) F (c_X8_isIn D cA (F_X2_ageOf s (Int64.toInt32 p1)) (100 : Int32) (400 : Int32) l) lk_X2_80 (Nat.le_of_ble_eq_true rfl) (preRO hK hS hAb (emP)) rfl hl rfl (Nat.le_of_ble_eq_true rfl) (dd D_X2_couldBegin 14 rfl) ⟨Nat.le_of_ble_eq_true rfl, Nat.le_of_ble_eq_true rfl⟩) rfl ?_
      refine x_bif_eq (tgt := 35) F.1 F.2.1 (dd D_X2_couldBegin 15 rfl) rfl h (fun c3 h => ?_) (fun c3 h => ?_)
      · refine lv_iconst (v := (0 : Int32)) F.1 F.2.1 (dd D_X2_couldBegin 18 rfl) ki_0 ?_
        exact ro_z (R := rmOf 1 0 0) F hr rfl hlk (congrArg (fun z => some (Value.int (bI z))) h) (dd D_X2_couldBegin 19 rfl)
      · refine lv_iconst (v := (1 : Int32)) F.1 F.2.1 (dd D_X2_couldBegin 16 rfl) ki_1 ?_
        refine lv_goto (tgt := 36) F.1 F.2.1 (dd D_X2_couldBegin 17 rfl) rfl ?_
        exact ro_z (R := rmOf 1 0 0) F hr rfl hlk (congrArg (fun z => some (Value.int (bI z))) h) (dd D_X2_couldBegin 19 rfl)
def F_X2_highWaterOf (s : XS) (p1 : Int32) : Int32 := ((jrem ((F_X2_riseOf s p1) + (180 : Int32)) (720 : Int32)))
set_option maxHeartbeats 4000000 in
set_option maxRecDepth 100000 in
theorem c_X2_highWaterOf (D : va_G) (cA : Nat → ClassId) (ax : Nat → Nat) (s : XS) (p1 : Int32) : RO m_X2_highWaterOf 3 D cA [.ref (ax 40), .int p1] (xW cA ax s) (some (.int (F_X2_highWaterOf s p1))) := by
  obtain ⟨r, h⟩ : ∃ r, F_X2_highWaterOf s p1 = r := ⟨_, rfl⟩
  rw [h]
  refine RO.ofW gy_X2_highWaterOf.2.2 (Nat.le_of_ble_eq_true rfl) ?_
  intro l p e sM m below meth c F hr hlk hK hP hS hAb ls hl
  have hl : lv_has ls 2 [(0, .ref (ax 40)), (1, .int p1)] := hl
  unfold F_X2_highWaterOf at h
  refine lv_aload_n F.1 F.2.1 (dd D_X2_highWaterOf 0 rfl) rfl (lv_at hl 0 rfl) ?_
  refine lv_iload_n F.1 F.2.1 (dd D_X2_highWaterOf 1 rfl) rfl (lv_at hl 1 rfl) ?_
  refine ro_go (st' := [.int (F_X2_riseOf s p1)]) (rV (rest := []) F (c_X2_riseOf D cA ax s p1 l) lk_X2_156 (Nat.le_of_ble_eq_true rfl) (preRO hK hS hAb hP) (rcv_2 hK hP (q0 := (40)) (xp_40 cA ax s)) rfl hl rfl (Nat.le_of_ble_eq_true rfl) (dd D_X2_highWaterOf 2 rfl) ⟨Nat.le_of_ble_eq_true rfl, Nat.le_of_ble_eq_true rfl⟩) rfl ?_
  refine lv_sipush (v := (180 : Int32)) F.1 F.2.1 (dd D_X2_highWaterOf 3 rfl) ks_180 ?_
  refine lv_iadd F.1 F.2.1 (dd D_X2_highWaterOf 4 rfl) ?_
  refine lv_sipush (v := (720 : Int32)) F.1 F.2.1 (dd D_X2_highWaterOf 5 rfl) ks_720 ?_
  refine x_irem F.1 F.2.1 (dd D_X2_highWaterOf 6 rfl) kd_720 ?_
  exact ro_i (R := rmOf 3 0 0) F hr hlk (congrArg (fun z => some (Value.int z)) h) (dd D_X2_highWaterOf 7 rfl)
def F_X2_tideAt (s : XS) (p1 : Int32) (p2 : Int32) : Int32 := (((50 : Int32) + (((F_J9_abs_0f7a4 ((F_X2_litOf s p1) - (50 : Int32))) * ((180 : Int32) - (F_J9_min_7cf53 (F_J9_floorMod_7cf53 (p2 - (F_X2_highWaterOf s p1)) (720 : Int32)) ((720 : Int32) - (F_J9_floorMod_7cf53 (p2 - (F_X2_highWaterOf s p1)) (720 : Int32)))))) / (180 : Int32))))
set_option maxHeartbeats 4000000 in
set_option maxRecDepth 100000 in
theorem c_X2_tideAt (D : va_G) (cA : Nat → ClassId) (ax : Nat → Nat) (s : XS) (p1 : Int32) (p2 : Int32) : RO m_X2_tideAt 4 D cA [.ref (ax 40), .int p1, .int p2] (xW cA ax s) (some (.int (F_X2_tideAt s p1 p2))) := by
  obtain ⟨r, h⟩ : ∃ r, F_X2_tideAt s p1 p2 = r := ⟨_, rfl⟩
  rw [h]
  refine RO.ofW gy_X2_tideAt.2.2 (Nat.le_of_ble_eq_true rfl) ?_
  intro l p e sM m below meth c F hr hlk hK hP hS hAb ls hl
  have hl : lv_has ls 5 [(0, .ref (ax 40)), (1, .int p1), (2, .int p2)] := hl
  unfold F_X2_tideAt at h
  refine lv_iload_n F.1 F.2.1 (dd D_X2_tideAt 0 rfl) rfl (lv_at hl 2 rfl) ?_
  refine lv_aload_n F.1 F.2.1 (dd D_X2_tideAt 1 rfl) rfl (lv_at hl 0 rfl) ?_
  refine lv_iload_n F.1 F.2.1 (dd D_X2_tideAt 2 rfl) rfl (lv_at hl 1 rfl) ?_
  refine ro_go (st' := [.int (F_X2_highWaterOf s p1), .int p2]) (rV (rest := [.int p2]) F (c_X2_highWaterOf D cA ax s p1 l) lk_X2_174 (Nat.le_of_ble_eq_true rfl) (preRO hK hS hAb hP) (rcv_2 hK hP (q0 := (40)) (xp_40 cA ax s)) rfl hl rfl (Nat.le_of_ble_eq_true rfl) (dd D_X2_tideAt 3 rfl) ⟨Nat.le_of_ble_eq_true rfl, Nat.le_of_ble_eq_true rfl⟩) rfl ?_
  refine lv_isub F.1 F.2.1 (dd D_X2_tideAt 4 rfl) ?_
  refine lv_sipush (v := (720 : Int32)) F.1 F.2.1 (dd D_X2_tideAt 5 rfl) ks_720 ?_
  refine ro_go (st' := [.int (F_J9_floorMod_7cf53 (p2 - (F_X2_highWaterOf s p1)) (720 : Int32))]) (rS (rest := []) F (c_J9_floorMod_7cf53 D cA (p2 - (F_X2_highWaterOf s p1)) (720 : Int32) kd_720 l) lk_X2_40 (Nat.le_of_ble_eq_true rfl) (preRO hK hS hAb (emP)) rfl hl rfl (Nat.le_of_ble_eq_true rfl) (dd D_X2_tideAt 6 rfl) ⟨Nat.le_of_ble_eq_true rfl, Nat.le_of_ble_eq_true rfl⟩) rfl ?_
  refine lv_istore_n (lv' := [(3, .int (F_J9_floorMod_7cf53 (p2 - (F_X2_highWaterOf s p1)) (720 : Int32))), (0, .ref (ax 40)), (1, .int p1), (2, .int p2)]) F.1 F.2.1 (dd D_X2_tideAt 7 rfl) rfl hl (Nat.le_of_ble_eq_true rfl) rfl (fun ls hl => ?_)
  refine lv_iload_n F.1 F.2.1 (dd D_X2_tideAt 8 rfl) rfl (lv_at hl 0 rfl) ?_
  refine lv_sipush (v := (720 : Int32)) F.1 F.2.1 (dd D_X2_tideAt 9 rfl) ks_720 ?_
  refine lv_iload_n F.1 F.2.1 (dd D_X2_tideAt 10 rfl) rfl (lv_at hl 0 rfl) ?_
  refine lv_isub F.1 F.2.1 (dd D_X2_tideAt 11 rfl) ?_
  refine ro_go (st' := [.int (F_J9_min_7cf53 (F_J9_floorMod_7cf53 (p2 - (F_X2_highWaterOf s p1)) (720 : Int32)) ((720 : Int32) - (F_J9_floorMod_7cf53 (p2 - (F_X2_highWaterOf s p1)) (720 : Int32))))]) (rS (rest := []) F (c_J9_min_7cf53 D cA (F_J9_floorMod_7cf53 (p2 - (F_X2_highWaterOf s p1)) (720 : Int32)) ((720 : Int32) - (F_J9_floorMod_7cf53 (p2 - (F_X2_highWaterOf s p1)) (720 : Int32))) l) lk_X2_15 (Nat.le_of_ble_eq_true rfl) (preRO hK hS hAb (emP)) rfl hl rfl (Nat.le_of_ble_eq_true rfl) (dd D_X2_tideAt 12 rfl) ⟨Nat.le_of_ble_eq_true rfl, Nat.le_of_ble_eq_true rfl⟩) rfl ?_
  refine lv_istore (lv' := [(4, .int (F_J9_min_7cf53 (F_J9_floorMod_7cf53 (p2 - (F_X2_highWaterOf s p1)) (720 : Int32)) ((720 : Int32) - (F_J9_floorMod_7cf53 (p2 - (F_X2_highWaterOf s p1)) (720 : Int32))))), (3, .int (F_J9_floorMod_7cf53 (p2 - (F_X2_highWaterOf s p1)) (720 : Int32))), (0, .ref (ax 40)), (1, .int p1), (2, .int p2)]) F.1 F.2.1 (dd D_X2_tideAt 13 rfl) hl (Nat.le_of_ble_eq_true rfl) rfl (fun ls hl => ?_)
  refine lv_bipush (v := (50 : Int32)) F.1 F.2.1 (dd D_X2_tideAt 14 rfl) kb_50 ?_
  refine lv_aload_n F.1 F.2.1 (dd D_X2_tideAt 15 rfl) rfl (lv_at hl 2 rfl) ?_
  refine lv_iload_n F.1 F.2.1 (dd D_X2_tideAt 16 rfl) rfl (lv_at hl 3 rfl) ?_
  refine ro_go (st' := [.int (F_X2_litOf s p1), .int (50 : Int32)]) (rV (rest := [.int (50 : Int32)]) F (c_X2_litOf D cA ax s p1 l) lk_X2_77 (Nat.le_of_ble_eq_true rfl) (preRO hK hS hAb hP) (rcv_2 hK hP (q0 := (40)) (xp_40 cA ax s)) rfl hl rfl (Nat.le_of_ble_eq_true rfl) (dd D_X2_tideAt 17 rfl) ⟨Nat.le_of_ble_eq_true rfl, Nat.le_of_ble_eq_true rfl⟩) rfl ?_
  refine lv_bipush (v := (50 : Int32)) F.1 F.2.1 (dd D_X2_tideAt 18 rfl) kb_50 ?_
  refine lv_isub F.1 F.2.1 (dd D_X2_tideAt 19 rfl) ?_
  refine ro_go (st' := [.int (F_J9_abs_0f7a4 ((F_X2_litOf s p1) - (50 : Int32))), .int (50 : Int32)]) (rS (rest := [.int (50 : Int32)]) F (c_J9_abs_0f7a4 D cA ((F_X2_litOf s p1) - (50 : Int32)) l) lk_X2_84 (Nat.le_of_ble_eq_true rfl) (preRO hK hS hAb (emP)) rfl hl rfl (Nat.le_of_ble_eq_true rfl) (dd D_X2_tideAt 20 rfl) ⟨Nat.le_of_ble_eq_true rfl, Nat.le_of_ble_eq_true rfl⟩) rfl ?_
  refine lv_sipush (v := (180 : Int32)) F.1 F.2.1 (dd D_X2_tideAt 21 rfl) ks_180 ?_
  refine lv_iload F.1 F.2.1 (dd D_X2_tideAt 22 rfl) (lv_at hl 0 rfl) ?_
  refine lv_isub F.1 F.2.1 (dd D_X2_tideAt 23 rfl) ?_
  refine lv_imul F.1 F.2.1 (dd D_X2_tideAt 24 rfl) ?_
  refine lv_sipush (v := (180 : Int32)) F.1 F.2.1 (dd D_X2_tideAt 25 rfl) ks_180 ?_
  refine lv_idiv F.1 F.2.1 (dd D_X2_tideAt 26 rfl) kd_180 ?_
  refine lv_iadd F.1 F.2.1 (dd D_X2_tideAt 27 rfl) ?_
  exact ro_i (R := rmOf 4 0 0) F hr hlk (congrArg (fun z => some (Value.int z)) h) (dd D_X2_tideAt 28 rfl)
def F_X3_gather_L18 (n : Nat) (v2 : Int32) (v3 : Int32) (v4 : Int32) : Nat → Int32 → XS → Option XS
  | 0, _, _ => none
  | kf + 1, w5, u0 => (if v4 < w5 then some u0 else (((F_X2_degreeOf n u0 w5)).bind fun r4 => (if r4 < 0 then F_X3_gather_L18 n v2 v3 v4 kf (w5 + (1 : Int32)) u0 else (if (181 : Int32) ≤ r4 then F_X3_gather_L18 n v2 v3 v4 kf (w5 + (1 : Int32)) u0 else gd (inb r4 181) (gd (inb r4 181) (F_X3_gather_L18 n v2 v3 v4 kf (w5 + (1 : Int32)) (x_set_often u0 (upd (x_often u0) (Int32.toNatClampNeg r4) (((x_often u0) (Int32.toNatClampNeg r4)) + (1 : Int32))))))))))
def F_X3_gather (n : Nat) (s : XS) (p2 : Int32) (p3 : Int32) : Option XS := (((F_J7_fill_53178 n 181 (x_often s) (0 : Int32))).bind fun r1 => F_X3_gather_L18 n p2 p3 (F_X2_lastOf p2 p3) n p2 (x_set_often s r1))
set_option maxHeartbeats 4000000 in
set_option maxRecDepth 100000 in
theorem c_X3_gather (D : va_G) (cA : Nat → ClassId) (ax : Nat → Nat) (s : XS) (n : Nat) (p2 : Int32) (p3 : Int32) (r : XS) (h : F_X3_gather n s p2 p3 = some r) : RW m_X3_gather 4 0 0 D cA [.ref (ax 43), .ref (ax 40), .int p2, .int p3] (xW cA ax s) (exq (none) (xW cA ax r)) := by
  refine RW.ofW gy_X3_gather.2.2 (Nat.le_of_ble_eq_true rfl) ?_
  intro l p e sM m below meth c A H locs F hr hlk hnm hK hP hD hS hA hAb ls hl
  have hl : lv_has ls 7 [(0, .ref (ax 43)), (1, .ref (ax 40)), (2, .int p2), (3, .int p3)] := hl
  unfold F_X3_gather at h
  refine lv_aload_n F.1 F.2.1 (dd D_X3_gather 0 rfl) rfl (lv_at hl 0 rfl) ?_
  refine getF F hK hP lf_X3_9 (43) (xp_43 cA ax s) rfl (dd D_X3_gather 1 rfl) ?_
  refine lv_iconst (v := (0 : Int32)) F.1 F.2.1 (dd D_X3_gather 2 rfl) ki_0 ?_
  obtain ⟨r1, e2, h⟩ := Option.bind_eq_some_iff.mp h
  refine rwe (V := none) (wc := [((ax 44), .inl (cA 0, 181, .inl (x_often s)))]) (wc' := [((ax 44), .inl (cA 0, 181, .inl r1))]) (st' := []) (W' := (xW cA ax (x_set_often s r1))) hP hD hS hA [44] (jc_x_44 cA ax s) (Nat_nd rfl) rfl (rS (rest := []) F (c_J7_fill_53178 D cA 181 (ax 44) (x_often s) n (0 : Int32) r1 e2 l H.size) lk_X3_15 (Nat.le_of_ble_eq_true rfl) (preRW hK hS hAb (selP (is := [44]) hP (jc_x_44 cA ax s)) (selD (is := [44]) hD (Nat_nd rfl) (jc_x_44 cA ax s))) rfl hl rfl (Nat.le_of_ble_eq_true rfl) (dd D_X3_gather 3 rfl) ⟨Nat.le_of_ble_eq_true rfl, Nat.le_of_ble_eq_true rfl⟩) (js_x_44 cA ax s r1) rfl (fun H locs hP hD hS => ?_)
  refine lv_iload_n F.1 F.2.1 (dd D_X3_gather 4 rfl) rfl (lv_at hl 2 rfl) ?_
  refine lv_iload_n F.1 F.2.1 (dd D_X3_gather 5 rfl) rfl (lv_at hl 3 rfl) ?_
  refine ro_go (st' := [.int (F_X2_lastOf p2 p3)]) (rS (rest := []) F (c_X2_lastOf D cA p2 p3 l) lk_X3_21 (Nat.le_of_ble_eq_true rfl) (preRO hK hS hAb (emP)) rfl hl rfl (Nat.le_of_ble_eq_true rfl) (dd D_X3_gather 6 rfl) ⟨Nat.le_of_ble_eq_true rfl, Nat.le_of_ble_eq_true rfl⟩) rfl ?_
  refine lv_istore (lv' := [(4, .int (F_X2_lastOf p2 p3)), (0, .ref (ax 43)), (1, .ref (ax 40)), (2, .int p2), (3, .int p3)]) F.1 F.2.1 (dd D_X3_gather 7 rfl) hl (Nat.le_of_ble_eq_true rfl) rfl (fun ls hl => ?_)
  refine lv_iload_n F.1 F.2.1 (dd D_X3_gather 8 rfl) rfl (lv_at hl 3 rfl) ?_
  refine lv_istore (lv' := [(5, .int p2), (4, .int (F_X2_lastOf p2 p3)), (0, .ref (ax 43)), (1, .ref (ax 40)), (2, .int p2), (3, .int p3)]) F.1 F.2.1 (dd D_X3_gather 9 rfl) hl (Nat.le_of_ble_eq_true rfl) rfl (fun ls hl => ?_)
  have L10 : ∀ (kf : Nat) (w5_L10 : Int32) (u0_L10 : XS) (H : Heap) (locs : List Loc) (ls : Array Slot), va_P D vwCl (xW cA ax u0_L10) H → va_D A (xW cA ax u0_L10) → va_S A sM.heap H locs → lv_has ls 7 [(0, .ref (ax 43)), (1, .ref (ax 40)), (2, .int p2), (3, .int p3), (4, .int (F_X2_lastOf p2 p3)), (5, .int w5_L10)] → F_X3_gather_L18 n p2 p3 (F_X2_lastOf p2 p3) kf w5_L10 u0_L10 = some r → Wrw 4 0 0 D A (exq (none) (xW cA ax r)) p l e sM m ([.ref (ax 43), .ref (ax 40), .int p2, .int p3] : List Value).toArray below meth c H locs 0 0 18 ls [] := by
    intro kf
    induction kf with
    | zero =>
      intro w5_L10 u0_L10 H locs ls hP hD hS hl h
      cases (show none = some r from h)
    | succ k_L10 ih_L10 =>
      intro w5_L10 u0_L10 H locs ls hP hD hS hl h
      unfold F_X3_gather_L18 at h
      refine lv_iload F.1 F.2.1 (dd D_X3_gather 10 rfl) (lv_at hl 5 rfl) ?_
      refine lv_iload F.1 F.2.1 (dd D_X3_gather 11 rfl) (lv_at hl 4 rfl) ?_
      refine x_icmp_gt (tgt := 65) F.1 F.2.1 (dd D_X3_gather 12 rfl) rfl h (fun c11 h => ?_) (fun c11 h => ?_)
      · obtain rfl := Option.some.inj h
        exact rw_v (R := rmOf 4 0 0) F hP hD hS hr hlk ⟨Nat.le_of_ble_eq_true rfl, Nat.le_of_ble_eq_true rfl⟩ ⟨rfl, rfl⟩ (dd D_X3_gather 34 rfl)
      · refine lv_aload_n F.1 F.2.1 (dd D_X3_gather 13 rfl) rfl (lv_at hl 1 rfl) ?_
        refine lv_iload F.1 F.2.1 (dd D_X3_gather 14 rfl) (lv_at hl 5 rfl) ?_
        obtain ⟨r12, e13, h⟩ := Option.bind_eq_some_iff.mp h
        refine ro_go (st' := [.int r12]) (rV (rest := []) F (c_X2_degreeOf D cA ax u0_L10 n w5_L10 r12 e13 l) lk_X3_27 (Nat.le_of_ble_eq_true rfl) (preRO hK hS hAb hP) (rcv_2 hK hP (q0 := (40)) (xp_40 cA ax u0_L10)) rfl hl rfl (Nat.le_of_ble_eq_true rfl) (dd D_X3_gather 15 rfl) ⟨Nat.le_of_ble_eq_true rfl, Nat.le_of_ble_eq_true rfl⟩) rfl ?_
        refine lv_istore (lv' := [(6, .int r12), (0, .ref (ax 43)), (1, .ref (ax 40)), (2, .int p2), (3, .int p3), (4, .int (F_X2_lastOf p2 p3)), (5, .int w5_L10)]) F.1 F.2.1 (dd D_X3_gather 16 rfl) hl (Nat.le_of_ble_eq_true rfl) rfl (fun ls hl => ?_)
        refine lv_iload F.1 F.2.1 (dd D_X3_gather 17 rfl) (lv_at hl 0 rfl) ?_
        refine x_if_lt (tgt := 59) F.1 F.2.1 (dd D_X3_gather 18 rfl) rfl h (fun c14 h => ?_) (fun c14 h => ?_)
        · refine lv_iinc (v := (w5_L10 + (1 : Int32))) (lv' := [(5, .int (w5_L10 + (1 : Int32))), (6, .int r12), (0, .ref (ax 43)), (1, .ref (ax 40)), (2, .int p2), (3, .int p3), (4, .int (F_X2_lastOf p2 p3))]) F.1 F.2.1 (dd D_X3_gather 32 rfl) hl (k := 6) rfl (congrArg (fun z => w5_L10 + z) ki_1) (Nat.le_of_ble_eq_true rfl) rfl (fun ls hl => ?_)
          refine lv_goto (tgt := 18) F.1 F.2.1 (dd D_X3_gather 33 rfl) rfl ?_
          exact ih_L10 (w5_L10 + (1 : Int32)) u0_L10 _ _ ls hP hD hS (lv_sub hl [2, 3, 4, 5, 6, 0] rfl) h
        · refine lv_iload F.1 F.2.1 (dd D_X3_gather 19 rfl) (lv_at hl 0 rfl) ?_
          refine lv_aload_n F.1 F.2.1 (dd D_X3_gather 20 rfl) rfl (lv_at hl 1 rfl) ?_
          refine getF F hK hP lf_X3_9 (43) (xp_43 cA ax u0_L10) rfl (dd D_X3_gather 21 rfl) ?_
          refine alen F hK hP (44) 0 (xp_44 cA ax u0_L10) rfl (v := (181 : Int32)) kn_181 (dd D_X3_gather 22 rfl) ?_
          refine x_icmp_ge (tgt := 59) F.1 F.2.1 (dd D_X3_gather 23 rfl) rfl h (fun c15 h => ?_) (fun c15 h => ?_)
          · refine lv_iinc (v := (w5_L10 + (1 : Int32))) (lv' := [(5, .int (w5_L10 + (1 : Int32))), (6, .int r12), (0, .ref (ax 43)), (1, .ref (ax 40)), (2, .int p2), (3, .int p3), (4, .int (F_X2_lastOf p2 p3))]) F.1 F.2.1 (dd D_X3_gather 32 rfl) hl (k := 6) rfl (congrArg (fun z => w5_L10 + z) ki_1) (Nat.le_of_ble_eq_true rfl) rfl (fun ls hl => ?_)
            refine lv_goto (tgt := 18) F.1 F.2.1 (dd D_X3_gather 33 rfl) rfl ?_
            exact ih_L10 (w5_L10 + (1 : Int32)) u0_L10 _ _ ls hP hD hS (lv_sub hl [2, 3, 4, 5, 6, 0] rfl) h
          · refine lv_aload_n F.1 F.2.1 (dd D_X3_gather 24 rfl) rfl (lv_at hl 1 rfl) ?_
            refine getF F hK hP lf_X3_9 (43) (xp_43 cA ax u0_L10) rfl (dd D_X3_gather 25 rfl) ?_
            refine lv_iload F.1 F.2.1 (dd D_X3_gather 26 rfl) (lv_at hl 0 rfl) ?_
            refine lv_dup2_11 F.1 F.2.1 (dd D_X3_gather 27 rfl) rfl rfl ?_
            refine aldI F hK hP (44) (xp_44 cA ax u0_L10) h (dd D_X3_gather 28 rfl) (fun z16 h => ?_)
            refine lv_iconst (v := (1 : Int32)) F.1 F.2.1 (dd D_X3_gather 29 rfl) ki_1 ?_
            refine lv_iadd F.1 F.2.1 (dd D_X3_gather 30 rfl) ?_
            refine astI F hK hP hD hS (44) (xp_44 cA ax u0_L10) h (ws' := (xW cA ax (x_set_often u0_L10 (upd (x_often u0_L10) (Int32.toNatClampNeg r12) (((x_often u0_L10) (Int32.toNatClampNeg r12)) + (1 : Int32)))))) (xs_44 cA ax u0_L10 (upd (x_often u0_L10) (Int32.toNatClampNeg r12) (((x_often u0_L10) (Int32.toNatClampNeg r12)) + (1 : Int32)))) (dd D_X3_gather 31 rfl) (fun z17 h H locs hP hD hS => ?_)
            refine lv_iinc (v := (w5_L10 + (1 : Int32))) (lv' := [(5, .int (w5_L10 + (1 : Int32))), (6, .int r12), (0, .ref (ax 43)), (1, .ref (ax 40)), (2, .int p2), (3, .int p3), (4, .int (F_X2_lastOf p2 p3))]) F.1 F.2.1 (dd D_X3_gather 32 rfl) hl (k := 6) rfl (congrArg (fun z => w5_L10 + z) ki_1) (Nat.le_of_ble_eq_true rfl) rfl (fun ls hl => ?_)
            refine lv_goto (tgt := 18) F.1 F.2.1 (dd D_X3_gather 33 rfl) rfl ?_
            exact ih_L10 (w5_L10 + (1 : Int32)) (x_set_often u0_L10 (upd (x_often u0_L10) (Int32.toNatClampNeg r12) (((x_often u0_L10) (Int32.toNatClampNeg r12)) + (1 : Int32)))) _ _ ls hP hD hS (lv_sub hl [2, 3, 4, 5, 6, 0] rfl) h
  exact L10 n p2 (x_set_often s r1) _ _ ls hP hD hS (lv_sub hl [2, 3, 4, 5, 1, 0] rfl) h
def F_X3_near_L11 (n : Nat) (u0 : XS) (v1 : Int32) (v2 : Int32) : Nat → Int32 → Int32 → Option Int32
  | 0, _, _ => none
  | kf + 1, w3, w4 => (if (v1 + v2) < w4 then some (w3) else (if (181 : Int32) ≤ w4 then some (w3) else gd (inb w4 181) (F_X3_near_L11 n u0 v1 v2 kf (w3 + ((x_often u0) (Int32.toNatClampNeg w4))) (w4 + (1 : Int32)))))
def F_X3_near (n : Nat) (s : XS) (p1 : Int32) (p2 : Int32) : Option Int32 := F_X3_near_L11 n s p1 p2 n (0 : Int32) (F_J9_max_7cf53 (p1 - p2) (0 : Int32))
set_option maxHeartbeats 4000000 in
set_option maxRecDepth 100000 in
theorem c_X3_near (D : va_G) (cA : Nat → ClassId) (ax : Nat → Nat) (s : XS) (n : Nat) (p1 : Int32) (p2 : Int32) (r : Int32) (h : F_X3_near n s p1 p2 = some r) : RO m_X3_near 1 D cA [.ref (ax 43), .int p1, .int p2] (xW cA ax s) (some (.int r)) := by
  refine RO.ofW gy_X3_near.2.2 (Nat.le_of_ble_eq_true rfl) ?_
  intro l p e sM m below meth c F hr hlk hK hP hS hAb ls hl
  have hl : lv_has ls 5 [(0, .ref (ax 43)), (1, .int p1), (2, .int p2)] := hl
  unfold F_X3_near at h
  refine lv_iconst (v := (0 : Int32)) F.1 F.2.1 (dd D_X3_near 0 rfl) ki_0 ?_
  refine lv_istore_n (lv' := [(3, .int (0 : Int32)), (0, .ref (ax 43)), (1, .int p1), (2, .int p2)]) F.1 F.2.1 (dd D_X3_near 1 rfl) rfl hl (Nat.le_of_ble_eq_true rfl) rfl (fun ls hl => ?_)
  refine lv_iload_n F.1 F.2.1 (dd D_X3_near 2 rfl) rfl (lv_at hl 2 rfl) ?_
  refine lv_iload_n F.1 F.2.1 (dd D_X3_near 3 rfl) rfl (lv_at hl 3 rfl) ?_
  refine lv_isub F.1 F.2.1 (dd D_X3_near 4 rfl) ?_
  refine lv_iconst (v := (0 : Int32)) F.1 F.2.1 (dd D_X3_near 5 rfl) ki_0 ?_
  refine ro_go (st' := [.int (F_J9_max_7cf53 (p1 - p2) (0 : Int32))]) (rS (rest := []) F (c_J9_max_7cf53 D cA (p1 - p2) (0 : Int32) l) lk_X3_31 (Nat.le_of_ble_eq_true rfl) (preRO hK hS hAb (emP)) rfl hl rfl (Nat.le_of_ble_eq_true rfl) (dd D_X3_near 6 rfl) ⟨Nat.le_of_ble_eq_true rfl, Nat.le_of_ble_eq_true rfl⟩) rfl ?_
  refine lv_istore (lv' := [(4, .int (F_J9_max_7cf53 (p1 - p2) (0 : Int32))), (3, .int (0 : Int32)), (0, .ref (ax 43)), (1, .int p1), (2, .int p2)]) F.1 F.2.1 (dd D_X3_near 7 rfl) hl (Nat.le_of_ble_eq_true rfl) rfl (fun ls hl => ?_)
  have L4 : ∀ (kf : Nat) (w3_L4 : Int32) (w4_L4 : Int32) (ls : Array Slot), lv_has ls 5 [(0, .ref (ax 43)), (1, .int p1), (2, .int p2), (3, .int w3_L4), (4, .int w4_L4)] → F_X3_near_L11 n s p1 p2 kf w3_L4 w4_L4 = some r → Wro 1 (some (.int r)) p l e sM m ([.ref (ax 43), .int p1, .int p2] : List Value).toArray below meth c 11 ls [] := by
    intro kf
    induction kf with
    | zero =>
      intro w3_L4 w4_L4 ls hl h
      cases (show none = some r from h)
    | succ k_L4 ih_L4 =>
      intro w3_L4 w4_L4 ls hl h
      unfold F_X3_near_L11 at h
      refine lv_iload F.1 F.2.1 (dd D_X3_near 8 rfl) (lv_at hl 4 rfl) ?_
      refine lv_iload_n F.1 F.2.1 (dd D_X3_near 9 rfl) rfl (lv_at hl 1 rfl) ?_
      refine lv_iload_n F.1 F.2.1 (dd D_X3_near 10 rfl) rfl (lv_at hl 2 rfl) ?_
      refine lv_iadd F.1 F.2.1 (dd D_X3_near 11 rfl) ?_
      refine x_icmp_gt (tgt := 45) F.1 F.2.1 (dd D_X3_near 12 rfl) rfl h (fun c5 h => ?_) (fun c5 h => ?_)
      · refine lv_iload_n F.1 F.2.1 (dd D_X3_near 27 rfl) rfl (lv_at hl 3 rfl) ?_
        exact ro_i (R := rmOf 1 0 0) F hr hlk (congrArg (Option.map Value.int) h) (dd D_X3_near 28 rfl)
      · refine lv_iload F.1 F.2.1 (dd D_X3_near 13 rfl) (lv_at hl 4 rfl) ?_
        refine lv_aload_n F.1 F.2.1 (dd D_X3_near 14 rfl) rfl (lv_at hl 0 rfl) ?_
        refine getF F hK hP lf_X3_9 (43) (xp_43 cA ax s) rfl (dd D_X3_near 15 rfl) ?_
        refine alen F hK hP (44) 0 (xp_44 cA ax s) rfl (v := (181 : Int32)) kn_181 (dd D_X3_near 16 rfl) ?_
        refine x_icmp_ge (tgt := 45) F.1 F.2.1 (dd D_X3_near 17 rfl) rfl h (fun c6 h => ?_) (fun c6 h => ?_)
        · refine lv_iload_n F.1 F.2.1 (dd D_X3_near 27 rfl) rfl (lv_at hl 3 rfl) ?_
          exact ro_i (R := rmOf 1 0 0) F hr hlk (congrArg (Option.map Value.int) h) (dd D_X3_near 28 rfl)
        · refine lv_iload_n F.1 F.2.1 (dd D_X3_near 18 rfl) rfl (lv_at hl 3 rfl) ?_
          refine lv_aload_n F.1 F.2.1 (dd D_X3_near 19 rfl) rfl (lv_at hl 0 rfl) ?_
          refine getF F hK hP lf_X3_9 (43) (xp_43 cA ax s) rfl (dd D_X3_near 20 rfl) ?_
          refine lv_iload F.1 F.2.1 (dd D_X3_near 21 rfl) (lv_at hl 4 rfl) ?_
          refine aldI F hK hP (44) (xp_44 cA ax s) h (dd D_X3_near 22 rfl) (fun z7 h => ?_)
          refine lv_iadd F.1 F.2.1 (dd D_X3_near 23 rfl) ?_
          refine lv_istore_n (lv' := [(3, .int (w3_L4 + ((x_often s) (Int32.toNatClampNeg w4_L4)))), (0, .ref (ax 43)), (1, .int p1), (2, .int p2), (4, .int w4_L4)]) F.1 F.2.1 (dd D_X3_near 24 rfl) rfl hl (Nat.le_of_ble_eq_true rfl) rfl (fun ls hl => ?_)
          refine lv_iinc (v := (w4_L4 + (1 : Int32))) (lv' := [(4, .int (w4_L4 + (1 : Int32))), (3, .int (w3_L4 + ((x_often s) (Int32.toNatClampNeg w4_L4)))), (0, .ref (ax 43)), (1, .int p1), (2, .int p2)]) F.1 F.2.1 (dd D_X3_near 25 rfl) hl (k := 4) rfl (congrArg (fun z => w4_L4 + z) ki_1) (Nat.le_of_ble_eq_true rfl) rfl (fun ls hl => ?_)
          refine lv_goto (tgt := 11) F.1 F.2.1 (dd D_X3_near 26 rfl) rfl ?_
          exact ih_L4 (w3_L4 + ((x_often s) (Int32.toNatClampNeg w4_L4))) (w4_L4 + (1 : Int32)) ls (lv_sub hl [2, 3, 4, 1, 0] rfl) h
  exact L4 n (0 : Int32) (F_J9_max_7cf53 (p1 - p2) (0 : Int32)) ls (lv_sub hl [2, 3, 4, 1, 0] rfl) h
def F_X3_degreesThatHit_L4 (n : Nat) (u0 : XS) (v1 : Int32) : Nat → Int32 → Int32 → Option Int32
  | 0, _, _ => none
  | kf + 1, w2, w3 => (if (180 : Int32) ≤ w3 then some (w2) else (((F_X3_near n u0 w3 v1)).bind fun r2 => (if r2 ≤ 0 then F_X3_degreesThatHit_L4 n u0 v1 kf w2 (w3 + (1 : Int32)) else F_X3_degreesThatHit_L4 n u0 v1 kf (w2 + (1 : Int32)) (w3 + (1 : Int32)))))
def F_X3_degreesThatHit (n : Nat) (s : XS) (p1 : Int32) : Option Int32 := F_X3_degreesThatHit_L4 n s p1 n (0 : Int32) (0 : Int32)
set_option maxHeartbeats 4000000 in
set_option maxRecDepth 100000 in
theorem c_X3_degreesThatHit (D : va_G) (cA : Nat → ClassId) (ax : Nat → Nat) (s : XS) (n : Nat) (p1 : Int32) (r : Int32) (h : F_X3_degreesThatHit n s p1 = some r) : RO m_X3_degreesThatHit 2 D cA [.ref (ax 43), .int p1] (xW cA ax s) (some (.int r)) := by
  refine RO.ofW gy_X3_degreesThatHit.2.2 (Nat.le_of_ble_eq_true rfl) ?_
  intro l p e sM m below meth c F hr hlk hK hP hS hAb ls hl
  have hl : lv_has ls 4 [(0, .ref (ax 43)), (1, .int p1)] := hl
  unfold F_X3_degreesThatHit at h
  refine lv_iconst (v := (0 : Int32)) F.1 F.2.1 (dd D_X3_degreesThatHit 0 rfl) ki_0 ?_
  refine lv_istore_n (lv' := [(2, .int (0 : Int32)), (0, .ref (ax 43)), (1, .int p1)]) F.1 F.2.1 (dd D_X3_degreesThatHit 1 rfl) rfl hl (Nat.le_of_ble_eq_true rfl) rfl (fun ls hl => ?_)
  refine lv_iconst (v := (0 : Int32)) F.1 F.2.1 (dd D_X3_degreesThatHit 2 rfl) ki_0 ?_
  refine lv_istore_n (lv' := [(3, .int (0 : Int32)), (2, .int (0 : Int32)), (0, .ref (ax 43)), (1, .int p1)]) F.1 F.2.1 (dd D_X3_degreesThatHit 3 rfl) rfl hl (Nat.le_of_ble_eq_true rfl) rfl (fun ls hl => ?_)
  have L5 : ∀ (kf : Nat) (w2_L5 : Int32) (w3_L5 : Int32) (ls : Array Slot), lv_has ls 4 [(0, .ref (ax 43)), (1, .int p1), (2, .int w2_L5), (3, .int w3_L5)] → F_X3_degreesThatHit_L4 n s p1 kf w2_L5 w3_L5 = some r → Wro 2 (some (.int r)) p l e sM m ([.ref (ax 43), .int p1] : List Value).toArray below meth c 4 ls [] := by
    intro kf
    induction kf with
    | zero =>
      intro w2_L5 w3_L5 ls hl h
      cases (show none = some r from h)
    | succ k_L5 ih_L5 =>
      intro w2_L5 w3_L5 ls hl h
      unfold F_X3_degreesThatHit_L4 at h
      refine lv_iload_n F.1 F.2.1 (dd D_X3_degreesThatHit 4 rfl) rfl (lv_at hl 3 rfl) ?_
      refine lv_sipush (v := (180 : Int32)) F.1 F.2.1 (dd D_X3_degreesThatHit 5 rfl) ks_180 ?_
      refine x_icmp_ge (tgt := 29) F.1 F.2.1 (dd D_X3_degreesThatHit 6 rfl) rfl h (fun c6 h => ?_) (fun c6 h => ?_)
      · refine lv_iload_n F.1 F.2.1 (dd D_X3_degreesThatHit 15 rfl) rfl (lv_at hl 2 rfl) ?_
        exact ro_i (R := rmOf 2 0 0) F hr hlk (congrArg (Option.map Value.int) h) (dd D_X3_degreesThatHit 16 rfl)
      · refine lv_aload_n F.1 F.2.1 (dd D_X3_degreesThatHit 7 rfl) rfl (lv_at hl 0 rfl) ?_
        refine lv_iload_n F.1 F.2.1 (dd D_X3_degreesThatHit 8 rfl) rfl (lv_at hl 3 rfl) ?_
        refine lv_iload_n F.1 F.2.1 (dd D_X3_degreesThatHit 9 rfl) rfl (lv_at hl 1 rfl) ?_
        obtain ⟨r7, e8, h⟩ := Option.bind_eq_some_iff.mp h
        refine ro_go (st' := [.int r7]) (rV (rest := []) F (c_X3_near D cA ax s n w3_L5 p1 r7 e8 l) lk_X3_36 (Nat.le_of_ble_eq_true rfl) (preRO hK hS hAb hP) (rcv_3 hK hP (q0 := (43)) (xp_43 cA ax s)) rfl hl rfl (Nat.le_of_ble_eq_true rfl) (dd D_X3_degreesThatHit 10 rfl) ⟨Nat.le_of_ble_eq_true rfl, Nat.le_of_ble_eq_true rfl⟩) rfl ?_
        refine x_if_le (tgt := 23) F.1 F.2.1 (dd D_X3_degreesThatHit 11 rfl) rfl h (fun c9 h => ?_) (fun c9 h => ?_)
        · refine lv_iinc (v := (w3_L5 + (1 : Int32))) (lv' := [(3, .int (w3_L5 + (1 : Int32))), (0, .ref (ax 43)), (1, .int p1), (2, .int w2_L5)]) F.1 F.2.1 (dd D_X3_degreesThatHit 13 rfl) hl (k := 3) rfl (congrArg (fun z => w3_L5 + z) ki_1) (Nat.le_of_ble_eq_true rfl) rfl (fun ls hl => ?_)
          refine lv_goto (tgt := 4) F.1 F.2.1 (dd D_X3_degreesThatHit 14 rfl) rfl ?_
          exact ih_L5 w2_L5 (w3_L5 + (1 : Int32)) ls (lv_sub hl [1, 2, 3, 0] rfl) h
        · refine lv_iinc (v := (w2_L5 + (1 : Int32))) (lv' := [(2, .int (w2_L5 + (1 : Int32))), (0, .ref (ax 43)), (1, .int p1), (3, .int w3_L5)]) F.1 F.2.1 (dd D_X3_degreesThatHit 12 rfl) hl (k := 2) rfl (congrArg (fun z => w2_L5 + z) ki_1) (Nat.le_of_ble_eq_true rfl) rfl (fun ls hl => ?_)
          refine lv_iinc (v := (w3_L5 + (1 : Int32))) (lv' := [(3, .int (w3_L5 + (1 : Int32))), (2, .int (w2_L5 + (1 : Int32))), (0, .ref (ax 43)), (1, .int p1)]) F.1 F.2.1 (dd D_X3_degreesThatHit 13 rfl) hl (k := 3) rfl (congrArg (fun z => w3_L5 + z) ki_1) (Nat.le_of_ble_eq_true rfl) rfl (fun ls hl => ?_)
          refine lv_goto (tgt := 4) F.1 F.2.1 (dd D_X3_degreesThatHit 14 rfl) rfl ?_
          exact ih_L5 (w2_L5 + (1 : Int32)) (w3_L5 + (1 : Int32)) ls (lv_sub hl [2, 3, 1, 0] rfl) h
  exact L5 n (0 : Int32) (0 : Int32) ls (lv_sub hl [2, 3, 1, 0] rfl) h
def F_X3_fullest_L7 (n : Nat) (u0 : XS) (v1 : Int32) : Nat → Int32 → Int32 → Int32 → Option Int32
  | 0, _, _, _ => none
  | kf + 1, w2, w3, w4 => (if (180 : Int32) ≤ w4 then some (w2) else (((F_X3_near n u0 w4 v1)).bind fun r2 => (if r2 ≤ w3 then F_X3_fullest_L7 n u0 v1 kf w2 w3 (w4 + (1 : Int32)) else F_X3_fullest_L7 n u0 v1 kf w4 r2 (w4 + (1 : Int32)))))
def F_X3_fullest (n : Nat) (s : XS) (p1 : Int32) : Option Int32 := F_X3_fullest_L7 n s p1 n (0 : Int32) (0 : Int32) (0 : Int32)
set_option maxHeartbeats 4000000 in
set_option maxRecDepth 100000 in
theorem c_X3_fullest (D : va_G) (cA : Nat → ClassId) (ax : Nat → Nat) (s : XS) (n : Nat) (p1 : Int32) (r : Int32) (h : F_X3_fullest n s p1 = some r) : RO m_X3_fullest 2 D cA [.ref (ax 43), .int p1] (xW cA ax s) (some (.int r)) := by
  refine RO.ofW gy_X3_fullest.2.2 (Nat.le_of_ble_eq_true rfl) ?_
  intro l p e sM m below meth c F hr hlk hK hP hS hAb ls hl
  have hl : lv_has ls 6 [(0, .ref (ax 43)), (1, .int p1)] := hl
  unfold F_X3_fullest at h
  refine lv_iconst (v := (0 : Int32)) F.1 F.2.1 (dd D_X3_fullest 0 rfl) ki_0 ?_
  refine lv_istore_n (lv' := [(2, .int (0 : Int32)), (0, .ref (ax 43)), (1, .int p1)]) F.1 F.2.1 (dd D_X3_fullest 1 rfl) rfl hl (Nat.le_of_ble_eq_true rfl) rfl (fun ls hl => ?_)
  refine lv_iconst (v := (0 : Int32)) F.1 F.2.1 (dd D_X3_fullest 2 rfl) ki_0 ?_
  refine lv_istore_n (lv' := [(3, .int (0 : Int32)), (2, .int (0 : Int32)), (0, .ref (ax 43)), (1, .int p1)]) F.1 F.2.1 (dd D_X3_fullest 3 rfl) rfl hl (Nat.le_of_ble_eq_true rfl) rfl (fun ls hl => ?_)
  refine lv_iconst (v := (0 : Int32)) F.1 F.2.1 (dd D_X3_fullest 4 rfl) ki_0 ?_
  refine lv_istore (lv' := [(4, .int (0 : Int32)), (3, .int (0 : Int32)), (2, .int (0 : Int32)), (0, .ref (ax 43)), (1, .int p1)]) F.1 F.2.1 (dd D_X3_fullest 5 rfl) hl (Nat.le_of_ble_eq_true rfl) rfl (fun ls hl => ?_)
  have L5 : ∀ (kf : Nat) (w2_L5 : Int32) (w3_L5 : Int32) (w4_L5 : Int32) (ls : Array Slot), lv_has ls 6 [(0, .ref (ax 43)), (1, .int p1), (2, .int w2_L5), (3, .int w3_L5), (4, .int w4_L5)] → F_X3_fullest_L7 n s p1 kf w2_L5 w3_L5 w4_L5 = some r → Wro 2 (some (.int r)) p l e sM m ([.ref (ax 43), .int p1] : List Value).toArray below meth c 7 ls [] := by
    intro kf
    induction kf with
    | zero =>
      intro w2_L5 w3_L5 w4_L5 ls hl h
      cases (show none = some r from h)
    | succ k_L5 ih_L5 =>
      intro w2_L5 w3_L5 w4_L5 ls hl h
      unfold F_X3_fullest_L7 at h
      refine lv_iload F.1 F.2.1 (dd D_X3_fullest 6 rfl) (lv_at hl 4 rfl) ?_
      refine lv_sipush (v := (180 : Int32)) F.1 F.2.1 (dd D_X3_fullest 7 rfl) ks_180 ?_
      refine x_icmp_ge (tgt := 42) F.1 F.2.1 (dd D_X3_fullest 8 rfl) rfl h (fun c6 h => ?_) (fun c6 h => ?_)
      · refine lv_iload_n F.1 F.2.1 (dd D_X3_fullest 23 rfl) rfl (lv_at hl 2 rfl) ?_
        exact ro_i (R := rmOf 2 0 0) F hr hlk (congrArg (Option.map Value.int) h) (dd D_X3_fullest 24 rfl)
      · refine lv_aload_n F.1 F.2.1 (dd D_X3_fullest 9 rfl) rfl (lv_at hl 0 rfl) ?_
        refine lv_iload F.1 F.2.1 (dd D_X3_fullest 10 rfl) (lv_at hl 4 rfl) ?_
        refine lv_iload_n F.1 F.2.1 (dd D_X3_fullest 11 rfl) rfl (lv_at hl 1 rfl) ?_
        obtain ⟨r7, e8, h⟩ := Option.bind_eq_some_iff.mp h
        refine ro_go (st' := [.int r7]) (rV (rest := []) F (c_X3_near D cA ax s n w4_L5 p1 r7 e8 l) lk_X3_36 (Nat.le_of_ble_eq_true rfl) (preRO hK hS hAb hP) (rcv_3 hK hP (q0 := (43)) (xp_43 cA ax s)) rfl hl rfl (Nat.le_of_ble_eq_true rfl) (dd D_X3_fullest 12 rfl) ⟨Nat.le_of_ble_eq_true rfl, Nat.le_of_ble_eq_true rfl⟩) rfl ?_
        refine lv_istore (lv' := [(5, .int r7), (0, .ref (ax 43)), (1, .int p1), (2, .int w2_L5), (3, .int w3_L5), (4, .int w4_L5)]) F.1 F.2.1 (dd D_X3_fullest 13 rfl) hl (Nat.le_of_ble_eq_true rfl) rfl (fun ls hl => ?_)
        refine lv_iload F.1 F.2.1 (dd D_X3_fullest 14 rfl) (lv_at hl 0 rfl) ?_
        refine lv_iload_n F.1 F.2.1 (dd D_X3_fullest 15 rfl) rfl (lv_at hl 4 rfl) ?_
        refine x_icmp_le (tgt := 36) F.1 F.2.1 (dd D_X3_fullest 16 rfl) rfl h (fun c9 h => ?_) (fun c9 h => ?_)
        · refine lv_iinc (v := (w4_L5 + (1 : Int32))) (lv' := [(4, .int (w4_L5 + (1 : Int32))), (5, .int r7), (0, .ref (ax 43)), (1, .int p1), (2, .int w2_L5), (3, .int w3_L5)]) F.1 F.2.1 (dd D_X3_fullest 21 rfl) hl (k := 5) rfl (congrArg (fun z => w4_L5 + z) ki_1) (Nat.le_of_ble_eq_true rfl) rfl (fun ls hl => ?_)
          refine lv_goto (tgt := 7) F.1 F.2.1 (dd D_X3_fullest 22 rfl) rfl ?_
          exact ih_L5 w2_L5 w3_L5 (w4_L5 + (1 : Int32)) ls (lv_sub hl [2, 3, 4, 5, 0] rfl) h
        · refine lv_iload F.1 F.2.1 (dd D_X3_fullest 17 rfl) (lv_at hl 0 rfl) ?_
          refine lv_istore_n (lv' := [(3, .int r7), (5, .int r7), (0, .ref (ax 43)), (1, .int p1), (2, .int w2_L5), (4, .int w4_L5)]) F.1 F.2.1 (dd D_X3_fullest 18 rfl) rfl hl (Nat.le_of_ble_eq_true rfl) rfl (fun ls hl => ?_)
          refine lv_iload F.1 F.2.1 (dd D_X3_fullest 19 rfl) (lv_at hl 5 rfl) ?_
          refine lv_istore_n (lv' := [(2, .int w4_L5), (3, .int r7), (5, .int r7), (0, .ref (ax 43)), (1, .int p1), (4, .int w4_L5)]) F.1 F.2.1 (dd D_X3_fullest 20 rfl) rfl hl (Nat.le_of_ble_eq_true rfl) rfl (fun ls hl => ?_)
          refine lv_iinc (v := (w4_L5 + (1 : Int32))) (lv' := [(4, .int (w4_L5 + (1 : Int32))), (2, .int w4_L5), (3, .int r7), (5, .int r7), (0, .ref (ax 43)), (1, .int p1)]) F.1 F.2.1 (dd D_X3_fullest 21 rfl) hl (k := 5) rfl (congrArg (fun z => w4_L5 + z) ki_1) (Nat.le_of_ble_eq_true rfl) rfl (fun ls hl => ?_)
          refine lv_goto (tgt := 7) F.1 F.2.1 (dd D_X3_fullest 22 rfl) rfl ?_
          exact ih_L5 w4_L5 r7 (w4_L5 + (1 : Int32)) ls (lv_sub hl [4, 5, 1, 2, 0] rfl) h
  exact L5 n (0 : Int32) (0 : Int32) (0 : Int32) ls (lv_sub hl [3, 4, 2, 1, 0] rfl) h
