def F_X9_element (n : Nat) (s : MS) (p1 : Int32) (p2 : Int32) : Option Int64 := bf (F_X9_in (Int32.toInt64 p1) (0 : Int64) (7 : Int64)) (gd (inb p1 8) ((if ((m_shelf s) (Int32.toNatClampNeg p1)) = (1 : Int32) then gd (inb p1 8) (bf (F_X9_in (Int32.toInt64 p2) (0 : Int64) (Int32.toInt64 (((m_rowSize s) (Int32.toNatClampNeg p1)) - (1 : Int32)))) (gd (inb p1 8) (gd (inb p2 40) (some (((m_rows s (Int32.toNatClampNeg p1)) (Int32.toNatClampNeg p2)))))) (some ((0 : Int64)))) else some ((0 : Int64))))) (some ((0 : Int64)))
set_option maxHeartbeats 4000000 in
set_option maxRecDepth 100000 in
theorem c_X9_element (D : va_G) (cA : Nat → ClassId) (am : Nat → Nat) (s : MS) (n : Nat) (p1 : Int32) (p2 : Int32) (r : Int64) (h : F_X9_element n s p1 p2 = some r) : RO m_X9_element 1 D cA [.ref (am 0), .int p1, .int p2] (mW cA am s) (some (.long r)) := by
  refine RO.ofW gy_X9_element.2.2 (Nat.le_of_ble_eq_true rfl) ?_
  intro l p e sM m below meth c F hr hlk hK hP hS hAb ls hl
  have hl : lv_has ls 3 [(0, .ref (am 0)), (1, .int p1), (2, .int p2)] := hl
  unfold F_X9_element at h
  refine lv_iload_n F.1 F.2.1 (dd D_X9_element 0 rfl) rfl (lv_at hl 1 rfl) ?_
  refine lv_i2l (v := (Int32.toInt64 p1)) F.1 F.2.1 (dd D_X9_element 1 rfl) rfl ?_
  refine lv_lconst (v := (0 : Int64)) F.1 F.2.1 (dd D_X9_element 2 rfl) kl_0 ?_
  refine lv_ldc2 (own := RX9) (v := (7 : Int64)) F.1 F.2.1 F.2.2.2.1 (F.2.2.2.2 _ (kL_X9_73)) (dd D_X9_element 3 rfl) ?_
  refine ro_go (st' := [.int (bI (F_X9_in (Int32.toInt64 p1) (0 : Int64) (7 : Int64)))]) (rS (rest := []) F (c_X9_in D cA (Int32.toInt64 p1) (0 : Int64) (7 : Int64) l) lk_X9_63 (Nat.le_of_ble_eq_true rfl) (preRO hK hS hAb (emP)) rfl hl rfl (Nat.le_of_ble_eq_true rfl) (dd D_X9_element 4 rfl) ⟨Nat.le_of_ble_eq_true rfl, Nat.le_of_ble_eq_true rfl⟩) rfl ?_
  refine x_bif_eq (tgt := 51) F.1 F.2.1 (dd D_X9_element 5 rfl) rfl h (fun c8 h => ?_) (fun c8 h => ?_)
  · refine lv_lconst (v := (0 : Int64)) F.1 F.2.1 (dd D_X9_element 31 rfl) kl_0 ?_
    exact ro_l (R := rmOf 1 0 0) F hr hlk (congrArg (Option.map Value.long) h) (dd D_X9_element 32 rfl)
  · refine lv_aload_n F.1 F.2.1 (dd D_X9_element 6 rfl) rfl (lv_at hl 0 rfl) ?_
    refine getF F hK hP lf_X9_7 (0) (mp_0 cA am s) rfl (dd D_X9_element 7 rfl) ?_
    refine lv_iload_n F.1 F.2.1 (dd D_X9_element 8 rfl) rfl (lv_at hl 1 rfl) ?_
    refine aldI F hK hP (1) (mp_1 cA am s) h (dd D_X9_element 9 rfl) (fun z1 h => ?_)
    refine lv_iconst (v := (1 : Int32)) F.1 F.2.1 (dd D_X9_element 10 rfl) ki_1 ?_
    refine x_icmp_ne (tgt := 51) F.1 F.2.1 (dd D_X9_element 11 rfl) rfl h (fun c2 h => ?_) (fun c2 h => ?_)
    · refine lv_lconst (v := (0 : Int64)) F.1 F.2.1 (dd D_X9_element 31 rfl) kl_0 ?_
      exact ro_l (R := rmOf 1 0 0) F hr hlk (congrArg (Option.map Value.long) h) (dd D_X9_element 32 rfl)
    · refine lv_iload_n F.1 F.2.1 (dd D_X9_element 12 rfl) rfl (lv_at hl 2 rfl) ?_
      refine lv_i2l (v := (Int32.toInt64 p2)) F.1 F.2.1 (dd D_X9_element 13 rfl) rfl ?_
      refine lv_lconst (v := (0 : Int64)) F.1 F.2.1 (dd D_X9_element 14 rfl) kl_0 ?_
      refine lv_aload_n F.1 F.2.1 (dd D_X9_element 15 rfl) rfl (lv_at hl 0 rfl) ?_
      refine getF F hK hP lf_X9_16 (0) (mp_0 cA am s) rfl (dd D_X9_element 16 rfl) ?_
      refine lv_iload_n F.1 F.2.1 (dd D_X9_element 17 rfl) rfl (lv_at hl 1 rfl) ?_
      refine aldI F hK hP (3) (mp_3 cA am s) h (dd D_X9_element 18 rfl) (fun z3 h => ?_)
      refine lv_iconst (v := (1 : Int32)) F.1 F.2.1 (dd D_X9_element 19 rfl) ki_1 ?_
      refine lv_isub F.1 F.2.1 (dd D_X9_element 20 rfl) ?_
      refine lv_i2l (v := (Int32.toInt64 (((m_rowSize s) (Int32.toNatClampNeg p1)) - (1 : Int32)))) F.1 F.2.1 (dd D_X9_element 21 rfl) rfl ?_
      refine ro_go (st' := [.int (bI (F_X9_in (Int32.toInt64 p2) (0 : Int64) (Int32.toInt64 (((m_rowSize s) (Int32.toNatClampNeg p1)) - (1 : Int32)))))]) (rS (rest := []) F (c_X9_in D cA (Int32.toInt64 p2) (0 : Int64) (Int32.toInt64 (((m_rowSize s) (Int32.toNatClampNeg p1)) - (1 : Int32))) l) lk_X9_63 (Nat.le_of_ble_eq_true rfl) (preRO hK hS hAb (emP)) rfl hl rfl (Nat.le_of_ble_eq_true rfl) (dd D_X9_element 22 rfl) ⟨Nat.le_of_ble_eq_true rfl, Nat.le_of_ble_eq_true rfl⟩) rfl ?_
      refine x_bif_eq (tgt := 51) F.1 F.2.1 (dd D_X9_element 23 rfl) rfl h (fun c7 h => ?_) (fun c7 h => ?_)
      · refine lv_lconst (v := (0 : Int64)) F.1 F.2.1 (dd D_X9_element 31 rfl) kl_0 ?_
        exact ro_l (R := rmOf 1 0 0) F hr hlk (congrArg (Option.map Value.long) h) (dd D_X9_element 32 rfl)
      · refine lv_aload_n F.1 F.2.1 (dd D_X9_element 24 rfl) rfl (lv_at hl 0 rfl) ?_
        refine getF F hK hP lf_X9_21 (0) (mp_0 cA am s) rfl (dd D_X9_element 25 rfl) ?_
        refine lv_iload_n F.1 F.2.1 (dd D_X9_element 26 rfl) rfl (lv_at hl 1 rfl) ?_
        refine aldA (g := fun j => am (5+j)) F hK hP (4) (mp_4 cA am s) 5 rfl (fun _ => rfl) h (dd D_X9_element 27 rfl) (fun z4 h => ?_)
        have hk5 : (Int32.toNatClampNeg p1) < 8 := inb_lt z4
        refine lv_iload_n F.1 F.2.1 (dd D_X9_element 28 rfl) rfl (lv_at hl 2 rfl) ?_
        refine aldL F hK hP (5+(Int32.toNatClampNeg p1)) (mp_row cA am s (Int32.toNatClampNeg p1) hk5) h (dd D_X9_element 29 rfl) (fun z6 h => ?_)
        refine lv_goto (tgt := 52) F.1 F.2.1 (dd D_X9_element 30 rfl) rfl ?_
        exact ro_l (R := rmOf 1 0 0) F hr hlk (congrArg (Option.map Value.long) h) (dd D_X9_element 32 rfl)
def F_X9_holds (n : Nat) (s : MS) (p1 : Int32) : Option Int32 := bf (F_X9_in (Int32.toInt64 p1) (0 : Int64) (7 : Int64)) (gd (inb p1 8) ((if ((m_shelf s) (Int32.toNatClampNeg p1)) = 0 then some ((-1 : Int32)) else gd (inb p1 8) ((if ((m_shelf s) (Int32.toNatClampNeg p1)) = (1 : Int32) then gd (inb p1 8) (some (((m_rowSort s) (Int32.toNatClampNeg p1)))) else gd (inb p1 8) (some (((10 : Int32) + ((m_eveKind s) (Int32.toNatClampNeg p1)))))))))) (some ((-1 : Int32)))
set_option maxHeartbeats 4000000 in
set_option maxRecDepth 100000 in
theorem c_X9_holds (D : va_G) (cA : Nat → ClassId) (am : Nat → Nat) (s : MS) (n : Nat) (p1 : Int32) (r : Int32) (h : F_X9_holds n s p1 = some r) : RO m_X9_holds 1 D cA [.ref (am 0), .int p1] (mW cA am s) (some (.int r)) := by
  refine RO.ofW gy_X9_holds.2.2 (Nat.le_of_ble_eq_true rfl) ?_
  intro l p e sM m below meth c F hr hlk hK hP hS hAb ls hl
  have hl : lv_has ls 2 [(0, .ref (am 0)), (1, .int p1)] := hl
  unfold F_X9_holds at h
  refine lv_iload_n F.1 F.2.1 (dd D_X9_holds 0 rfl) rfl (lv_at hl 1 rfl) ?_
  refine lv_i2l (v := (Int32.toInt64 p1)) F.1 F.2.1 (dd D_X9_holds 1 rfl) rfl ?_
  refine lv_lconst (v := (0 : Int64)) F.1 F.2.1 (dd D_X9_holds 2 rfl) kl_0 ?_
  refine lv_ldc2 (own := RX9) (v := (7 : Int64)) F.1 F.2.1 F.2.2.2.1 (F.2.2.2.2 _ (kL_X9_73)) (dd D_X9_holds 3 rfl) ?_
  refine ro_go (st' := [.int (bI (F_X9_in (Int32.toInt64 p1) (0 : Int64) (7 : Int64)))]) (rS (rest := []) F (c_X9_in D cA (Int32.toInt64 p1) (0 : Int64) (7 : Int64) l) lk_X9_63 (Nat.le_of_ble_eq_true rfl) (preRO hK hS hAb (emP)) rfl hl rfl (Nat.le_of_ble_eq_true rfl) (dd D_X9_holds 4 rfl) ⟨Nat.le_of_ble_eq_true rfl, Nat.le_of_ble_eq_true rfl⟩) rfl ?_
  refine x_bif_eq (tgt := 21) F.1 F.2.1 (dd D_X9_holds 5 rfl) rfl h (fun c7 h => ?_) (fun c7 h => ?_)
  · refine lv_iconst (v := (-1 : Int32)) F.1 F.2.1 (dd D_X9_holds 11 rfl) ki_m1 ?_
    exact ro_i (R := rmOf 1 0 0) F hr hlk (congrArg (Option.map Value.int) h) (dd D_X9_holds 12 rfl)
  · refine lv_aload_n F.1 F.2.1 (dd D_X9_holds 6 rfl) rfl (lv_at hl 0 rfl) ?_
    refine getF F hK hP lf_X9_7 (0) (mp_0 cA am s) rfl (dd D_X9_holds 7 rfl) ?_
    refine lv_iload_n F.1 F.2.1 (dd D_X9_holds 8 rfl) rfl (lv_at hl 1 rfl) ?_
    refine aldI F hK hP (1) (mp_1 cA am s) h (dd D_X9_holds 9 rfl) (fun z1 h => ?_)
    refine x_if_ne (tgt := 23) F.1 F.2.1 (dd D_X9_holds 10 rfl) rfl h (fun c2 h => ?_) (fun c2 h => ?_)
    · refine lv_aload_n F.1 F.2.1 (dd D_X9_holds 13 rfl) rfl (lv_at hl 0 rfl) ?_
      refine getF F hK hP lf_X9_7 (0) (mp_0 cA am s) rfl (dd D_X9_holds 14 rfl) ?_
      refine lv_iload_n F.1 F.2.1 (dd D_X9_holds 15 rfl) rfl (lv_at hl 1 rfl) ?_
      refine aldI F hK hP (1) (mp_1 cA am s) h (dd D_X9_holds 16 rfl) (fun z3 h => ?_)
      refine lv_iconst (v := (1 : Int32)) F.1 F.2.1 (dd D_X9_holds 17 rfl) ki_1 ?_
      refine x_icmp_ne (tgt := 42) F.1 F.2.1 (dd D_X9_holds 18 rfl) rfl h (fun c4 h => ?_) (fun c4 h => ?_)
      · refine lv_bipush (v := (10 : Int32)) F.1 F.2.1 (dd D_X9_holds 24 rfl) kb_10 ?_
        refine lv_aload_n F.1 F.2.1 (dd D_X9_holds 25 rfl) rfl (lv_at hl 0 rfl) ?_
        refine getF F hK hP lf_X9_28 (0) (mp_0 cA am s) rfl (dd D_X9_holds 26 rfl) ?_
        refine lv_iload_n F.1 F.2.1 (dd D_X9_holds 27 rfl) rfl (lv_at hl 1 rfl) ?_
        refine aldI F hK hP (14) (mp_14 cA am s) h (dd D_X9_holds 28 rfl) (fun z5 h => ?_)
        refine lv_iadd F.1 F.2.1 (dd D_X9_holds 29 rfl) ?_
        exact ro_i (R := rmOf 1 0 0) F hr hlk (congrArg (Option.map Value.int) h) (dd D_X9_holds 30 rfl)
      · refine lv_aload_n F.1 F.2.1 (dd D_X9_holds 19 rfl) rfl (lv_at hl 0 rfl) ?_
        refine getF F hK hP lf_X9_13 (0) (mp_0 cA am s) rfl (dd D_X9_holds 20 rfl) ?_
        refine lv_iload_n F.1 F.2.1 (dd D_X9_holds 21 rfl) rfl (lv_at hl 1 rfl) ?_
        refine aldI F hK hP (2) (mp_2 cA am s) h (dd D_X9_holds 22 rfl) (fun z6 h => ?_)
        refine lv_goto (tgt := 51) F.1 F.2.1 (dd D_X9_holds 23 rfl) rfl ?_
        exact ro_i (R := rmOf 1 0 0) F hr hlk (congrArg (Option.map Value.int) h) (dd D_X9_holds 30 rfl)
    · refine lv_iconst (v := (-1 : Int32)) F.1 F.2.1 (dd D_X9_holds 11 rfl) ki_m1 ?_
      exact ro_i (R := rmOf 1 0 0) F hr hlk (congrArg (Option.map Value.int) h) (dd D_X9_holds 12 rfl)
def F_X9_evening (n : Nat) (s : MS) (p1 : Int32) (p2 : Int32) (p3 : Int32) : Option (Int32 × MS) := bf (F_X9_in (Int32.toInt64 p1) (0 : Int64) (7 : Int64)) (bf (F_X9_in (Int32.toInt64 p2) (0 : Int64) (5 : Int64)) (bf (F_X9_isDay (Int32.toInt64 p3)) (gd (inb p1 8) (gd (inb p1 8) (gd (inb p1 8) (some ((1 : Int32), (m_set_eveDay (m_set_eveKind (m_set_shelf s (upd (m_shelf s) (Int32.toNatClampNeg p1) (2 : Int32))) (upd (m_eveKind (m_set_shelf s (upd (m_shelf s) (Int32.toNatClampNeg p1) (2 : Int32)))) (Int32.toNatClampNeg p1) p2)) (upd (m_eveDay (m_set_eveKind (m_set_shelf s (upd (m_shelf s) (Int32.toNatClampNeg p1) (2 : Int32))) (upd (m_eveKind (m_set_shelf s (upd (m_shelf s) (Int32.toNatClampNeg p1) (2 : Int32)))) (Int32.toNatClampNeg p1) p2))) (Int32.toNatClampNeg p1) p3))))))) ((((F_X9_refuse n s (-2 : Int32))).bind fun r8 => some (r8.1, r8.2)))) ((((F_X9_refuse n s (-2 : Int32))).bind fun r3 => some (r3.1, r3.2)))) ((((F_X9_refuse n s (-2 : Int32))).bind fun r1 => some (r1.1, r1.2)))
set_option maxHeartbeats 4000000 in
set_option maxRecDepth 100000 in
theorem c_X9_evening (D : va_G) (cA : Nat → ClassId) (am : Nat → Nat) (s : MS) (n : Nat) (p1 : Int32) (p2 : Int32) (p3 : Int32) (r : (Int32 × MS)) (h : F_X9_evening n s p1 p2 p3 = some r) : RW m_X9_evening 2 0 0 D cA [.ref (am 0), .int p1, .int p2, .int p3] (mW cA am s) (exq (some (.int r.1)) (mW cA am r.2)) := by
  refine RW.ofW gy_X9_evening.2.2 (Nat.le_of_ble_eq_true rfl) ?_
  intro l p e sM m below meth c A H locs F hr hlk hnm hK hP hD hS hA hAb ls hl
  have hl : lv_has ls 4 [(0, .ref (am 0)), (1, .int p1), (2, .int p2), (3, .int p3)] := hl
  unfold F_X9_evening at h
  refine lv_iload_n F.1 F.2.1 (dd D_X9_evening 0 rfl) rfl (lv_at hl 1 rfl) ?_
  refine lv_i2l (v := (Int32.toInt64 p1)) F.1 F.2.1 (dd D_X9_evening 1 rfl) rfl ?_
  refine lv_lconst (v := (0 : Int64)) F.1 F.2.1 (dd D_X9_evening 2 rfl) kl_0 ?_
  refine lv_ldc2 (own := RX9) (v := (7 : Int64)) F.1 F.2.1 F.2.2.2.1 (F.2.2.2.2 _ (kL_X9_73)) (dd D_X9_evening 3 rfl) ?_
  refine ro_go (st' := [.int (bI (F_X9_in (Int32.toInt64 p1) (0 : Int64) (7 : Int64)))]) (rS (rest := []) F (c_X9_in D cA (Int32.toInt64 p1) (0 : Int64) (7 : Int64) l) lk_X9_63 (Nat.le_of_ble_eq_true rfl) (preRO hK hS hAb (emP)) rfl hl rfl (Nat.le_of_ble_eq_true rfl) (dd D_X9_evening 4 rfl) ⟨Nat.le_of_ble_eq_true rfl, Nat.le_of_ble_eq_true rfl⟩) rfl ?_
  refine x_bif_eq (tgt := 32) F.1 F.2.1 (dd D_X9_evening 5 rfl) rfl h (fun c12 h => ?_) (fun c12 h => ?_)
  · refine lv_aload_n F.1 F.2.1 (dd D_X9_evening 16 rfl) rfl (lv_at hl 0 rfl) ?_
    refine lv_bipush (v := (-2 : Int32)) F.1 F.2.1 (dd D_X9_evening 17 rfl) kb_m2 ?_
    obtain ⟨r1, e2, h⟩ := Option.bind_eq_some_iff.mp h
    refine rwe_all (st' := [.int r1.1]) hD hS hA (rV (rest := []) F (c_X9_refuse D cA am s n (-2 : Int32) r1 e2 l H.size) lk_X9_79 (Nat.le_of_ble_eq_true rfl) (preRW hK hS hAb hP hD) (rcv_9 hK hP (q0 := (0)) (mp_0 cA am s)) rfl hl rfl (Nat.le_of_ble_eq_true rfl) (dd D_X9_evening 18 rfl) ⟨Nat.le_of_ble_eq_true rfl, Nat.le_of_ble_eq_true rfl⟩) rfl (fun H locs hP hD hS => ?_)
    obtain rfl := Option.some.inj h
    exact rw_i (R := rmOf 2 0 0) F hP hD hS hr hlk ⟨Nat.le_of_ble_eq_true rfl, Nat.le_of_ble_eq_true rfl⟩ ⟨rfl, rfl⟩ (dd D_X9_evening 19 rfl)
  · refine lv_iload_n F.1 F.2.1 (dd D_X9_evening 6 rfl) rfl (lv_at hl 2 rfl) ?_
    refine lv_i2l (v := (Int32.toInt64 p2)) F.1 F.2.1 (dd D_X9_evening 7 rfl) rfl ?_
    refine lv_lconst (v := (0 : Int64)) F.1 F.2.1 (dd D_X9_evening 8 rfl) kl_0 ?_
    refine lv_ldc2 (own := RX9) (v := (5 : Int64)) F.1 F.2.1 F.2.2.2.1 (F.2.2.2.2 _ (kL_X9_90)) (dd D_X9_evening 9 rfl) ?_
    refine ro_go (st' := [.int (bI (F_X9_in (Int32.toInt64 p2) (0 : Int64) (5 : Int64)))]) (rS (rest := []) F (c_X9_in D cA (Int32.toInt64 p2) (0 : Int64) (5 : Int64) l) lk_X9_63 (Nat.le_of_ble_eq_true rfl) (preRO hK hS hAb (emP)) rfl hl rfl (Nat.le_of_ble_eq_true rfl) (dd D_X9_evening 10 rfl) ⟨Nat.le_of_ble_eq_true rfl, Nat.le_of_ble_eq_true rfl⟩) rfl ?_
    refine x_bif_eq (tgt := 32) F.1 F.2.1 (dd D_X9_evening 11 rfl) rfl h (fun c11 h => ?_) (fun c11 h => ?_)
    · refine lv_aload_n F.1 F.2.1 (dd D_X9_evening 16 rfl) rfl (lv_at hl 0 rfl) ?_
      refine lv_bipush (v := (-2 : Int32)) F.1 F.2.1 (dd D_X9_evening 17 rfl) kb_m2 ?_
      obtain ⟨r3, e4, h⟩ := Option.bind_eq_some_iff.mp h
      refine rwe_all (st' := [.int r3.1]) hD hS hA (rV (rest := []) F (c_X9_refuse D cA am s n (-2 : Int32) r3 e4 l H.size) lk_X9_79 (Nat.le_of_ble_eq_true rfl) (preRW hK hS hAb hP hD) (rcv_9 hK hP (q0 := (0)) (mp_0 cA am s)) rfl hl rfl (Nat.le_of_ble_eq_true rfl) (dd D_X9_evening 18 rfl) ⟨Nat.le_of_ble_eq_true rfl, Nat.le_of_ble_eq_true rfl⟩) rfl (fun H locs hP hD hS => ?_)
      obtain rfl := Option.some.inj h
      exact rw_i (R := rmOf 2 0 0) F hP hD hS hr hlk ⟨Nat.le_of_ble_eq_true rfl, Nat.le_of_ble_eq_true rfl⟩ ⟨rfl, rfl⟩ (dd D_X9_evening 19 rfl)
    · refine lv_iload_n F.1 F.2.1 (dd D_X9_evening 12 rfl) rfl (lv_at hl 3 rfl) ?_
      refine lv_i2l (v := (Int32.toInt64 p3)) F.1 F.2.1 (dd D_X9_evening 13 rfl) rfl ?_
      refine ro_go (st' := [.int (bI (F_X9_isDay (Int32.toInt64 p3)))]) (rS (rest := []) F (c_X9_isDay D cA (Int32.toInt64 p3) l) lk_X9_67 (Nat.le_of_ble_eq_true rfl) (preRO hK hS hAb (emP)) rfl hl rfl (Nat.le_of_ble_eq_true rfl) (dd D_X9_evening 14 rfl) ⟨Nat.le_of_ble_eq_true rfl, Nat.le_of_ble_eq_true rfl⟩) rfl ?_
      refine x_bif_ne (tgt := 39) F.1 F.2.1 (dd D_X9_evening 15 rfl) rfl h (fun c10 h => ?_) (fun c10 h => ?_)
      · refine lv_aload_n F.1 F.2.1 (dd D_X9_evening 20 rfl) rfl (lv_at hl 0 rfl) ?_
        refine getF F hK hP lf_X9_7 (0) (mp_0 cA am s) rfl (dd D_X9_evening 21 rfl) ?_
        refine lv_iload_n F.1 F.2.1 (dd D_X9_evening 22 rfl) rfl (lv_at hl 1 rfl) ?_
        refine lv_iconst (v := (2 : Int32)) F.1 F.2.1 (dd D_X9_evening 23 rfl) ki_2 ?_
        refine astI F hK hP hD hS (1) (mp_1 cA am s) h (ws' := (mW cA am (m_set_shelf s (upd (m_shelf s) (Int32.toNatClampNeg p1) (2 : Int32))))) (ms_1 cA am s (upd (m_shelf s) (Int32.toNatClampNeg p1) (2 : Int32))) (dd D_X9_evening 24 rfl) (fun z5 h H locs hP hD hS => ?_)
        refine lv_aload_n F.1 F.2.1 (dd D_X9_evening 25 rfl) rfl (lv_at hl 0 rfl) ?_
        refine getF F hK hP lf_X9_28 (0) (mp_0 cA am (m_set_shelf s (upd (m_shelf s) (Int32.toNatClampNeg p1) (2 : Int32)))) rfl (dd D_X9_evening 26 rfl) ?_
        refine lv_iload_n F.1 F.2.1 (dd D_X9_evening 27 rfl) rfl (lv_at hl 1 rfl) ?_
        refine lv_iload_n F.1 F.2.1 (dd D_X9_evening 28 rfl) rfl (lv_at hl 2 rfl) ?_
        refine astI F hK hP hD hS (14) (mp_14 cA am (m_set_shelf s (upd (m_shelf s) (Int32.toNatClampNeg p1) (2 : Int32)))) h (ws' := (mW cA am (m_set_eveKind (m_set_shelf s (upd (m_shelf s) (Int32.toNatClampNeg p1) (2 : Int32))) (upd (m_eveKind (m_set_shelf s (upd (m_shelf s) (Int32.toNatClampNeg p1) (2 : Int32)))) (Int32.toNatClampNeg p1) p2)))) (ms_14 cA am (m_set_shelf s (upd (m_shelf s) (Int32.toNatClampNeg p1) (2 : Int32))) (upd (m_eveKind (m_set_shelf s (upd (m_shelf s) (Int32.toNatClampNeg p1) (2 : Int32)))) (Int32.toNatClampNeg p1) p2)) (dd D_X9_evening 29 rfl) (fun z6 h H locs hP hD hS => ?_)
        refine lv_aload_n F.1 F.2.1 (dd D_X9_evening 30 rfl) rfl (lv_at hl 0 rfl) ?_
        refine getF F hK hP lf_X9_31 (0) (mp_0 cA am (m_set_eveKind (m_set_shelf s (upd (m_shelf s) (Int32.toNatClampNeg p1) (2 : Int32))) (upd (m_eveKind (m_set_shelf s (upd (m_shelf s) (Int32.toNatClampNeg p1) (2 : Int32)))) (Int32.toNatClampNeg p1) p2))) rfl (dd D_X9_evening 31 rfl) ?_
        refine lv_iload_n F.1 F.2.1 (dd D_X9_evening 32 rfl) rfl (lv_at hl 1 rfl) ?_
        refine lv_iload_n F.1 F.2.1 (dd D_X9_evening 33 rfl) rfl (lv_at hl 3 rfl) ?_
        refine astI F hK hP hD hS (15) (mp_15 cA am (m_set_eveKind (m_set_shelf s (upd (m_shelf s) (Int32.toNatClampNeg p1) (2 : Int32))) (upd (m_eveKind (m_set_shelf s (upd (m_shelf s) (Int32.toNatClampNeg p1) (2 : Int32)))) (Int32.toNatClampNeg p1) p2))) h (ws' := (mW cA am (m_set_eveDay (m_set_eveKind (m_set_shelf s (upd (m_shelf s) (Int32.toNatClampNeg p1) (2 : Int32))) (upd (m_eveKind (m_set_shelf s (upd (m_shelf s) (Int32.toNatClampNeg p1) (2 : Int32)))) (Int32.toNatClampNeg p1) p2)) (upd (m_eveDay (m_set_eveKind (m_set_shelf s (upd (m_shelf s) (Int32.toNatClampNeg p1) (2 : Int32))) (upd (m_eveKind (m_set_shelf s (upd (m_shelf s) (Int32.toNatClampNeg p1) (2 : Int32)))) (Int32.toNatClampNeg p1) p2))) (Int32.toNatClampNeg p1) p3)))) (ms_15 cA am (m_set_eveKind (m_set_shelf s (upd (m_shelf s) (Int32.toNatClampNeg p1) (2 : Int32))) (upd (m_eveKind (m_set_shelf s (upd (m_shelf s) (Int32.toNatClampNeg p1) (2 : Int32)))) (Int32.toNatClampNeg p1) p2)) (upd (m_eveDay (m_set_eveKind (m_set_shelf s (upd (m_shelf s) (Int32.toNatClampNeg p1) (2 : Int32))) (upd (m_eveKind (m_set_shelf s (upd (m_shelf s) (Int32.toNatClampNeg p1) (2 : Int32)))) (Int32.toNatClampNeg p1) p2))) (Int32.toNatClampNeg p1) p3)) (dd D_X9_evening 34 rfl) (fun z7 h H locs hP hD hS => ?_)
        refine lv_iconst (v := (1 : Int32)) F.1 F.2.1 (dd D_X9_evening 35 rfl) ki_1 ?_
        obtain rfl := Option.some.inj h
        exact rw_i (R := rmOf 2 0 0) F hP hD hS hr hlk ⟨Nat.le_of_ble_eq_true rfl, Nat.le_of_ble_eq_true rfl⟩ ⟨rfl, rfl⟩ (dd D_X9_evening 36 rfl)
      · refine lv_aload_n F.1 F.2.1 (dd D_X9_evening 16 rfl) rfl (lv_at hl 0 rfl) ?_
        refine lv_bipush (v := (-2 : Int32)) F.1 F.2.1 (dd D_X9_evening 17 rfl) kb_m2 ?_
        obtain ⟨r8, e9, h⟩ := Option.bind_eq_some_iff.mp h
        refine rwe_all (st' := [.int r8.1]) hD hS hA (rV (rest := []) F (c_X9_refuse D cA am s n (-2 : Int32) r8 e9 l H.size) lk_X9_79 (Nat.le_of_ble_eq_true rfl) (preRW hK hS hAb hP hD) (rcv_9 hK hP (q0 := (0)) (mp_0 cA am s)) rfl hl rfl (Nat.le_of_ble_eq_true rfl) (dd D_X9_evening 18 rfl) ⟨Nat.le_of_ble_eq_true rfl, Nat.le_of_ble_eq_true rfl⟩) rfl (fun H locs hP hD hS => ?_)
        obtain rfl := Option.some.inj h
        exact rw_i (R := rmOf 2 0 0) F hP hD hS hr hlk ⟨Nat.le_of_ble_eq_true rfl, Nat.le_of_ble_eq_true rfl⟩ ⟨rfl, rfl⟩ (dd D_X9_evening 19 rfl)
def F_X9_isUnder (p0 : Int32) (p1 : Int32) : Bool := (if p1 = 0 then (true) else (if p0 = p1 then (true) else (if p1 = (1 : Int32) then (if p0 = (2 : Int32) then (true) else (if p0 = (5 : Int32) then (true) else (false))) else (false))))
set_option maxHeartbeats 4000000 in
set_option maxRecDepth 100000 in
theorem c_X9_isUnder (D : va_G) (cA : Nat → ClassId)  (p0 : Int32) (p1 : Int32) : RO m_X9_isUnder 0 D cA [.int p0, .int p1] [] (some (.int (bI (F_X9_isUnder p0 p1)))) := by
  obtain ⟨r, h⟩ : ∃ r, F_X9_isUnder p0 p1 = r := ⟨_, rfl⟩
  rw [h]
  refine RO.ofW gy_X9_isUnder.2.2 (Nat.le_of_ble_eq_true rfl) ?_
  intro l p e sM m below meth c F hr hlk hK hP hS hAb ls hl
  have hl : lv_has ls 2 [(0, .int p0), (1, .int p1)] := hl
  unfold F_X9_isUnder at h
  refine lv_iload_n F.1 F.2.1 (dd D_X9_isUnder 0 rfl) rfl (lv_at hl 1 rfl) ?_
  refine x_if_eq (tgt := 24) F.1 F.2.1 (dd D_X9_isUnder 1 rfl) rfl h (fun c1 h => ?_) (fun c1 h => ?_)
  · refine lv_iconst (v := (1 : Int32)) F.1 F.2.1 (dd D_X9_isUnder 14 rfl) ki_1 ?_
    refine lv_goto (tgt := 29) F.1 F.2.1 (dd D_X9_isUnder 15 rfl) rfl ?_
    exact ro_z (R := rmOf 0 0 0) F hr rfl hlk (congrArg (fun z => some (Value.int (bI z))) h) (dd D_X9_isUnder 17 rfl)
  · refine lv_iload_n F.1 F.2.1 (dd D_X9_isUnder 2 rfl) rfl (lv_at hl 0 rfl) ?_
    refine lv_iload_n F.1 F.2.1 (dd D_X9_isUnder 3 rfl) rfl (lv_at hl 1 rfl) ?_
    refine x_icmp_eq (tgt := 24) F.1 F.2.1 (dd D_X9_isUnder 4 rfl) rfl h (fun c2 h => ?_) (fun c2 h => ?_)
    · refine lv_iconst (v := (1 : Int32)) F.1 F.2.1 (dd D_X9_isUnder 14 rfl) ki_1 ?_
      refine lv_goto (tgt := 29) F.1 F.2.1 (dd D_X9_isUnder 15 rfl) rfl ?_
      exact ro_z (R := rmOf 0 0 0) F hr rfl hlk (congrArg (fun z => some (Value.int (bI z))) h) (dd D_X9_isUnder 17 rfl)
    · refine lv_iload_n F.1 F.2.1 (dd D_X9_isUnder 5 rfl) rfl (lv_at hl 1 rfl) ?_
      refine lv_iconst (v := (1 : Int32)) F.1 F.2.1 (dd D_X9_isUnder 6 rfl) ki_1 ?_
      refine x_icmp_ne (tgt := 28) F.1 F.2.1 (dd D_X9_isUnder 7 rfl) rfl h (fun c3 h => ?_) (fun c3 h => ?_)
      · refine lv_iconst (v := (0 : Int32)) F.1 F.2.1 (dd D_X9_isUnder 16 rfl) ki_0 ?_
        exact ro_z (R := rmOf 0 0 0) F hr rfl hlk (congrArg (fun z => some (Value.int (bI z))) h) (dd D_X9_isUnder 17 rfl)
      · refine lv_iload_n F.1 F.2.1 (dd D_X9_isUnder 8 rfl) rfl (lv_at hl 0 rfl) ?_
        refine lv_iconst (v := (2 : Int32)) F.1 F.2.1 (dd D_X9_isUnder 9 rfl) ki_2 ?_
        refine x_icmp_eq (tgt := 24) F.1 F.2.1 (dd D_X9_isUnder 10 rfl) rfl h (fun c4 h => ?_) (fun c4 h => ?_)
        · refine lv_iconst (v := (1 : Int32)) F.1 F.2.1 (dd D_X9_isUnder 14 rfl) ki_1 ?_
          refine lv_goto (tgt := 29) F.1 F.2.1 (dd D_X9_isUnder 15 rfl) rfl ?_
          exact ro_z (R := rmOf 0 0 0) F hr rfl hlk (congrArg (fun z => some (Value.int (bI z))) h) (dd D_X9_isUnder 17 rfl)
        · refine lv_iload_n F.1 F.2.1 (dd D_X9_isUnder 11 rfl) rfl (lv_at hl 0 rfl) ?_
          refine lv_iconst (v := (5 : Int32)) F.1 F.2.1 (dd D_X9_isUnder 12 rfl) ki_5 ?_
          refine x_icmp_ne (tgt := 28) F.1 F.2.1 (dd D_X9_isUnder 13 rfl) rfl h (fun c5 h => ?_) (fun c5 h => ?_)
          · refine lv_iconst (v := (0 : Int32)) F.1 F.2.1 (dd D_X9_isUnder 16 rfl) ki_0 ?_
            exact ro_z (R := rmOf 0 0 0) F hr rfl hlk (congrArg (fun z => some (Value.int (bI z))) h) (dd D_X9_isUnder 17 rfl)
          · refine lv_iconst (v := (1 : Int32)) F.1 F.2.1 (dd D_X9_isUnder 14 rfl) ki_1 ?_
            refine lv_goto (tgt := 29) F.1 F.2.1 (dd D_X9_isUnder 15 rfl) rfl ?_
            exact ro_z (R := rmOf 0 0 0) F hr rfl hlk (congrArg (fun z => some (Value.int (bI z))) h) (dd D_X9_isUnder 17 rfl)
def F_X9_age (n : Nat) (s : MS) (p1 : Int32) : Option Int32 := gd (inb (0 : Int32) 4) (some ((jrem (((100 : Int32) * p1) + ((m_asked s) (Int32.toNatClampNeg (0 : Int32)))) (2953 : Int32))))
set_option maxHeartbeats 4000000 in
set_option maxRecDepth 100000 in
theorem c_X9_age (D : va_G) (cA : Nat → ClassId) (am : Nat → Nat) (s : MS) (n : Nat) (p1 : Int32) (r : Int32) (h : F_X9_age n s p1 = some r) : RO m_X9_age 0 D cA [.ref (am 0), .int p1] (mW cA am s) (some (.int r)) := by
  refine RO.ofW gy_X9_age.2.2 (Nat.le_of_ble_eq_true rfl) ?_
  intro l p e sM m below meth c F hr hlk hK hP hS hAb ls hl
  have hl : lv_has ls 2 [(0, .ref (am 0)), (1, .int p1)] := hl
  unfold F_X9_age at h
  refine lv_bipush (v := (100 : Int32)) F.1 F.2.1 (dd D_X9_age 0 rfl) kb_100 ?_
  refine lv_iload_n F.1 F.2.1 (dd D_X9_age 1 rfl) rfl (lv_at hl 1 rfl) ?_
  refine lv_imul F.1 F.2.1 (dd D_X9_age 2 rfl) ?_
  refine lv_aload_n F.1 F.2.1 (dd D_X9_age 3 rfl) rfl (lv_at hl 0 rfl) ?_
  refine getF F hK hP lf_X9_40 (0) (mp_0 cA am s) rfl (dd D_X9_age 4 rfl) ?_
  refine lv_iconst (v := (0 : Int32)) F.1 F.2.1 (dd D_X9_age 5 rfl) ki_0 ?_
  refine aldI F hK hP (18) (mp_18 cA am s) h (dd D_X9_age 6 rfl) (fun z1 h => ?_)
  refine lv_iadd F.1 F.2.1 (dd D_X9_age 7 rfl) ?_
  refine lv_sipush (v := (2953 : Int32)) F.1 F.2.1 (dd D_X9_age 8 rfl) ks_2953 ?_
  refine x_irem F.1 F.2.1 (dd D_X9_age 9 rfl) kd_2953 ?_
  exact ro_i (R := rmOf 0 0 0) F hr hlk (congrArg (Option.map Value.int) h) (dd D_X9_age 10 rfl)
def F_X9_out (n : Nat) (s : MS) (p1 : Int32) : Option Int32 := gd (inb (2 : Int32) 4) ((if (3396 : Int32) < (jrem (((m_asked s) (Int32.toNatClampNeg (2 : Int32))) + p1) (6793 : Int32)) then some (((18 : Int32) + ((((6793 : Int32) - (jrem (((m_asked s) (Int32.toNatClampNeg (2 : Int32))) + p1) (6793 : Int32))) * (10 : Int32)) / (3397 : Int32)))) else some (((18 : Int32) + (((jrem (((m_asked s) (Int32.toNatClampNeg (2 : Int32))) + p1) (6793 : Int32)) * (10 : Int32)) / (3396 : Int32))))))
set_option maxHeartbeats 4000000 in
set_option maxRecDepth 100000 in
theorem c_X9_out (D : va_G) (cA : Nat → ClassId) (am : Nat → Nat) (s : MS) (n : Nat) (p1 : Int32) (r : Int32) (h : F_X9_out n s p1 = some r) : RO m_X9_out 0 D cA [.ref (am 0), .int p1] (mW cA am s) (some (.int r)) := by
  refine RO.ofW gy_X9_out.2.2 (Nat.le_of_ble_eq_true rfl) ?_
  intro l p e sM m below meth c F hr hlk hK hP hS hAb ls hl
  have hl : lv_has ls 3 [(0, .ref (am 0)), (1, .int p1)] := hl
  unfold F_X9_out at h
  refine lv_aload_n F.1 F.2.1 (dd D_X9_out 0 rfl) rfl (lv_at hl 0 rfl) ?_
  refine getF F hK hP lf_X9_40 (0) (mp_0 cA am s) rfl (dd D_X9_out 1 rfl) ?_
  refine lv_iconst (v := (2 : Int32)) F.1 F.2.1 (dd D_X9_out 2 rfl) ki_2 ?_
  refine aldI F hK hP (18) (mp_18 cA am s) h (dd D_X9_out 3 rfl) (fun z1 h => ?_)
  refine lv_iload_n F.1 F.2.1 (dd D_X9_out 4 rfl) rfl (lv_at hl 1 rfl) ?_
  refine lv_iadd F.1 F.2.1 (dd D_X9_out 5 rfl) ?_
  refine lv_sipush (v := (6793 : Int32)) F.1 F.2.1 (dd D_X9_out 6 rfl) ks_6793 ?_
  refine x_irem F.1 F.2.1 (dd D_X9_out 7 rfl) kd_6793 ?_
  refine lv_istore_n (lv' := [(2, .int (jrem (((m_asked s) (Int32.toNatClampNeg (2 : Int32))) + p1) (6793 : Int32))), (0, .ref (am 0)), (1, .int p1)]) F.1 F.2.1 (dd D_X9_out 8 rfl) rfl hl (Nat.le_of_ble_eq_true rfl) rfl (fun ls hl => ?_)
  refine lv_iload_n F.1 F.2.1 (dd D_X9_out 9 rfl) rfl (lv_at hl 0 rfl) ?_
  refine lv_sipush (v := (3396 : Int32)) F.1 F.2.1 (dd D_X9_out 10 rfl) ks_3396 ?_
  refine x_icmp_gt (tgt := 34) F.1 F.2.1 (dd D_X9_out 11 rfl) rfl h (fun c2 h => ?_) (fun c2 h => ?_)
  · refine lv_bipush (v := (18 : Int32)) F.1 F.2.1 (dd D_X9_out 20 rfl) kb_18 ?_
    refine lv_sipush (v := (6793 : Int32)) F.1 F.2.1 (dd D_X9_out 21 rfl) ks_6793 ?_
    refine lv_iload_n F.1 F.2.1 (dd D_X9_out 22 rfl) rfl (lv_at hl 0 rfl) ?_
    refine lv_isub F.1 F.2.1 (dd D_X9_out 23 rfl) ?_
    refine lv_bipush (v := (10 : Int32)) F.1 F.2.1 (dd D_X9_out 24 rfl) kb_10 ?_
    refine lv_imul F.1 F.2.1 (dd D_X9_out 25 rfl) ?_
    refine lv_sipush (v := (3397 : Int32)) F.1 F.2.1 (dd D_X9_out 26 rfl) ks_3397 ?_
    refine lv_idiv F.1 F.2.1 (dd D_X9_out 27 rfl) kd_3397 ?_
    refine lv_iadd F.1 F.2.1 (dd D_X9_out 28 rfl) ?_
    exact ro_i (R := rmOf 0 0 0) F hr hlk (congrArg (Option.map Value.int) h) (dd D_X9_out 29 rfl)
  · refine lv_bipush (v := (18 : Int32)) F.1 F.2.1 (dd D_X9_out 12 rfl) kb_18 ?_
    refine lv_iload_n F.1 F.2.1 (dd D_X9_out 13 rfl) rfl (lv_at hl 0 rfl) ?_
    refine lv_bipush (v := (10 : Int32)) F.1 F.2.1 (dd D_X9_out 14 rfl) kb_10 ?_
    refine lv_imul F.1 F.2.1 (dd D_X9_out 15 rfl) ?_
    refine lv_sipush (v := (3396 : Int32)) F.1 F.2.1 (dd D_X9_out 16 rfl) ks_3396 ?_
    refine lv_idiv F.1 F.2.1 (dd D_X9_out 17 rfl) kd_3396 ?_
    refine lv_iadd F.1 F.2.1 (dd D_X9_out 18 rfl) ?_
    refine lv_goto (tgt := 49) F.1 F.2.1 (dd D_X9_out 19 rfl) rfl ?_
    exact ro_i (R := rmOf 0 0 0) F hr hlk (congrArg (Option.map Value.int) h) (dd D_X9_out 29 rfl)
def F_X9_slantOf (n : Nat) (s : MS) (p1 : Int32) : Option Int32 := gd (inb (1 : Int32) 4) ((((F_X9_out n s p1)).bind fun r2 => (if (683 : Int32) < (jrem (((100 : Int32) * p1) + ((m_asked s) (Int32.toNatClampNeg (1 : Int32)))) (2732 : Int32)) then (if (2049 : Int32) < (jrem (((100 : Int32) * p1) + ((m_asked s) (Int32.toNatClampNeg (1 : Int32)))) (2732 : Int32)) then some (((r2 * ((jrem (((100 : Int32) * p1) + ((m_asked s) (Int32.toNatClampNeg (1 : Int32)))) (2732 : Int32)) - (2732 : Int32))) / (683 : Int32))) else some (((r2 * ((1366 : Int32) - (jrem (((100 : Int32) * p1) + ((m_asked s) (Int32.toNatClampNeg (1 : Int32)))) (2732 : Int32)))) / (683 : Int32)))) else some (((r2 * (jrem (((100 : Int32) * p1) + ((m_asked s) (Int32.toNatClampNeg (1 : Int32)))) (2732 : Int32))) / (683 : Int32))))))
set_option maxHeartbeats 4000000 in
set_option maxRecDepth 100000 in
theorem c_X9_slantOf (D : va_G) (cA : Nat → ClassId) (am : Nat → Nat) (s : MS) (n : Nat) (p1 : Int32) (r : Int32) (h : F_X9_slantOf n s p1 = some r) : RO m_X9_slantOf 1 D cA [.ref (am 0), .int p1] (mW cA am s) (some (.int r)) := by
  refine RO.ofW gy_X9_slantOf.2.2 (Nat.le_of_ble_eq_true rfl) ?_
  intro l p e sM m below meth c F hr hlk hK hP hS hAb ls hl
  have hl : lv_has ls 4 [(0, .ref (am 0)), (1, .int p1)] := hl
  unfold F_X9_slantOf at h
  refine lv_bipush (v := (100 : Int32)) F.1 F.2.1 (dd D_X9_slantOf 0 rfl) kb_100 ?_
  refine lv_iload_n F.1 F.2.1 (dd D_X9_slantOf 1 rfl) rfl (lv_at hl 1 rfl) ?_
  refine lv_imul F.1 F.2.1 (dd D_X9_slantOf 2 rfl) ?_
  refine lv_aload_n F.1 F.2.1 (dd D_X9_slantOf 3 rfl) rfl (lv_at hl 0 rfl) ?_
  refine getF F hK hP lf_X9_40 (0) (mp_0 cA am s) rfl (dd D_X9_slantOf 4 rfl) ?_
  refine lv_iconst (v := (1 : Int32)) F.1 F.2.1 (dd D_X9_slantOf 5 rfl) ki_1 ?_
  refine aldI F hK hP (18) (mp_18 cA am s) h (dd D_X9_slantOf 6 rfl) (fun z1 h => ?_)
  refine lv_iadd F.1 F.2.1 (dd D_X9_slantOf 7 rfl) ?_
  refine lv_sipush (v := (2732 : Int32)) F.1 F.2.1 (dd D_X9_slantOf 8 rfl) ks_2732 ?_
  refine x_irem F.1 F.2.1 (dd D_X9_slantOf 9 rfl) kd_2732 ?_
  refine lv_istore_n (lv' := [(2, .int (jrem (((100 : Int32) * p1) + ((m_asked s) (Int32.toNatClampNeg (1 : Int32)))) (2732 : Int32))), (0, .ref (am 0)), (1, .int p1)]) F.1 F.2.1 (dd D_X9_slantOf 10 rfl) rfl hl (Nat.le_of_ble_eq_true rfl) rfl (fun ls hl => ?_)
  refine lv_aload_n F.1 F.2.1 (dd D_X9_slantOf 11 rfl) rfl (lv_at hl 1 rfl) ?_
  refine lv_iload_n F.1 F.2.1 (dd D_X9_slantOf 12 rfl) rfl (lv_at hl 2 rfl) ?_
  obtain ⟨r2, e3, h⟩ := Option.bind_eq_some_iff.mp h
  refine ro_go (st' := [.int r2]) (rV (rest := []) F (c_X9_out D cA am s n p1 r2 e3 l) lk_X9_102 (Nat.le_of_ble_eq_true rfl) (preRO hK hS hAb hP) (rcv_9 hK hP (q0 := (0)) (mp_0 cA am s)) rfl hl rfl (Nat.le_of_ble_eq_true rfl) (dd D_X9_slantOf 13 rfl) ⟨Nat.le_of_ble_eq_true rfl, Nat.le_of_ble_eq_true rfl⟩) rfl ?_
  refine lv_istore_n (lv' := [(3, .int r2), (2, .int (jrem (((100 : Int32) * p1) + ((m_asked s) (Int32.toNatClampNeg (1 : Int32)))) (2732 : Int32))), (0, .ref (am 0)), (1, .int p1)]) F.1 F.2.1 (dd D_X9_slantOf 14 rfl) rfl hl (Nat.le_of_ble_eq_true rfl) rfl (fun ls hl => ?_)
  refine lv_iload_n F.1 F.2.1 (dd D_X9_slantOf 15 rfl) rfl (lv_at hl 1 rfl) ?_
  refine lv_sipush (v := (683 : Int32)) F.1 F.2.1 (dd D_X9_slantOf 16 rfl) ks_683 ?_
  refine x_icmp_gt (tgt := 37) F.1 F.2.1 (dd D_X9_slantOf 17 rfl) rfl h (fun c4 h => ?_) (fun c4 h => ?_)
  · refine lv_iload_n F.1 F.2.1 (dd D_X9_slantOf 24 rfl) rfl (lv_at hl 1 rfl) ?_
    refine lv_sipush (v := (2049 : Int32)) F.1 F.2.1 (dd D_X9_slantOf 25 rfl) ks_2049 ?_
    refine x_icmp_gt (tgt := 58) F.1 F.2.1 (dd D_X9_slantOf 26 rfl) rfl h (fun c5 h => ?_) (fun c5 h => ?_)
    · refine lv_iload_n F.1 F.2.1 (dd D_X9_slantOf 35 rfl) rfl (lv_at hl 0 rfl) ?_
      refine lv_iload_n F.1 F.2.1 (dd D_X9_slantOf 36 rfl) rfl (lv_at hl 1 rfl) ?_
      refine lv_sipush (v := (2732 : Int32)) F.1 F.2.1 (dd D_X9_slantOf 37 rfl) ks_2732 ?_
      refine lv_isub F.1 F.2.1 (dd D_X9_slantOf 38 rfl) ?_
      refine lv_imul F.1 F.2.1 (dd D_X9_slantOf 39 rfl) ?_
      refine lv_sipush (v := (683 : Int32)) F.1 F.2.1 (dd D_X9_slantOf 40 rfl) ks_683 ?_
      refine lv_idiv F.1 F.2.1 (dd D_X9_slantOf 41 rfl) kd_683 ?_
      exact ro_i (R := rmOf 1 0 0) F hr hlk (congrArg (Option.map Value.int) h) (dd D_X9_slantOf 42 rfl)
    · refine lv_iload_n F.1 F.2.1 (dd D_X9_slantOf 27 rfl) rfl (lv_at hl 0 rfl) ?_
      refine lv_sipush (v := (1366 : Int32)) F.1 F.2.1 (dd D_X9_slantOf 28 rfl) ks_1366 ?_
      refine lv_iload_n F.1 F.2.1 (dd D_X9_slantOf 29 rfl) rfl (lv_at hl 1 rfl) ?_
      refine lv_isub F.1 F.2.1 (dd D_X9_slantOf 30 rfl) ?_
      refine lv_imul F.1 F.2.1 (dd D_X9_slantOf 31 rfl) ?_
      refine lv_sipush (v := (683 : Int32)) F.1 F.2.1 (dd D_X9_slantOf 32 rfl) ks_683 ?_
      refine lv_idiv F.1 F.2.1 (dd D_X9_slantOf 33 rfl) kd_683 ?_
      refine lv_goto (tgt := 69) F.1 F.2.1 (dd D_X9_slantOf 34 rfl) rfl ?_
      exact ro_i (R := rmOf 1 0 0) F hr hlk (congrArg (Option.map Value.int) h) (dd D_X9_slantOf 42 rfl)
  · refine lv_iload_n F.1 F.2.1 (dd D_X9_slantOf 18 rfl) rfl (lv_at hl 0 rfl) ?_
    refine lv_iload_n F.1 F.2.1 (dd D_X9_slantOf 19 rfl) rfl (lv_at hl 1 rfl) ?_
    refine lv_imul F.1 F.2.1 (dd D_X9_slantOf 20 rfl) ?_
    refine lv_sipush (v := (683 : Int32)) F.1 F.2.1 (dd D_X9_slantOf 21 rfl) ks_683 ?_
    refine lv_idiv F.1 F.2.1 (dd D_X9_slantOf 22 rfl) kd_683 ?_
    exact ro_i (R := rmOf 1 0 0) F hr hlk (congrArg (Option.map Value.int) h) (dd D_X9_slantOf 23 rfl)
def F_X9_mod (p0 : Int32) (p1 : Int32) : Int32 := (if 0 ≤ (jrem p0 p1) then ((jrem p0 p1)) else (((jrem p0 p1) + p1)))
set_option maxHeartbeats 4000000 in
set_option maxRecDepth 100000 in
theorem c_X9_mod (D : va_G) (cA : Nat → ClassId)  (p0 : Int32) (p1 : Int32) (hy0 : ¬ p1 = 0) : RO m_X9_mod 0 D cA [.int p0, .int p1] [] (some (.int (F_X9_mod p0 p1))) := by
  obtain ⟨r, h⟩ : ∃ r, F_X9_mod p0 p1 = r := ⟨_, rfl⟩
  rw [h]
  refine RO.ofW gy_X9_mod.2.2 (Nat.le_of_ble_eq_true rfl) ?_
  intro l p e sM m below meth c F hr hlk hK hP hS hAb ls hl
  have hl : lv_has ls 3 [(0, .int p0), (1, .int p1)] := hl
  unfold F_X9_mod at h
  refine lv_iload_n F.1 F.2.1 (dd D_X9_mod 0 rfl) rfl (lv_at hl 0 rfl) ?_
  refine lv_iload_n F.1 F.2.1 (dd D_X9_mod 1 rfl) rfl (lv_at hl 1 rfl) ?_
  refine x_irem F.1 F.2.1 (dd D_X9_mod 2 rfl) hy0 ?_
  refine lv_istore_n (lv' := [(2, .int (jrem p0 p1)), (0, .int p0), (1, .int p1)]) F.1 F.2.1 (dd D_X9_mod 3 rfl) rfl hl (Nat.le_of_ble_eq_true rfl) rfl (fun ls hl => ?_)
  refine lv_iload_n F.1 F.2.1 (dd D_X9_mod 4 rfl) rfl (lv_at hl 0 rfl) ?_
  refine x_if_ge (tgt := 14) F.1 F.2.1 (dd D_X9_mod 5 rfl) rfl h (fun c1 h => ?_) (fun c1 h => ?_)
  · refine lv_iload_n F.1 F.2.1 (dd D_X9_mod 10 rfl) rfl (lv_at hl 0 rfl) ?_
    exact ro_i (R := rmOf 0 0 0) F hr hlk (congrArg (fun z => some (Value.int z)) h) (dd D_X9_mod 11 rfl)
  · refine lv_iload_n F.1 F.2.1 (dd D_X9_mod 6 rfl) rfl (lv_at hl 0 rfl) ?_
    refine lv_iload_n F.1 F.2.1 (dd D_X9_mod 7 rfl) rfl (lv_at hl 2 rfl) ?_
    refine lv_iadd F.1 F.2.1 (dd D_X9_mod 8 rfl) ?_
    refine lv_goto (tgt := 15) F.1 F.2.1 (dd D_X9_mod 9 rfl) rfl ?_
    exact ro_i (R := rmOf 0 0 0) F hr hlk (congrArg (fun z => some (Value.int z)) h) (dd D_X9_mod 11 rfl)
def F_X9_rise (n : Nat) (s : MS) (p1 : Int32) : Option Int32 := (((F_X9_age n s p1)).bind fun r1 => (((F_X9_slantOf n s p1)).bind fun r3 => some ((F_X9_mod (((360 : Int32) + ((r1 * (1440 : Int32)) / (2953 : Int32))) - ((3 : Int32) * r3)) (1440 : Int32)))))
set_option maxHeartbeats 4000000 in
set_option maxRecDepth 100000 in
theorem c_X9_rise (D : va_G) (cA : Nat → ClassId) (am : Nat → Nat) (s : MS) (n : Nat) (p1 : Int32) (r : Int32) (h : F_X9_rise n s p1 = some r) : RO m_X9_rise 2 D cA [.ref (am 0), .int p1] (mW cA am s) (some (.int r)) := by
  refine RO.ofW gy_X9_rise.2.2 (Nat.le_of_ble_eq_true rfl) ?_
  intro l p e sM m below meth c F hr hlk hK hP hS hAb ls hl
  have hl : lv_has ls 2 [(0, .ref (am 0)), (1, .int p1)] := hl
  unfold F_X9_rise at h
  refine lv_sipush (v := (360 : Int32)) F.1 F.2.1 (dd D_X9_rise 0 rfl) ks_360 ?_
  refine lv_aload_n F.1 F.2.1 (dd D_X9_rise 1 rfl) rfl (lv_at hl 0 rfl) ?_
  refine lv_iload_n F.1 F.2.1 (dd D_X9_rise 2 rfl) rfl (lv_at hl 1 rfl) ?_
  obtain ⟨r1, e2, h⟩ := Option.bind_eq_some_iff.mp h
  refine ro_go (st' := [.int r1, .int (360 : Int32)]) (rV (rest := [.int (360 : Int32)]) F (c_X9_age D cA am s n p1 r1 e2 l) lk_X9_96 (Nat.le_of_ble_eq_true rfl) (preRO hK hS hAb hP) (rcv_9 hK hP (q0 := (0)) (mp_0 cA am s)) rfl hl rfl (Nat.le_of_ble_eq_true rfl) (dd D_X9_rise 3 rfl) ⟨Nat.le_of_ble_eq_true rfl, Nat.le_of_ble_eq_true rfl⟩) rfl ?_
  refine lv_sipush (v := (1440 : Int32)) F.1 F.2.1 (dd D_X9_rise 4 rfl) ks_1440 ?_
  refine lv_imul F.1 F.2.1 (dd D_X9_rise 5 rfl) ?_
  refine lv_sipush (v := (2953 : Int32)) F.1 F.2.1 (dd D_X9_rise 6 rfl) ks_2953 ?_
  refine lv_idiv F.1 F.2.1 (dd D_X9_rise 7 rfl) kd_2953 ?_
  refine lv_iadd F.1 F.2.1 (dd D_X9_rise 8 rfl) ?_
  refine lv_iconst (v := (3 : Int32)) F.1 F.2.1 (dd D_X9_rise 9 rfl) ki_3 ?_
  refine lv_aload_n F.1 F.2.1 (dd D_X9_rise 10 rfl) rfl (lv_at hl 0 rfl) ?_
  refine lv_iload_n F.1 F.2.1 (dd D_X9_rise 11 rfl) rfl (lv_at hl 1 rfl) ?_
  obtain ⟨r3, e4, h⟩ := Option.bind_eq_some_iff.mp h
  refine ro_go (st' := [.int r3, .int (3 : Int32), .int ((360 : Int32) + ((r1 * (1440 : Int32)) / (2953 : Int32)))]) (rV (rest := [.int (3 : Int32), .int ((360 : Int32) + ((r1 * (1440 : Int32)) / (2953 : Int32)))]) F (c_X9_slantOf D cA am s n p1 r3 e4 l) lk_X9_227 (Nat.le_of_ble_eq_true rfl) (preRO hK hS hAb hP) (rcv_9 hK hP (q0 := (0)) (mp_0 cA am s)) rfl hl rfl (Nat.le_of_ble_eq_true rfl) (dd D_X9_rise 12 rfl) ⟨Nat.le_of_ble_eq_true rfl, Nat.le_of_ble_eq_true rfl⟩) rfl ?_
  refine lv_imul F.1 F.2.1 (dd D_X9_rise 13 rfl) ?_
  refine lv_isub F.1 F.2.1 (dd D_X9_rise 14 rfl) ?_
  refine lv_sipush (v := (1440 : Int32)) F.1 F.2.1 (dd D_X9_rise 15 rfl) ks_1440 ?_
  refine ro_go (st' := [.int (F_X9_mod (((360 : Int32) + ((r1 * (1440 : Int32)) / (2953 : Int32))) - ((3 : Int32) * r3)) (1440 : Int32))]) (rS (rest := []) F (c_X9_mod D cA (((360 : Int32) + ((r1 * (1440 : Int32)) / (2953 : Int32))) - ((3 : Int32) * r3)) (1440 : Int32) kd_1440 l) lk_X9_230 (Nat.le_of_ble_eq_true rfl) (preRO hK hS hAb (emP)) rfl hl rfl (Nat.le_of_ble_eq_true rfl) (dd D_X9_rise 16 rfl) ⟨Nat.le_of_ble_eq_true rfl, Nat.le_of_ble_eq_true rfl⟩) rfl ?_
  exact ro_i (R := rmOf 2 0 0) F hr hlk (congrArg (Option.map Value.int) h) (dd D_X9_rise 17 rfl)
def F_X9_way (n : Nat) (s : MS) (p1 : Int32) : Option Int32 := (((F_X9_slantOf n s p1)).bind fun r1 => some (((90 : Int32) - ((2 : Int32) * r1))))
set_option maxHeartbeats 4000000 in
set_option maxRecDepth 100000 in
theorem c_X9_way (D : va_G) (cA : Nat → ClassId) (am : Nat → Nat) (s : MS) (n : Nat) (p1 : Int32) (r : Int32) (h : F_X9_way n s p1 = some r) : RO m_X9_way 2 D cA [.ref (am 0), .int p1] (mW cA am s) (some (.int r)) := by
  refine RO.ofW gy_X9_way.2.2 (Nat.le_of_ble_eq_true rfl) ?_
  intro l p e sM m below meth c F hr hlk hK hP hS hAb ls hl
  have hl : lv_has ls 2 [(0, .ref (am 0)), (1, .int p1)] := hl
  unfold F_X9_way at h
  refine lv_bipush (v := (90 : Int32)) F.1 F.2.1 (dd D_X9_way 0 rfl) kb_90 ?_
  refine lv_iconst (v := (2 : Int32)) F.1 F.2.1 (dd D_X9_way 1 rfl) ki_2 ?_
  refine lv_aload_n F.1 F.2.1 (dd D_X9_way 2 rfl) rfl (lv_at hl 0 rfl) ?_
  refine lv_iload_n F.1 F.2.1 (dd D_X9_way 3 rfl) rfl (lv_at hl 1 rfl) ?_
  obtain ⟨r1, e2, h⟩ := Option.bind_eq_some_iff.mp h
  refine ro_go (st' := [.int r1, .int (2 : Int32), .int (90 : Int32)]) (rV (rest := [.int (2 : Int32), .int (90 : Int32)]) F (c_X9_slantOf D cA am s n p1 r1 e2 l) lk_X9_227 (Nat.le_of_ble_eq_true rfl) (preRO hK hS hAb hP) (rcv_9 hK hP (q0 := (0)) (mp_0 cA am s)) rfl hl rfl (Nat.le_of_ble_eq_true rfl) (dd D_X9_way 4 rfl) ⟨Nat.le_of_ble_eq_true rfl, Nat.le_of_ble_eq_true rfl⟩) rfl ?_
  refine lv_imul F.1 F.2.1 (dd D_X9_way 5 rfl) ?_
  refine lv_isub F.1 F.2.1 (dd D_X9_way 6 rfl) ?_
  exact ro_i (R := rmOf 2 0 0) F hr hlk (congrArg (Option.map Value.int) h) (dd D_X9_way 7 rfl)
def F_X9_lineAt_L4 (n : Nat) (u0 : MS) (v1 : Int32) : Nat → Int32 → Int32 → Option Int32
  | 0, _, _ => none
  | kf + 1, w2, w3 => (if (m_notches u0) ≤ w3 then some (w2) else gd (inb w3 8) (gd (inb (0 : Int32) 3) (gd (inb w3 8) (gd (inb (1 : Int32) 3) (bf (F_X9_in (Int32.toInt64 v1) (Int32.toInt64 ((m_notch u0 (Int32.toNatClampNeg w3)) (Int32.toNatClampNeg (0 : Int32)))) (Int32.toInt64 ((m_notch u0 (Int32.toNatClampNeg w3)) (Int32.toNatClampNeg (1 : Int32))))) (gd (inb w3 8) (gd (inb (2 : Int32) 3) ((if ((m_notch u0 (Int32.toNatClampNeg w3)) (Int32.toNatClampNeg (2 : Int32))) ≤ w2 then F_X9_lineAt_L4 n u0 v1 kf w2 (w3 + (1 : Int32)) else gd (inb w3 8) (gd (inb (2 : Int32) 3) (F_X9_lineAt_L4 n u0 v1 kf ((m_notch u0 (Int32.toNatClampNeg w3)) (Int32.toNatClampNeg (2 : Int32))) (w3 + (1 : Int32)))))))) (F_X9_lineAt_L4 n u0 v1 kf w2 (w3 + (1 : Int32))))))))
def F_X9_lineAt (n : Nat) (s : MS) (p1 : Int32) : Option Int32 := F_X9_lineAt_L4 n s p1 n (0 : Int32) (0 : Int32)
set_option maxHeartbeats 4000000 in
set_option maxRecDepth 100000 in
theorem c_X9_lineAt (D : va_G) (cA : Nat → ClassId) (am : Nat → Nat) (s : MS) (n : Nat) (p1 : Int32) (r : Int32) (h : F_X9_lineAt n s p1 = some r) : RO m_X9_lineAt 1 D cA [.ref (am 0), .int p1] (mW cA am s) (some (.int r)) := by
  refine RO.ofW gy_X9_lineAt.2.2 (Nat.le_of_ble_eq_true rfl) ?_
  intro l p e sM m below meth c F hr hlk hK hP hS hAb ls hl
  have hl : lv_has ls 5 [(0, .ref (am 0)), (1, .int p1)] := hl
  unfold F_X9_lineAt at h
  refine lv_iconst (v := (0 : Int32)) F.1 F.2.1 (dd D_X9_lineAt 0 rfl) ki_0 ?_
  refine lv_istore_n (lv' := [(2, .int (0 : Int32)), (0, .ref (am 0)), (1, .int p1)]) F.1 F.2.1 (dd D_X9_lineAt 1 rfl) rfl hl (Nat.le_of_ble_eq_true rfl) rfl (fun ls hl => ?_)
  refine lv_iconst (v := (0 : Int32)) F.1 F.2.1 (dd D_X9_lineAt 2 rfl) ki_0 ?_
  refine lv_istore_n (lv' := [(3, .int (0 : Int32)), (2, .int (0 : Int32)), (0, .ref (am 0)), (1, .int p1)]) F.1 F.2.1 (dd D_X9_lineAt 3 rfl) rfl hl (Nat.le_of_ble_eq_true rfl) rfl (fun ls hl => ?_)
  have L16 : ∀ (kf : Nat) (w2_L16 : Int32) (w3_L16 : Int32) (ls : Array Slot), lv_has ls 5 [(0, .ref (am 0)), (1, .int p1), (2, .int w2_L16), (3, .int w3_L16)] → F_X9_lineAt_L4 n s p1 kf w2_L16 w3_L16 = some r → Wro 1 (some (.int r)) p l e sM m ([.ref (am 0), .int p1] : List Value).toArray below meth c 4 ls [] := by
    intro kf
    induction kf with
    | zero =>
      intro w2_L16 w3_L16 ls hl h
      cases (show none = some r from h)
    | succ k_L16 ih_L16 =>
      intro w2_L16 w3_L16 ls hl h
      unfold F_X9_lineAt_L4 at h
      refine lv_iload_n F.1 F.2.1 (dd D_X9_lineAt 4 rfl) rfl (lv_at hl 3 rfl) ?_
      refine lv_aload_n F.1 F.2.1 (dd D_X9_lineAt 5 rfl) rfl (lv_at hl 0 rfl) ?_
      refine getF F hK hP lf_X9_116 (0) (mp_0 cA am s) rfl (dd D_X9_lineAt 6 rfl) ?_
      refine x_icmp_ge (tgt := 73) F.1 F.2.1 (dd D_X9_lineAt 7 rfl) rfl h (fun c17 h => ?_) (fun c17 h => ?_)
      · refine lv_iload_n F.1 F.2.1 (dd D_X9_lineAt 47 rfl) rfl (lv_at hl 2 rfl) ?_
        exact ro_i (R := rmOf 1 0 0) F hr hlk (congrArg (Option.map Value.int) h) (dd D_X9_lineAt 48 rfl)
      · refine lv_iload_n F.1 F.2.1 (dd D_X9_lineAt 8 rfl) rfl (lv_at hl 1 rfl) ?_
        refine lv_i2l (v := (Int32.toInt64 p1)) F.1 F.2.1 (dd D_X9_lineAt 9 rfl) rfl ?_
        refine lv_aload_n F.1 F.2.1 (dd D_X9_lineAt 10 rfl) rfl (lv_at hl 0 rfl) ?_
        refine getF F hK hP lf_X9_45 (0) (mp_0 cA am s) rfl (dd D_X9_lineAt 11 rfl) ?_
        refine lv_iload_n F.1 F.2.1 (dd D_X9_lineAt 12 rfl) rfl (lv_at hl 3 rfl) ?_
        refine aldA (g := fun j => am (20+j)) F hK hP (19) (mp_19 cA am s) 4 rfl (fun _ => rfl) h (dd D_X9_lineAt 13 rfl) (fun z18 h => ?_)
        have hk19 : (Int32.toNatClampNeg w3_L16) < 8 := inb_lt z18
        refine lv_iconst (v := (0 : Int32)) F.1 F.2.1 (dd D_X9_lineAt 14 rfl) ki_0 ?_
        refine aldI F hK hP (20+(Int32.toNatClampNeg w3_L16)) (mp_notch cA am s (Int32.toNatClampNeg w3_L16) hk19) h (dd D_X9_lineAt 15 rfl) (fun z20 h => ?_)
        refine lv_i2l (v := (Int32.toInt64 ((m_notch s (Int32.toNatClampNeg w3_L16)) (Int32.toNatClampNeg (0 : Int32))))) F.1 F.2.1 (dd D_X9_lineAt 16 rfl) rfl ?_
        refine lv_aload_n F.1 F.2.1 (dd D_X9_lineAt 17 rfl) rfl (lv_at hl 0 rfl) ?_
        refine getF F hK hP lf_X9_45 (0) (mp_0 cA am s) rfl (dd D_X9_lineAt 18 rfl) ?_
        refine lv_iload_n F.1 F.2.1 (dd D_X9_lineAt 19 rfl) rfl (lv_at hl 3 rfl) ?_
        refine aldA (g := fun j => am (20+j)) F hK hP (19) (mp_19 cA am s) 4 rfl (fun _ => rfl) h (dd D_X9_lineAt 20 rfl) (fun z21 h => ?_)
        have hk22 : (Int32.toNatClampNeg w3_L16) < 8 := inb_lt z21
        refine lv_iconst (v := (1 : Int32)) F.1 F.2.1 (dd D_X9_lineAt 21 rfl) ki_1 ?_
        refine aldI F hK hP (20+(Int32.toNatClampNeg w3_L16)) (mp_notch cA am s (Int32.toNatClampNeg w3_L16) hk22) h (dd D_X9_lineAt 22 rfl) (fun z23 h => ?_)
        refine lv_i2l (v := (Int32.toInt64 ((m_notch s (Int32.toNatClampNeg w3_L16)) (Int32.toNatClampNeg (1 : Int32))))) F.1 F.2.1 (dd D_X9_lineAt 23 rfl) rfl ?_
        refine ro_go (st' := [.int (bI (F_X9_in (Int32.toInt64 p1) (Int32.toInt64 ((m_notch s (Int32.toNatClampNeg w3_L16)) (Int32.toNatClampNeg (0 : Int32)))) (Int32.toInt64 ((m_notch s (Int32.toNatClampNeg w3_L16)) (Int32.toNatClampNeg (1 : Int32))))))]) (rS (rest := []) F (c_X9_in D cA (Int32.toInt64 p1) (Int32.toInt64 ((m_notch s (Int32.toNatClampNeg w3_L16)) (Int32.toNatClampNeg (0 : Int32)))) (Int32.toInt64 ((m_notch s (Int32.toNatClampNeg w3_L16)) (Int32.toNatClampNeg (1 : Int32)))) l) lk_X9_63 (Nat.le_of_ble_eq_true rfl) (preRO hK hS hAb (emP)) rfl hl rfl (Nat.le_of_ble_eq_true rfl) (dd D_X9_lineAt 24 rfl) ⟨Nat.le_of_ble_eq_true rfl, Nat.le_of_ble_eq_true rfl⟩) rfl ?_
        refine lv_istore (lv' := [(4, .int (bI (F_X9_in (Int32.toInt64 p1) (Int32.toInt64 ((m_notch s (Int32.toNatClampNeg w3_L16)) (Int32.toNatClampNeg (0 : Int32)))) (Int32.toInt64 ((m_notch s (Int32.toNatClampNeg w3_L16)) (Int32.toNatClampNeg (1 : Int32))))))), (0, .ref (am 0)), (1, .int p1), (2, .int w2_L16), (3, .int w3_L16)]) F.1 F.2.1 (dd D_X9_lineAt 25 rfl) hl (Nat.le_of_ble_eq_true rfl) rfl (fun ls hl => ?_)
        refine lv_iload F.1 F.2.1 (dd D_X9_lineAt 26 rfl) (lv_at hl 0 rfl) ?_
        refine x_bif_eq (tgt := 65) F.1 F.2.1 (dd D_X9_lineAt 27 rfl) rfl h (fun c31 h => ?_) (fun c31 h => ?_)
        · refine lv_iload_n F.1 F.2.1 (dd D_X9_lineAt 43 rfl) rfl (lv_at hl 3 rfl) ?_
          refine lv_istore_n (lv' := [(2, .int w2_L16), (4, .int (bI (F_X9_in (Int32.toInt64 p1) (Int32.toInt64 ((m_notch s (Int32.toNatClampNeg w3_L16)) (Int32.toNatClampNeg (0 : Int32)))) (Int32.toInt64 ((m_notch s (Int32.toNatClampNeg w3_L16)) (Int32.toNatClampNeg (1 : Int32))))))), (0, .ref (am 0)), (1, .int p1), (3, .int w3_L16)]) F.1 F.2.1 (dd D_X9_lineAt 44 rfl) rfl hl (Nat.le_of_ble_eq_true rfl) rfl (fun ls hl => ?_)
          refine lv_iinc (v := (w3_L16 + (1 : Int32))) (lv' := [(3, .int (w3_L16 + (1 : Int32))), (2, .int w2_L16), (4, .int (bI (F_X9_in (Int32.toInt64 p1) (Int32.toInt64 ((m_notch s (Int32.toNatClampNeg w3_L16)) (Int32.toNatClampNeg (0 : Int32)))) (Int32.toInt64 ((m_notch s (Int32.toNatClampNeg w3_L16)) (Int32.toNatClampNeg (1 : Int32))))))), (0, .ref (am 0)), (1, .int p1)]) F.1 F.2.1 (dd D_X9_lineAt 45 rfl) hl (k := 4) rfl (congrArg (fun z => w3_L16 + z) ki_1) (Nat.le_of_ble_eq_true rfl) rfl (fun ls hl => ?_)
          refine lv_goto (tgt := 4) F.1 F.2.1 (dd D_X9_lineAt 46 rfl) rfl ?_
          exact ih_L16 w2_L16 (w3_L16 + (1 : Int32)) ls (lv_sub hl [3, 4, 1, 0] rfl) h
        · refine lv_aload_n F.1 F.2.1 (dd D_X9_lineAt 28 rfl) rfl (lv_at hl 1 rfl) ?_
          refine getF F hK hP lf_X9_45 (0) (mp_0 cA am s) rfl (dd D_X9_lineAt 29 rfl) ?_
          refine lv_iload_n F.1 F.2.1 (dd D_X9_lineAt 30 rfl) rfl (lv_at hl 4 rfl) ?_
          refine aldA (g := fun j => am (20+j)) F hK hP (19) (mp_19 cA am s) 4 rfl (fun _ => rfl) h (dd D_X9_lineAt 31 rfl) (fun z24 h => ?_)
          have hk25 : (Int32.toNatClampNeg w3_L16) < 8 := inb_lt z24
          refine lv_iconst (v := (2 : Int32)) F.1 F.2.1 (dd D_X9_lineAt 32 rfl) ki_2 ?_
          refine aldI F hK hP (20+(Int32.toNatClampNeg w3_L16)) (mp_notch cA am s (Int32.toNatClampNeg w3_L16) hk25) h (dd D_X9_lineAt 33 rfl) (fun z26 h => ?_)
          refine lv_iload_n F.1 F.2.1 (dd D_X9_lineAt 34 rfl) rfl (lv_at hl 3 rfl) ?_
          refine x_icmp_le (tgt := 65) F.1 F.2.1 (dd D_X9_lineAt 35 rfl) rfl h (fun c27 h => ?_) (fun c27 h => ?_)
          · refine lv_iload_n F.1 F.2.1 (dd D_X9_lineAt 43 rfl) rfl (lv_at hl 3 rfl) ?_
            refine lv_istore_n (lv' := [(2, .int w2_L16), (4, .int (bI (F_X9_in (Int32.toInt64 p1) (Int32.toInt64 ((m_notch s (Int32.toNatClampNeg w3_L16)) (Int32.toNatClampNeg (0 : Int32)))) (Int32.toInt64 ((m_notch s (Int32.toNatClampNeg w3_L16)) (Int32.toNatClampNeg (1 : Int32))))))), (0, .ref (am 0)), (1, .int p1), (3, .int w3_L16)]) F.1 F.2.1 (dd D_X9_lineAt 44 rfl) rfl hl (Nat.le_of_ble_eq_true rfl) rfl (fun ls hl => ?_)
            refine lv_iinc (v := (w3_L16 + (1 : Int32))) (lv' := [(3, .int (w3_L16 + (1 : Int32))), (2, .int w2_L16), (4, .int (bI (F_X9_in (Int32.toInt64 p1) (Int32.toInt64 ((m_notch s (Int32.toNatClampNeg w3_L16)) (Int32.toNatClampNeg (0 : Int32)))) (Int32.toInt64 ((m_notch s (Int32.toNatClampNeg w3_L16)) (Int32.toNatClampNeg (1 : Int32))))))), (0, .ref (am 0)), (1, .int p1)]) F.1 F.2.1 (dd D_X9_lineAt 45 rfl) hl (k := 4) rfl (congrArg (fun z => w3_L16 + z) ki_1) (Nat.le_of_ble_eq_true rfl) rfl (fun ls hl => ?_)
            refine lv_goto (tgt := 4) F.1 F.2.1 (dd D_X9_lineAt 46 rfl) rfl ?_
            exact ih_L16 w2_L16 (w3_L16 + (1 : Int32)) ls (lv_sub hl [3, 4, 1, 0] rfl) h
          · refine lv_aload_n F.1 F.2.1 (dd D_X9_lineAt 36 rfl) rfl (lv_at hl 1 rfl) ?_
            refine getF F hK hP lf_X9_45 (0) (mp_0 cA am s) rfl (dd D_X9_lineAt 37 rfl) ?_
            refine lv_iload_n F.1 F.2.1 (dd D_X9_lineAt 38 rfl) rfl (lv_at hl 4 rfl) ?_
            refine aldA (g := fun j => am (20+j)) F hK hP (19) (mp_19 cA am s) 4 rfl (fun _ => rfl) h (dd D_X9_lineAt 39 rfl) (fun z28 h => ?_)
            have hk29 : (Int32.toNatClampNeg w3_L16) < 8 := inb_lt z28
            refine lv_iconst (v := (2 : Int32)) F.1 F.2.1 (dd D_X9_lineAt 40 rfl) ki_2 ?_
            refine aldI F hK hP (20+(Int32.toNatClampNeg w3_L16)) (mp_notch cA am s (Int32.toNatClampNeg w3_L16) hk29) h (dd D_X9_lineAt 41 rfl) (fun z30 h => ?_)
            refine lv_goto (tgt := 66) F.1 F.2.1 (dd D_X9_lineAt 42 rfl) rfl ?_
            refine lv_istore_n (lv' := [(2, .int ((m_notch s (Int32.toNatClampNeg w3_L16)) (Int32.toNatClampNeg (2 : Int32)))), (4, .int (bI (F_X9_in (Int32.toInt64 p1) (Int32.toInt64 ((m_notch s (Int32.toNatClampNeg w3_L16)) (Int32.toNatClampNeg (0 : Int32)))) (Int32.toInt64 ((m_notch s (Int32.toNatClampNeg w3_L16)) (Int32.toNatClampNeg (1 : Int32))))))), (0, .ref (am 0)), (1, .int p1), (3, .int w3_L16)]) F.1 F.2.1 (dd D_X9_lineAt 44 rfl) rfl hl (Nat.le_of_ble_eq_true rfl) rfl (fun ls hl => ?_)
            refine lv_iinc (v := (w3_L16 + (1 : Int32))) (lv' := [(3, .int (w3_L16 + (1 : Int32))), (2, .int ((m_notch s (Int32.toNatClampNeg w3_L16)) (Int32.toNatClampNeg (2 : Int32)))), (4, .int (bI (F_X9_in (Int32.toInt64 p1) (Int32.toInt64 ((m_notch s (Int32.toNatClampNeg w3_L16)) (Int32.toNatClampNeg (0 : Int32)))) (Int32.toInt64 ((m_notch s (Int32.toNatClampNeg w3_L16)) (Int32.toNatClampNeg (1 : Int32))))))), (0, .ref (am 0)), (1, .int p1)]) F.1 F.2.1 (dd D_X9_lineAt 45 rfl) hl (k := 4) rfl (congrArg (fun z => w3_L16 + z) ki_1) (Nat.le_of_ble_eq_true rfl) rfl (fun ls hl => ?_)
            refine lv_goto (tgt := 4) F.1 F.2.1 (dd D_X9_lineAt 46 rfl) rfl ?_
            exact ih_L16 ((m_notch s (Int32.toNatClampNeg w3_L16)) (Int32.toNatClampNeg (2 : Int32))) (w3_L16 + (1 : Int32)) ls (lv_sub hl [3, 4, 1, 0] rfl) h
  exact L16 n (0 : Int32) (0 : Int32) ls (lv_sub hl [2, 3, 1, 0] rfl) h
def F_X9_over_L8 (n : Nat) (u0 : MS) (v1 : Int32) (v2 : Int32) : Nat → Int32 → Option Int32
  | 0, _ => none
  | kf + 1, w3 => (((F_X9_lineAt n u0 (v2 + (w3 / (4 : Int32))))).bind fun r3 => (if r3 ≤ (w3 / (5 : Int32)) then some (w3) else F_X9_over_L8 n u0 v1 v2 kf (w3 + (1 : Int32))))
def F_X9_over (n : Nat) (s : MS) (p1 : Int32) : Option Int32 := (((F_X9_way n s p1)).bind fun r1 => F_X9_over_L8 n s p1 r1 n (0 : Int32))
set_option maxHeartbeats 4000000 in
set_option maxRecDepth 100000 in
theorem c_X9_over (D : va_G) (cA : Nat → ClassId) (am : Nat → Nat) (s : MS) (n : Nat) (p1 : Int32) (r : Int32) (h : F_X9_over n s p1 = some r) : RO m_X9_over 3 D cA [.ref (am 0), .int p1] (mW cA am s) (some (.int r)) := by
  refine RO.ofW gy_X9_over.2.2 (Nat.le_of_ble_eq_true rfl) ?_
  intro l p e sM m below meth c F hr hlk hK hP hS hAb ls hl
  have hl : lv_has ls 4 [(0, .ref (am 0)), (1, .int p1)] := hl
  unfold F_X9_over at h
  refine lv_aload_n F.1 F.2.1 (dd D_X9_over 0 rfl) rfl (lv_at hl 0 rfl) ?_
  refine lv_iload_n F.1 F.2.1 (dd D_X9_over 1 rfl) rfl (lv_at hl 1 rfl) ?_
  obtain ⟨r1, e2, h⟩ := Option.bind_eq_some_iff.mp h
  refine ro_go (st' := [.int r1]) (rV (rest := []) F (c_X9_way D cA am s n p1 r1 e2 l) lk_X9_239 (Nat.le_of_ble_eq_true rfl) (preRO hK hS hAb hP) (rcv_9 hK hP (q0 := (0)) (mp_0 cA am s)) rfl hl rfl (Nat.le_of_ble_eq_true rfl) (dd D_X9_over 2 rfl) ⟨Nat.le_of_ble_eq_true rfl, Nat.le_of_ble_eq_true rfl⟩) rfl ?_
  refine lv_istore_n (lv' := [(2, .int r1), (0, .ref (am 0)), (1, .int p1)]) F.1 F.2.1 (dd D_X9_over 3 rfl) rfl hl (Nat.le_of_ble_eq_true rfl) rfl (fun ls hl => ?_)
  refine lv_iconst (v := (0 : Int32)) F.1 F.2.1 (dd D_X9_over 4 rfl) ki_0 ?_
  refine lv_istore_n (lv' := [(3, .int (0 : Int32)), (2, .int r1), (0, .ref (am 0)), (1, .int p1)]) F.1 F.2.1 (dd D_X9_over 5 rfl) rfl hl (Nat.le_of_ble_eq_true rfl) rfl (fun ls hl => ?_)
  have L6 : ∀ (kf : Nat) (w3_L6 : Int32) (ls : Array Slot), lv_has ls 4 [(0, .ref (am 0)), (1, .int p1), (2, .int r1), (3, .int w3_L6)] → F_X9_over_L8 n s p1 r1 kf w3_L6 = some r → Wro 3 (some (.int r)) p l e sM m ([.ref (am 0), .int p1] : List Value).toArray below meth c 8 ls [] := by
    intro kf
    induction kf with
    | zero =>
      intro w3_L6 ls hl h
      cases (show none = some r from h)
    | succ k_L6 ih_L6 =>
      intro w3_L6 ls hl h
      unfold F_X9_over_L8 at h
      refine lv_iload_n F.1 F.2.1 (dd D_X9_over 6 rfl) rfl (lv_at hl 3 rfl) ?_
      refine lv_iconst (v := (5 : Int32)) F.1 F.2.1 (dd D_X9_over 7 rfl) ki_5 ?_
      refine lv_idiv F.1 F.2.1 (dd D_X9_over 8 rfl) kd_5 ?_
      refine lv_aload_n F.1 F.2.1 (dd D_X9_over 9 rfl) rfl (lv_at hl 0 rfl) ?_
      refine lv_iload_n F.1 F.2.1 (dd D_X9_over 10 rfl) rfl (lv_at hl 2 rfl) ?_
      refine lv_iload_n F.1 F.2.1 (dd D_X9_over 11 rfl) rfl (lv_at hl 3 rfl) ?_
      refine lv_iconst (v := (4 : Int32)) F.1 F.2.1 (dd D_X9_over 12 rfl) ki_4 ?_
      refine lv_idiv F.1 F.2.1 (dd D_X9_over 13 rfl) kd_4 ?_
      refine lv_iadd F.1 F.2.1 (dd D_X9_over 14 rfl) ?_
      obtain ⟨r7, e8, h⟩ := Option.bind_eq_some_iff.mp h
      refine ro_go (st' := [.int r7, .int (w3_L6 / (5 : Int32))]) (rV (rest := [.int (w3_L6 / (5 : Int32))]) F (c_X9_lineAt D cA am s n (r1 + (w3_L6 / (4 : Int32))) r7 e8 l) lk_X9_236 (Nat.le_of_ble_eq_true rfl) (preRO hK hS hAb hP) (rcv_9 hK hP (q0 := (0)) (mp_0 cA am s)) rfl hl rfl (Nat.le_of_ble_eq_true rfl) (dd D_X9_over 15 rfl) ⟨Nat.le_of_ble_eq_true rfl, Nat.le_of_ble_eq_true rfl⟩) rfl ?_
      refine x_icmp_ge (tgt := 29) F.1 F.2.1 (dd D_X9_over 16 rfl) rfl h (fun c9 h => ?_) (fun c9 h => ?_)
      · refine lv_iload_n F.1 F.2.1 (dd D_X9_over 19 rfl) rfl (lv_at hl 3 rfl) ?_
        exact ro_i (R := rmOf 3 0 0) F hr hlk (congrArg (Option.map Value.int) h) (dd D_X9_over 20 rfl)
      · refine lv_iinc (v := (w3_L6 + (1 : Int32))) (lv' := [(3, .int (w3_L6 + (1 : Int32))), (0, .ref (am 0)), (1, .int p1), (2, .int r1)]) F.1 F.2.1 (dd D_X9_over 17 rfl) hl (k := 3) rfl (congrArg (fun z => w3_L6 + z) ki_1) (Nat.le_of_ble_eq_true rfl) rfl (fun ls hl => ?_)
        refine lv_goto (tgt := 8) F.1 F.2.1 (dd D_X9_over 18 rfl) rfl ?_
        exact ih_L6 (w3_L6 + (1 : Int32)) ls (lv_sub hl [1, 2, 3, 0] rfl) h
  exact L6 n (0 : Int32) ls (lv_sub hl [2, 3, 1, 0] rfl) h
def F_X9_up (n : Nat) (s : MS) (p1 : Int32) : Option Int32 := (((F_X9_rise n s p1)).bind fun r1 => (((F_X9_over n s p1)).bind fun r3 => some ((jrem (r1 + r3) (1440 : Int32)))))
set_option maxHeartbeats 4000000 in
set_option maxRecDepth 100000 in
theorem c_X9_up (D : va_G) (cA : Nat → ClassId) (am : Nat → Nat) (s : MS) (n : Nat) (p1 : Int32) (r : Int32) (h : F_X9_up n s p1 = some r) : RO m_X9_up 4 D cA [.ref (am 0), .int p1] (mW cA am s) (some (.int r)) := by
  refine RO.ofW gy_X9_up.2.2 (Nat.le_of_ble_eq_true rfl) ?_
  intro l p e sM m below meth c F hr hlk hK hP hS hAb ls hl
  have hl : lv_has ls 2 [(0, .ref (am 0)), (1, .int p1)] := hl
  unfold F_X9_up at h
  refine lv_aload_n F.1 F.2.1 (dd D_X9_up 0 rfl) rfl (lv_at hl 0 rfl) ?_
  refine lv_iload_n F.1 F.2.1 (dd D_X9_up 1 rfl) rfl (lv_at hl 1 rfl) ?_
  obtain ⟨r1, e2, h⟩ := Option.bind_eq_some_iff.mp h
  refine ro_go (st' := [.int r1]) (rV (rest := []) F (c_X9_rise D cA am s n p1 r1 e2 l) lk_X9_242 (Nat.le_of_ble_eq_true rfl) (preRO hK hS hAb hP) (rcv_9 hK hP (q0 := (0)) (mp_0 cA am s)) rfl hl rfl (Nat.le_of_ble_eq_true rfl) (dd D_X9_up 2 rfl) ⟨Nat.le_of_ble_eq_true rfl, Nat.le_of_ble_eq_true rfl⟩) rfl ?_
  refine lv_aload_n F.1 F.2.1 (dd D_X9_up 3 rfl) rfl (lv_at hl 0 rfl) ?_
  refine lv_iload_n F.1 F.2.1 (dd D_X9_up 4 rfl) rfl (lv_at hl 1 rfl) ?_
  obtain ⟨r3, e4, h⟩ := Option.bind_eq_some_iff.mp h
  refine ro_go (st' := [.int r3, .int r1]) (rV (rest := [.int r1]) F (c_X9_over D cA am s n p1 r3 e4 l) lk_X9_245 (Nat.le_of_ble_eq_true rfl) (preRO hK hS hAb hP) (rcv_9 hK hP (q0 := (0)) (mp_0 cA am s)) rfl hl rfl (Nat.le_of_ble_eq_true rfl) (dd D_X9_up 5 rfl) ⟨Nat.le_of_ble_eq_true rfl, Nat.le_of_ble_eq_true rfl⟩) rfl ?_
  refine lv_iadd F.1 F.2.1 (dd D_X9_up 6 rfl) ?_
  refine lv_sipush (v := (1440 : Int32)) F.1 F.2.1 (dd D_X9_up 7 rfl) ks_1440 ?_
  refine x_irem F.1 F.2.1 (dd D_X9_up 8 rfl) kd_1440 ?_
  exact ro_i (R := rmOf 4 0 0) F hr hlk (congrArg (Option.map Value.int) h) (dd D_X9_up 9 rfl)
def F_X9_later (n : Nat) (s : MS) (p1 : Int32) : Option Int32 := (((F_X9_up n s (p1 + (1 : Int32)))).bind fun r1 => (((F_X9_up n s p1)).bind fun r3 => some ((F_X9_mod (r1 - r3) (1440 : Int32)))))
set_option maxHeartbeats 4000000 in
set_option maxRecDepth 100000 in
theorem c_X9_later (D : va_G) (cA : Nat → ClassId) (am : Nat → Nat) (s : MS) (n : Nat) (p1 : Int32) (r : Int32) (h : F_X9_later n s p1 = some r) : RO m_X9_later 5 D cA [.ref (am 0), .int p1] (mW cA am s) (some (.int r)) := by
  refine RO.ofW gy_X9_later.2.2 (Nat.le_of_ble_eq_true rfl) ?_
  intro l p e sM m below meth c F hr hlk hK hP hS hAb ls hl
  have hl : lv_has ls 2 [(0, .ref (am 0)), (1, .int p1)] := hl
  unfold F_X9_later at h
  refine lv_aload_n F.1 F.2.1 (dd D_X9_later 0 rfl) rfl (lv_at hl 0 rfl) ?_
  refine lv_iload_n F.1 F.2.1 (dd D_X9_later 1 rfl) rfl (lv_at hl 1 rfl) ?_
  refine lv_iconst (v := (1 : Int32)) F.1 F.2.1 (dd D_X9_later 2 rfl) ki_1 ?_
  refine lv_iadd F.1 F.2.1 (dd D_X9_later 3 rfl) ?_
  obtain ⟨r1, e2, h⟩ := Option.bind_eq_some_iff.mp h
  refine ro_go (st' := [.int r1]) (rV (rest := []) F (c_X9_up D cA am s n (p1 + (1 : Int32)) r1 e2 l) lk_X9_248 (Nat.le_of_ble_eq_true rfl) (preRO hK hS hAb hP) (rcv_9 hK hP (q0 := (0)) (mp_0 cA am s)) rfl hl rfl (Nat.le_of_ble_eq_true rfl) (dd D_X9_later 4 rfl) ⟨Nat.le_of_ble_eq_true rfl, Nat.le_of_ble_eq_true rfl⟩) rfl ?_
  refine lv_aload_n F.1 F.2.1 (dd D_X9_later 5 rfl) rfl (lv_at hl 0 rfl) ?_
  refine lv_iload_n F.1 F.2.1 (dd D_X9_later 6 rfl) rfl (lv_at hl 1 rfl) ?_
  obtain ⟨r3, e4, h⟩ := Option.bind_eq_some_iff.mp h
  refine ro_go (st' := [.int r3, .int r1]) (rV (rest := [.int r1]) F (c_X9_up D cA am s n p1 r3 e4 l) lk_X9_248 (Nat.le_of_ble_eq_true rfl) (preRO hK hS hAb hP) (rcv_9 hK hP (q0 := (0)) (mp_0 cA am s)) rfl hl rfl (Nat.le_of_ble_eq_true rfl) (dd D_X9_later 7 rfl) ⟨Nat.le_of_ble_eq_true rfl, Nat.le_of_ble_eq_true rfl⟩) rfl ?_
  refine lv_isub F.1 F.2.1 (dd D_X9_later 8 rfl) ?_
  refine lv_sipush (v := (1440 : Int32)) F.1 F.2.1 (dd D_X9_later 9 rfl) ks_1440 ?_
  refine ro_go (st' := [.int (F_X9_mod (r1 - r3) (1440 : Int32))]) (rS (rest := []) F (c_X9_mod D cA (r1 - r3) (1440 : Int32) kd_1440 l) lk_X9_230 (Nat.le_of_ble_eq_true rfl) (preRO hK hS hAb (emP)) rfl hl rfl (Nat.le_of_ble_eq_true rfl) (dd D_X9_later 10 rfl) ⟨Nat.le_of_ble_eq_true rfl, Nat.le_of_ble_eq_true rfl⟩) rfl ?_
  exact ro_i (R := rmOf 5 0 0) F hr hlk (congrArg (Option.map Value.int) h) (dd D_X9_later 11 rfl)
def F_X9_shinesIn_L13 (n : Nat) (u0 : MS) (v1 : Int32) (v2 : Int32) (v3 : Int32) (v4 : Int32) : Nat → Int32 → Int32 → Option Int32
  | 0, _, _ => none
  | kf + 1, w5, w6 => (if v3 < w6 then some (w5) else (if (600 : Int32) ≤ (F_X9_mod (w6 - v4) (1440 : Int32)) then F_X9_shinesIn_L13 n u0 v1 v2 v3 v4 kf (w5 + (0 : Int32)) (w6 + (1 : Int32)) else F_X9_shinesIn_L13 n u0 v1 v2 v3 v4 kf (w5 + (1 : Int32)) (w6 + (1 : Int32))))
def F_X9_shinesIn (n : Nat) (s : MS) (p1 : Int32) (p2 : Int32) (p3 : Int32) : Option Int32 := (((F_X9_up n s p1)).bind fun r1 => F_X9_shinesIn_L13 n s p1 p2 p3 r1 n (0 : Int32) p2)
set_option maxHeartbeats 4000000 in
set_option maxRecDepth 100000 in
theorem c_X9_shinesIn (D : va_G) (cA : Nat → ClassId) (am : Nat → Nat) (s : MS) (n : Nat) (p1 : Int32) (p2 : Int32) (p3 : Int32) (r : Int32) (h : F_X9_shinesIn n s p1 p2 p3 = some r) : RO m_X9_shinesIn 5 D cA [.ref (am 0), .int p1, .int p2, .int p3] (mW cA am s) (some (.int r)) := by
  refine RO.ofW gy_X9_shinesIn.2.2 (Nat.le_of_ble_eq_true rfl) ?_
  intro l p e sM m below meth c F hr hlk hK hP hS hAb ls hl
  have hl : lv_has ls 7 [(0, .ref (am 0)), (1, .int p1), (2, .int p2), (3, .int p3)] := hl
  unfold F_X9_shinesIn at h
  refine lv_aload_n F.1 F.2.1 (dd D_X9_shinesIn 0 rfl) rfl (lv_at hl 0 rfl) ?_
  refine lv_iload_n F.1 F.2.1 (dd D_X9_shinesIn 1 rfl) rfl (lv_at hl 1 rfl) ?_
  obtain ⟨r1, e2, h⟩ := Option.bind_eq_some_iff.mp h
  refine ro_go (st' := [.int r1]) (rV (rest := []) F (c_X9_up D cA am s n p1 r1 e2 l) lk_X9_248 (Nat.le_of_ble_eq_true rfl) (preRO hK hS hAb hP) (rcv_9 hK hP (q0 := (0)) (mp_0 cA am s)) rfl hl rfl (Nat.le_of_ble_eq_true rfl) (dd D_X9_shinesIn 2 rfl) ⟨Nat.le_of_ble_eq_true rfl, Nat.le_of_ble_eq_true rfl⟩) rfl ?_
  refine lv_istore (lv' := [(4, .int r1), (0, .ref (am 0)), (1, .int p1), (2, .int p2), (3, .int p3)]) F.1 F.2.1 (dd D_X9_shinesIn 3 rfl) hl (Nat.le_of_ble_eq_true rfl) rfl (fun ls hl => ?_)
  refine lv_iconst (v := (0 : Int32)) F.1 F.2.1 (dd D_X9_shinesIn 4 rfl) ki_0 ?_
  refine lv_istore (lv' := [(5, .int (0 : Int32)), (4, .int r1), (0, .ref (am 0)), (1, .int p1), (2, .int p2), (3, .int p3)]) F.1 F.2.1 (dd D_X9_shinesIn 5 rfl) hl (Nat.le_of_ble_eq_true rfl) rfl (fun ls hl => ?_)
  refine lv_iload_n F.1 F.2.1 (dd D_X9_shinesIn 6 rfl) rfl (lv_at hl 4 rfl) ?_
  refine lv_istore (lv' := [(6, .int p2), (5, .int (0 : Int32)), (4, .int r1), (0, .ref (am 0)), (1, .int p1), (2, .int p2), (3, .int p3)]) F.1 F.2.1 (dd D_X9_shinesIn 7 rfl) hl (Nat.le_of_ble_eq_true rfl) rfl (fun ls hl => ?_)
  have L5 : ∀ (kf : Nat) (w5_L5 : Int32) (w6_L5 : Int32) (ls : Array Slot), lv_has ls 7 [(0, .ref (am 0)), (1, .int p1), (2, .int p2), (3, .int p3), (4, .int r1), (5, .int w5_L5), (6, .int w6_L5)] → F_X9_shinesIn_L13 n s p1 p2 p3 r1 kf w5_L5 w6_L5 = some r → Wro 5 (some (.int r)) p l e sM m ([.ref (am 0), .int p1, .int p2, .int p3] : List Value).toArray below meth c 13 ls [] := by
    intro kf
    induction kf with
    | zero =>
      intro w5_L5 w6_L5 ls hl h
      cases (show none = some r from h)
    | succ k_L5 ih_L5 =>
      intro w5_L5 w6_L5 ls hl h
      unfold F_X9_shinesIn_L13 at h
      refine lv_iload F.1 F.2.1 (dd D_X9_shinesIn 8 rfl) (lv_at hl 6 rfl) ?_
      refine lv_iload_n F.1 F.2.1 (dd D_X9_shinesIn 9 rfl) rfl (lv_at hl 3 rfl) ?_
      refine x_icmp_gt (tgt := 52) F.1 F.2.1 (dd D_X9_shinesIn 10 rfl) rfl h (fun c6 h => ?_) (fun c6 h => ?_)
      · refine lv_iload F.1 F.2.1 (dd D_X9_shinesIn 26 rfl) (lv_at hl 5 rfl) ?_
        exact ro_i (R := rmOf 5 0 0) F hr hlk (congrArg (Option.map Value.int) h) (dd D_X9_shinesIn 27 rfl)
      · refine lv_iload F.1 F.2.1 (dd D_X9_shinesIn 11 rfl) (lv_at hl 5 rfl) ?_
        refine lv_iload F.1 F.2.1 (dd D_X9_shinesIn 12 rfl) (lv_at hl 6 rfl) ?_
        refine lv_iload F.1 F.2.1 (dd D_X9_shinesIn 13 rfl) (lv_at hl 4 rfl) ?_
        refine lv_isub F.1 F.2.1 (dd D_X9_shinesIn 14 rfl) ?_
        refine lv_sipush (v := (1440 : Int32)) F.1 F.2.1 (dd D_X9_shinesIn 15 rfl) ks_1440 ?_
        refine ro_go (st' := [.int (F_X9_mod (w6_L5 - r1) (1440 : Int32)), .int w5_L5]) (rS (rest := [.int w5_L5]) F (c_X9_mod D cA (w6_L5 - r1) (1440 : Int32) kd_1440 l) lk_X9_230 (Nat.le_of_ble_eq_true rfl) (preRO hK hS hAb (emP)) rfl hl rfl (Nat.le_of_ble_eq_true rfl) (dd D_X9_shinesIn 16 rfl) ⟨Nat.le_of_ble_eq_true rfl, Nat.le_of_ble_eq_true rfl⟩) rfl ?_
        refine lv_sipush (v := (600 : Int32)) F.1 F.2.1 (dd D_X9_shinesIn 17 rfl) ks_600 ?_
        refine x_icmp_ge (tgt := 42) F.1 F.2.1 (dd D_X9_shinesIn 18 rfl) rfl h (fun c7 h => ?_) (fun c7 h => ?_)
        · refine lv_iconst (v := (0 : Int32)) F.1 F.2.1 (dd D_X9_shinesIn 21 rfl) ki_0 ?_
          refine lv_iadd F.1 F.2.1 (dd D_X9_shinesIn 22 rfl) ?_
          refine lv_istore (lv' := [(5, .int (w5_L5 + (0 : Int32))), (0, .ref (am 0)), (1, .int p1), (2, .int p2), (3, .int p3), (4, .int r1), (6, .int w6_L5)]) F.1 F.2.1 (dd D_X9_shinesIn 23 rfl) hl (Nat.le_of_ble_eq_true rfl) rfl (fun ls hl => ?_)
          refine lv_iinc (v := (w6_L5 + (1 : Int32))) (lv' := [(6, .int (w6_L5 + (1 : Int32))), (5, .int (w5_L5 + (0 : Int32))), (0, .ref (am 0)), (1, .int p1), (2, .int p2), (3, .int p3), (4, .int r1)]) F.1 F.2.1 (dd D_X9_shinesIn 24 rfl) hl (k := 6) rfl (congrArg (fun z => w6_L5 + z) ki_1) (Nat.le_of_ble_eq_true rfl) rfl (fun ls hl => ?_)
          refine lv_goto (tgt := 13) F.1 F.2.1 (dd D_X9_shinesIn 25 rfl) rfl ?_
          exact ih_L5 (w5_L5 + (0 : Int32)) (w6_L5 + (1 : Int32)) ls (lv_sub hl [2, 3, 4, 5, 6, 1, 0] rfl) h
        · refine lv_iconst (v := (1 : Int32)) F.1 F.2.1 (dd D_X9_shinesIn 19 rfl) ki_1 ?_
          refine lv_goto (tgt := 43) F.1 F.2.1 (dd D_X9_shinesIn 20 rfl) rfl ?_
          refine lv_iadd F.1 F.2.1 (dd D_X9_shinesIn 22 rfl) ?_
          refine lv_istore (lv' := [(5, .int (w5_L5 + (1 : Int32))), (0, .ref (am 0)), (1, .int p1), (2, .int p2), (3, .int p3), (4, .int r1), (6, .int w6_L5)]) F.1 F.2.1 (dd D_X9_shinesIn 23 rfl) hl (Nat.le_of_ble_eq_true rfl) rfl (fun ls hl => ?_)
          refine lv_iinc (v := (w6_L5 + (1 : Int32))) (lv' := [(6, .int (w6_L5 + (1 : Int32))), (5, .int (w5_L5 + (1 : Int32))), (0, .ref (am 0)), (1, .int p1), (2, .int p2), (3, .int p3), (4, .int r1)]) F.1 F.2.1 (dd D_X9_shinesIn 24 rfl) hl (k := 6) rfl (congrArg (fun z => w6_L5 + z) ki_1) (Nat.le_of_ble_eq_true rfl) rfl (fun ls hl => ?_)
          refine lv_goto (tgt := 13) F.1 F.2.1 (dd D_X9_shinesIn 25 rfl) rfl ?_
          exact ih_L5 (w5_L5 + (1 : Int32)) (w6_L5 + (1 : Int32)) ls (lv_sub hl [2, 3, 4, 5, 6, 1, 0] rfl) h
  exact L5 n (0 : Int32) p2 ls (lv_sub hl [3, 4, 5, 6, 2, 1, 0] rfl) h
def F_X9_says (n : Nat) (s : MS) (p1 : Int32) (p2 : Int32) : Option (Int32 × MS) := bf (F_X9_in (Int32.toInt64 p1) (0 : Int64) (7 : Int64)) (bf (F_X9_in (Int32.toInt64 p2) (0 : Int64) (5 : Int64)) (gd (inb p1 8) ((if ((m_shelf s) (Int32.toNatClampNeg p1)) = (1 : Int32) then (((F_X9_refuse n s (-3 : Int32))).bind fun r5 => some (r5.1, r5.2)) else gd (inb p1 8) ((if ((m_shelf s) (Int32.toNatClampNeg p1)) = (2 : Int32) then gd (inb p1 8) (bf (F_X9_isUnder ((m_eveKind s) (Int32.toNatClampNeg p1)) p2) (gd (inb p1 8) ((if ((m_shelf s) (Int32.toNatClampNeg p1)) = 0 then (((F_X9_refuse n s (-4 : Int32))).bind fun r44 => some (r44.1, r44.2)) else gd (inb p1 8) ((if p2 = (0 : Int32) then some (((m_eveDay s) (Int32.toNatClampNeg p1)), s) else (if p2 = (1 : Int32) then (((F_X9_age n s ((m_eveDay s) (Int32.toNatClampNeg p1)))).bind fun r32 => (if 0 ≤ (r32 - (1476 : Int32)) then some ((r32 - (1476 : Int32)), s) else some ((-(r32 - (1476 : Int32))), s))) else (if p2 = (2 : Int32) then (if ((m_eveDay s) (Int32.toNatClampNeg p1)) = (9999 : Int32) then some ((0 : Int32), s) else (((F_X9_later n s ((m_eveDay s) (Int32.toNatClampNeg p1)))).bind fun r36 => some (r36, s))) else (if p2 = (3 : Int32) then (((F_X9_out n s ((m_eveDay s) (Int32.toNatClampNeg p1)))).bind fun r38 => some (((28 : Int32) - r38), s)) else (if p2 = (4 : Int32) then (((F_X9_age n s ((m_eveDay s) (Int32.toNatClampNeg p1)))).bind fun r40 => some (r40, s)) else (((F_X9_shinesIn n s ((m_eveDay s) (Int32.toNatClampNeg p1)) (1320 : Int32) (1439 : Int32))).bind fun r42 => some (r42, s))))))))))) ((((F_X9_refuse n s (-3 : Int32))).bind fun r46 => some (r46.1, r46.2)))) else gd (inb p1 8) ((if ((m_shelf s) (Int32.toNatClampNeg p1)) = 0 then (((F_X9_refuse n s (-4 : Int32))).bind fun r25 => some (r25.1, r25.2)) else gd (inb p1 8) ((if p2 = (0 : Int32) then some (((m_eveDay s) (Int32.toNatClampNeg p1)), s) else (if p2 = (1 : Int32) then (((F_X9_age n s ((m_eveDay s) (Int32.toNatClampNeg p1)))).bind fun r13 => (if 0 ≤ (r13 - (1476 : Int32)) then some ((r13 - (1476 : Int32)), s) else some ((-(r13 - (1476 : Int32))), s))) else (if p2 = (2 : Int32) then (if ((m_eveDay s) (Int32.toNatClampNeg p1)) = (9999 : Int32) then some ((0 : Int32), s) else (((F_X9_later n s ((m_eveDay s) (Int32.toNatClampNeg p1)))).bind fun r17 => some (r17, s))) else (if p2 = (3 : Int32) then (((F_X9_out n s ((m_eveDay s) (Int32.toNatClampNeg p1)))).bind fun r19 => some (((28 : Int32) - r19), s)) else (if p2 = (4 : Int32) then (((F_X9_age n s ((m_eveDay s) (Int32.toNatClampNeg p1)))).bind fun r21 => some (r21, s)) else (((F_X9_shinesIn n s ((m_eveDay s) (Int32.toNatClampNeg p1)) (1320 : Int32) (1439 : Int32))).bind fun r23 => some (r23, s))))))))))))))) ((((F_X9_refuse n s (-2 : Int32))).bind fun r49 => some (r49.1, r49.2)))) ((((F_X9_refuse n s (-2 : Int32))).bind fun r1 => some (r1.1, r1.2)))
set_option maxHeartbeats 4000000 in
set_option maxRecDepth 100000 in
theorem c_X9_says (D : va_G) (cA : Nat → ClassId) (am : Nat → Nat) (s : MS) (n : Nat) (p1 : Int32) (p2 : Int32) (r : (Int32 × MS)) (h : F_X9_says n s p1 p2 = some r) : RW m_X9_says 6 0 0 D cA [.ref (am 0), .int p1, .int p2] (mW cA am s) (exq (some (.int r.1)) (mW cA am r.2)) := by
  refine RW.ofW gy_X9_says.2.2 (Nat.le_of_ble_eq_true rfl) ?_
  intro l p e sM m below meth c A H locs F hr hlk hnm hK hP hD hS hA hAb ls hl
  have hl : lv_has ls 5 [(0, .ref (am 0)), (1, .int p1), (2, .int p2)] := hl
  unfold F_X9_says at h
  refine lv_iload_n F.1 F.2.1 (dd D_X9_says 0 rfl) rfl (lv_at hl 1 rfl) ?_
  refine lv_i2l (v := (Int32.toInt64 p1)) F.1 F.2.1 (dd D_X9_says 1 rfl) rfl ?_
  refine lv_lconst (v := (0 : Int64)) F.1 F.2.1 (dd D_X9_says 2 rfl) kl_0 ?_
  refine lv_ldc2 (own := RX9) (v := (7 : Int64)) F.1 F.2.1 F.2.2.2.1 (F.2.2.2.2 _ (kL_X9_73)) (dd D_X9_says 3 rfl) ?_
  refine ro_go (st' := [.int (bI (F_X9_in (Int32.toInt64 p1) (0 : Int64) (7 : Int64)))]) (rS (rest := []) F (c_X9_in D cA (Int32.toInt64 p1) (0 : Int64) (7 : Int64) l) lk_X9_63 (Nat.le_of_ble_eq_true rfl) (preRO hK hS hAb (emP)) rfl hl rfl (Nat.le_of_ble_eq_true rfl) (dd D_X9_says 4 rfl) ⟨Nat.le_of_ble_eq_true rfl, Nat.le_of_ble_eq_true rfl⟩) rfl ?_
  refine x_bif_eq (tgt := 24) F.1 F.2.1 (dd D_X9_says 5 rfl) rfl h (fun c52 h => ?_) (fun c52 h => ?_)
  · refine lv_aload_n F.1 F.2.1 (dd D_X9_says 12 rfl) rfl (lv_at hl 0 rfl) ?_
    refine lv_bipush (v := (-2 : Int32)) F.1 F.2.1 (dd D_X9_says 13 rfl) kb_m2 ?_
    obtain ⟨r1, e2, h⟩ := Option.bind_eq_some_iff.mp h
    refine rwe_all (st' := [.int r1.1]) hD hS hA (rV (rest := []) F (c_X9_refuse D cA am s n (-2 : Int32) r1 e2 l H.size) lk_X9_79 (Nat.le_of_ble_eq_true rfl) (preRW hK hS hAb hP hD) (rcv_9 hK hP (q0 := (0)) (mp_0 cA am s)) rfl hl rfl (Nat.le_of_ble_eq_true rfl) (dd D_X9_says 14 rfl) ⟨Nat.le_of_ble_eq_true rfl, Nat.le_of_ble_eq_true rfl⟩) rfl (fun H locs hP hD hS => ?_)
    obtain rfl := Option.some.inj h
    exact rw_i (R := rmOf 6 0 0) F hP hD hS hr hlk ⟨Nat.le_of_ble_eq_true rfl, Nat.le_of_ble_eq_true rfl⟩ ⟨rfl, rfl⟩ (dd D_X9_says 15 rfl)
  · refine lv_iload_n F.1 F.2.1 (dd D_X9_says 6 rfl) rfl (lv_at hl 2 rfl) ?_
    refine lv_i2l (v := (Int32.toInt64 p2)) F.1 F.2.1 (dd D_X9_says 7 rfl) rfl ?_
    refine lv_lconst (v := (0 : Int64)) F.1 F.2.1 (dd D_X9_says 8 rfl) kl_0 ?_
    refine lv_ldc2 (own := RX9) (v := (5 : Int64)) F.1 F.2.1 F.2.2.2.1 (F.2.2.2.2 _ (kL_X9_90)) (dd D_X9_says 9 rfl) ?_
    refine ro_go (st' := [.int (bI (F_X9_in (Int32.toInt64 p2) (0 : Int64) (5 : Int64)))]) (rS (rest := []) F (c_X9_in D cA (Int32.toInt64 p2) (0 : Int64) (5 : Int64) l) lk_X9_63 (Nat.le_of_ble_eq_true rfl) (preRO hK hS hAb (emP)) rfl hl rfl (Nat.le_of_ble_eq_true rfl) (dd D_X9_says 10 rfl) ⟨Nat.le_of_ble_eq_true rfl, Nat.le_of_ble_eq_true rfl⟩) rfl ?_
    refine x_bif_ne (tgt := 31) F.1 F.2.1 (dd D_X9_says 11 rfl) rfl h (fun c51 h => ?_) (fun c51 h => ?_)
    · refine lv_aload_n F.1 F.2.1 (dd D_X9_says 16 rfl) rfl (lv_at hl 0 rfl) ?_
      refine getF F hK hP lf_X9_7 (0) (mp_0 cA am s) rfl (dd D_X9_says 17 rfl) ?_
      refine lv_iload_n F.1 F.2.1 (dd D_X9_says 18 rfl) rfl (lv_at hl 1 rfl) ?_
      refine aldI F hK hP (1) (mp_1 cA am s) h (dd D_X9_says 19 rfl) (fun z3 h => ?_)
      refine lv_iconst (v := (1 : Int32)) F.1 F.2.1 (dd D_X9_says 20 rfl) ki_1 ?_
      refine x_icmp_eq (tgt := 64) F.1 F.2.1 (dd D_X9_says 21 rfl) rfl h (fun c4 h => ?_) (fun c4 h => ?_)
      · refine lv_aload_n F.1 F.2.1 (dd D_X9_says 35 rfl) rfl (lv_at hl 0 rfl) ?_
        refine lv_bipush (v := (-3 : Int32)) F.1 F.2.1 (dd D_X9_says 36 rfl) kb_m3 ?_
        obtain ⟨r5, e6, h⟩ := Option.bind_eq_some_iff.mp h
        refine rwe_all (st' := [.int r5.1]) hD hS hA (rV (rest := []) F (c_X9_refuse D cA am s n (-3 : Int32) r5 e6 l H.size) lk_X9_79 (Nat.le_of_ble_eq_true rfl) (preRW hK hS hAb hP hD) (rcv_9 hK hP (q0 := (0)) (mp_0 cA am s)) rfl hl rfl (Nat.le_of_ble_eq_true rfl) (dd D_X9_says 37 rfl) ⟨Nat.le_of_ble_eq_true rfl, Nat.le_of_ble_eq_true rfl⟩) rfl (fun H locs hP hD hS => ?_)
        obtain rfl := Option.some.inj h
        exact rw_i (R := rmOf 6 0 0) F hP hD hS hr hlk ⟨Nat.le_of_ble_eq_true rfl, Nat.le_of_ble_eq_true rfl⟩ ⟨rfl, rfl⟩ (dd D_X9_says 38 rfl)
      · refine lv_aload_n F.1 F.2.1 (dd D_X9_says 22 rfl) rfl (lv_at hl 0 rfl) ?_
        refine getF F hK hP lf_X9_7 (0) (mp_0 cA am s) rfl (dd D_X9_says 23 rfl) ?_
        refine lv_iload_n F.1 F.2.1 (dd D_X9_says 24 rfl) rfl (lv_at hl 1 rfl) ?_
        refine aldI F hK hP (1) (mp_1 cA am s) h (dd D_X9_says 25 rfl) (fun z7 h => ?_)
        refine lv_iconst (v := (2 : Int32)) F.1 F.2.1 (dd D_X9_says 26 rfl) ki_2 ?_
        refine x_icmp_ne (tgt := 71) F.1 F.2.1 (dd D_X9_says 27 rfl) rfl h (fun c8 h => ?_) (fun c8 h => ?_)
        · refine lv_aload_n F.1 F.2.1 (dd D_X9_says 39 rfl) rfl (lv_at hl 0 rfl) ?_
          refine getF F hK hP lf_X9_7 (0) (mp_0 cA am s) rfl (dd D_X9_says 40 rfl) ?_
          refine lv_iload_n F.1 F.2.1 (dd D_X9_says 41 rfl) rfl (lv_at hl 1 rfl) ?_
          refine aldI F hK hP (1) (mp_1 cA am s) h (dd D_X9_says 42 rfl) (fun z9 h => ?_)
          refine x_if_ne (tgt := 87) F.1 F.2.1 (dd D_X9_says 43 rfl) rfl h (fun c10 h => ?_) (fun c10 h => ?_)
          · refine lv_aload_n F.1 F.2.1 (dd D_X9_says 48 rfl) rfl (lv_at hl 0 rfl) ?_
            refine getF F hK hP lf_X9_31 (0) (mp_0 cA am s) rfl (dd D_X9_says 49 rfl) ?_
            refine lv_iload_n F.1 F.2.1 (dd D_X9_says 50 rfl) rfl (lv_at hl 1 rfl) ?_
            refine aldI F hK hP (15) (mp_15 cA am s) h (dd D_X9_says 51 rfl) (fun z11 h => ?_)
            refine lv_istore_n (lv' := [(3, .int ((m_eveDay s) (Int32.toNatClampNeg p1))), (0, .ref (am 0)), (1, .int p1), (2, .int p2)]) F.1 F.2.1 (dd D_X9_says 52 rfl) rfl hl (Nat.le_of_ble_eq_true rfl) rfl (fun ls hl => ?_)
            refine lv_iload_n F.1 F.2.1 (dd D_X9_says 53 rfl) rfl (lv_at hl 3 rfl) ?_
            refine x_ts (tgt := 128) F.1 F.2.1 (0 : Int32) (dd D_X9_says 54 rfl) h (by decide) (by decide) rfl rfl (fun c12_0 h => ?_) (fun c12_0 h => ?_)
            · refine lv_iload_n F.1 F.2.1 (dd D_X9_says 55 rfl) rfl (lv_at hl 0 rfl) ?_
              obtain rfl := Option.some.inj h
              exact rw_i (R := rmOf 6 0 0) F hP hD hS hr hlk ⟨Nat.le_of_ble_eq_true rfl, Nat.le_of_ble_eq_true rfl⟩ ⟨rfl, rfl⟩ (dd D_X9_says 56 rfl)
            refine x_ts (tgt := 130) F.1 F.2.1 (1 : Int32) (dd D_X9_says 54 rfl) h (by decide) (by decide) rfl rfl (fun c12_1 h => ?_) (fun c12_1 h => ?_)
            · refine lv_aload_n F.1 F.2.1 (dd D_X9_says 57 rfl) rfl (lv_at hl 1 rfl) ?_
              refine lv_iload_n F.1 F.2.1 (dd D_X9_says 58 rfl) rfl (lv_at hl 0 rfl) ?_
              obtain ⟨r13, e14, h⟩ := Option.bind_eq_some_iff.mp h
              refine ro_go (st' := [.int r13]) (rV (rest := []) F (c_X9_age D cA am s n ((m_eveDay s) (Int32.toNatClampNeg p1)) r13 e14 l) lk_X9_96 (Nat.le_of_ble_eq_true rfl) (preRO hK hS hAb hP) (rcv_9 hK hP (q0 := (0)) (mp_0 cA am s)) rfl hl rfl (Nat.le_of_ble_eq_true rfl) (dd D_X9_says 59 rfl) ⟨Nat.le_of_ble_eq_true rfl, Nat.le_of_ble_eq_true rfl⟩) rfl ?_
              refine lv_sipush (v := (1476 : Int32)) F.1 F.2.1 (dd D_X9_says 60 rfl) ks_1476 ?_
              refine lv_isub F.1 F.2.1 (dd D_X9_says 61 rfl) ?_
              refine lv_istore (lv' := [(4, .int (r13 - (1476 : Int32))), (3, .int ((m_eveDay s) (Int32.toNatClampNeg p1))), (0, .ref (am 0)), (1, .int p1), (2, .int p2)]) F.1 F.2.1 (dd D_X9_says 62 rfl) hl (Nat.le_of_ble_eq_true rfl) rfl (fun ls hl => ?_)
              refine lv_iload F.1 F.2.1 (dd D_X9_says 63 rfl) (lv_at hl 0 rfl) ?_
              refine x_if_ge (tgt := 152) F.1 F.2.1 (dd D_X9_says 64 rfl) rfl h (fun c15 h => ?_) (fun c15 h => ?_)
              · refine lv_iload F.1 F.2.1 (dd D_X9_says 68 rfl) (lv_at hl 0 rfl) ?_
                obtain rfl := Option.some.inj h
                exact rw_i (R := rmOf 6 0 0) F hP hD hS hr hlk ⟨Nat.le_of_ble_eq_true rfl, Nat.le_of_ble_eq_true rfl⟩ ⟨rfl, rfl⟩ (dd D_X9_says 69 rfl)
              · refine lv_iload F.1 F.2.1 (dd D_X9_says 65 rfl) (lv_at hl 0 rfl) ?_
                refine lv_ineg F.1 F.2.1 (dd D_X9_says 66 rfl) ?_
                refine lv_goto (tgt := 154) F.1 F.2.1 (dd D_X9_says 67 rfl) rfl ?_
                obtain rfl := Option.some.inj h
                exact rw_i (R := rmOf 6 0 0) F hP hD hS hr hlk ⟨Nat.le_of_ble_eq_true rfl, Nat.le_of_ble_eq_true rfl⟩ ⟨rfl, rfl⟩ (dd D_X9_says 69 rfl)
            refine x_ts (tgt := 155) F.1 F.2.1 (2 : Int32) (dd D_X9_says 54 rfl) h (by decide) (by decide) rfl rfl (fun c12_2 h => ?_) (fun c12_2 h => ?_)
            · refine lv_iload_n F.1 F.2.1 (dd D_X9_says 70 rfl) rfl (lv_at hl 0 rfl) ?_
              refine lv_sipush (v := (9999 : Int32)) F.1 F.2.1 (dd D_X9_says 71 rfl) ks_9999 ?_
              refine x_icmp_ne (tgt := 166) F.1 F.2.1 (dd D_X9_says 72 rfl) rfl h (fun c16 h => ?_) (fun c16 h => ?_)
              · refine lv_aload_n F.1 F.2.1 (dd D_X9_says 75 rfl) rfl (lv_at hl 1 rfl) ?_
                refine lv_iload_n F.1 F.2.1 (dd D_X9_says 76 rfl) rfl (lv_at hl 0 rfl) ?_
                obtain ⟨r17, e18, h⟩ := Option.bind_eq_some_iff.mp h
                refine ro_go (st' := [.int r17]) (rV (rest := []) F (c_X9_later D cA am s n ((m_eveDay s) (Int32.toNatClampNeg p1)) r17 e18 l) lk_X9_99 (Nat.le_of_ble_eq_true rfl) (preRO hK hS hAb hP) (rcv_9 hK hP (q0 := (0)) (mp_0 cA am s)) rfl hl rfl (Nat.le_of_ble_eq_true rfl) (dd D_X9_says 77 rfl) ⟨Nat.le_of_ble_eq_true rfl, Nat.le_of_ble_eq_true rfl⟩) rfl ?_
                obtain rfl := Option.some.inj h
                exact rw_i (R := rmOf 6 0 0) F hP hD hS hr hlk ⟨Nat.le_of_ble_eq_true rfl, Nat.le_of_ble_eq_true rfl⟩ ⟨rfl, rfl⟩ (dd D_X9_says 78 rfl)
              · refine lv_iconst (v := (0 : Int32)) F.1 F.2.1 (dd D_X9_says 73 rfl) ki_0 ?_
                refine lv_goto (tgt := 171) F.1 F.2.1 (dd D_X9_says 74 rfl) rfl ?_
                obtain rfl := Option.some.inj h
                exact rw_i (R := rmOf 6 0 0) F hP hD hS hr hlk ⟨Nat.le_of_ble_eq_true rfl, Nat.le_of_ble_eq_true rfl⟩ ⟨rfl, rfl⟩ (dd D_X9_says 78 rfl)
            refine x_ts (tgt := 172) F.1 F.2.1 (3 : Int32) (dd D_X9_says 54 rfl) h (by decide) (by decide) rfl rfl (fun c12_3 h => ?_) (fun c12_3 h => ?_)
            · refine lv_bipush (v := (28 : Int32)) F.1 F.2.1 (dd D_X9_says 79 rfl) kb_28 ?_
              refine lv_aload_n F.1 F.2.1 (dd D_X9_says 80 rfl) rfl (lv_at hl 1 rfl) ?_
              refine lv_iload_n F.1 F.2.1 (dd D_X9_says 81 rfl) rfl (lv_at hl 0 rfl) ?_
              obtain ⟨r19, e20, h⟩ := Option.bind_eq_some_iff.mp h
              refine ro_go (st' := [.int r19, .int (28 : Int32)]) (rV (rest := [.int (28 : Int32)]) F (c_X9_out D cA am s n ((m_eveDay s) (Int32.toNatClampNeg p1)) r19 e20 l) lk_X9_102 (Nat.le_of_ble_eq_true rfl) (preRO hK hS hAb hP) (rcv_9 hK hP (q0 := (0)) (mp_0 cA am s)) rfl hl rfl (Nat.le_of_ble_eq_true rfl) (dd D_X9_says 82 rfl) ⟨Nat.le_of_ble_eq_true rfl, Nat.le_of_ble_eq_true rfl⟩) rfl ?_
              refine lv_isub F.1 F.2.1 (dd D_X9_says 83 rfl) ?_
              obtain rfl := Option.some.inj h
              exact rw_i (R := rmOf 6 0 0) F hP hD hS hr hlk ⟨Nat.le_of_ble_eq_true rfl, Nat.le_of_ble_eq_true rfl⟩ ⟨rfl, rfl⟩ (dd D_X9_says 84 rfl)
            refine x_ts (tgt := 181) F.1 F.2.1 (4 : Int32) (dd D_X9_says 54 rfl) h (by decide) (by decide) rfl rfl (fun c12_4 h => ?_) (fun c12_4 h => ?_)
            · refine lv_aload_n F.1 F.2.1 (dd D_X9_says 85 rfl) rfl (lv_at hl 1 rfl) ?_
              refine lv_iload_n F.1 F.2.1 (dd D_X9_says 86 rfl) rfl (lv_at hl 0 rfl) ?_
              obtain ⟨r21, e22, h⟩ := Option.bind_eq_some_iff.mp h
              refine ro_go (st' := [.int r21]) (rV (rest := []) F (c_X9_age D cA am s n ((m_eveDay s) (Int32.toNatClampNeg p1)) r21 e22 l) lk_X9_96 (Nat.le_of_ble_eq_true rfl) (preRO hK hS hAb hP) (rcv_9 hK hP (q0 := (0)) (mp_0 cA am s)) rfl hl rfl (Nat.le_of_ble_eq_true rfl) (dd D_X9_says 87 rfl) ⟨Nat.le_of_ble_eq_true rfl, Nat.le_of_ble_eq_true rfl⟩) rfl ?_
              obtain rfl := Option.some.inj h
              exact rw_i (R := rmOf 6 0 0) F hP hD hS hr hlk ⟨Nat.le_of_ble_eq_true rfl, Nat.le_of_ble_eq_true rfl⟩ ⟨rfl, rfl⟩ (dd D_X9_says 88 rfl)
            refine lv_tableOut (tgt := 187) F.1 F.2.1 (dd D_X9_says 54 rfl) (ts_out (lo := 0) (vs := [(0 : Int32), (1 : Int32), (2 : Int32), (3 : Int32), (4 : Int32)]) tsv_0_5 (by intro v hv; simp only [List.mem_cons, List.not_mem_nil, or_false] at hv; rcases hv with rfl | rfl | rfl | rfl | rfl <;> assumption)) rfl ?_
            refine lv_aload_n F.1 F.2.1 (dd D_X9_says 89 rfl) rfl (lv_at hl 1 rfl) ?_
            refine lv_iload_n F.1 F.2.1 (dd D_X9_says 90 rfl) rfl (lv_at hl 0 rfl) ?_
            refine lv_sipush (v := (1320 : Int32)) F.1 F.2.1 (dd D_X9_says 91 rfl) ks_1320 ?_
            refine lv_sipush (v := (1439 : Int32)) F.1 F.2.1 (dd D_X9_says 92 rfl) ks_1439 ?_
            obtain ⟨r23, e24, h⟩ := Option.bind_eq_some_iff.mp h
            refine ro_go (st' := [.int r23]) (rV (rest := []) F (c_X9_shinesIn D cA am s n ((m_eveDay s) (Int32.toNatClampNeg p1)) (1320 : Int32) (1439 : Int32) r23 e24 l) lk_X9_105 (Nat.le_of_ble_eq_true rfl) (preRO hK hS hAb hP) (rcv_9 hK hP (q0 := (0)) (mp_0 cA am s)) rfl hl rfl (Nat.le_of_ble_eq_true rfl) (dd D_X9_says 93 rfl) ⟨Nat.le_of_ble_eq_true rfl, Nat.le_of_ble_eq_true rfl⟩) rfl ?_
            obtain rfl := Option.some.inj h
            exact rw_i (R := rmOf 6 0 0) F hP hD hS hr hlk ⟨Nat.le_of_ble_eq_true rfl, Nat.le_of_ble_eq_true rfl⟩ ⟨rfl, rfl⟩ (dd D_X9_says 94 rfl)
          · refine lv_aload_n F.1 F.2.1 (dd D_X9_says 44 rfl) rfl (lv_at hl 0 rfl) ?_
            refine lv_bipush (v := (-4 : Int32)) F.1 F.2.1 (dd D_X9_says 45 rfl) kb_m4 ?_
            obtain ⟨r25, e26, h⟩ := Option.bind_eq_some_iff.mp h
            refine rwe_all (st' := [.int r25.1]) hD hS hA (rV (rest := []) F (c_X9_refuse D cA am s n (-4 : Int32) r25 e26 l H.size) lk_X9_79 (Nat.le_of_ble_eq_true rfl) (preRW hK hS hAb hP hD) (rcv_9 hK hP (q0 := (0)) (mp_0 cA am s)) rfl hl rfl (Nat.le_of_ble_eq_true rfl) (dd D_X9_says 46 rfl) ⟨Nat.le_of_ble_eq_true rfl, Nat.le_of_ble_eq_true rfl⟩) rfl (fun H locs hP hD hS => ?_)
            obtain rfl := Option.some.inj h
            exact rw_i (R := rmOf 6 0 0) F hP hD hS hr hlk ⟨Nat.le_of_ble_eq_true rfl, Nat.le_of_ble_eq_true rfl⟩ ⟨rfl, rfl⟩ (dd D_X9_says 47 rfl)
        · refine lv_aload_n F.1 F.2.1 (dd D_X9_says 28 rfl) rfl (lv_at hl 0 rfl) ?_
          refine getF F hK hP lf_X9_28 (0) (mp_0 cA am s) rfl (dd D_X9_says 29 rfl) ?_
          refine lv_iload_n F.1 F.2.1 (dd D_X9_says 30 rfl) rfl (lv_at hl 1 rfl) ?_
          refine aldI F hK hP (14) (mp_14 cA am s) h (dd D_X9_says 31 rfl) (fun z27 h => ?_)
          refine lv_iload_n F.1 F.2.1 (dd D_X9_says 32 rfl) rfl (lv_at hl 2 rfl) ?_
          refine ro_go (st' := [.int (bI (F_X9_isUnder ((m_eveKind s) (Int32.toNatClampNeg p1)) p2))]) (rS (rest := []) F (c_X9_isUnder D cA ((m_eveKind s) (Int32.toNatClampNeg p1)) p2 l) lk_X9_92 (Nat.le_of_ble_eq_true rfl) (preRO hK hS hAb (emP)) rfl hl rfl (Nat.le_of_ble_eq_true rfl) (dd D_X9_says 33 rfl) ⟨Nat.le_of_ble_eq_true rfl, Nat.le_of_ble_eq_true rfl⟩) rfl ?_
          refine x_bif_ne (tgt := 71) F.1 F.2.1 (dd D_X9_says 34 rfl) rfl h (fun c48 h => ?_) (fun c48 h => ?_)
          · refine lv_aload_n F.1 F.2.1 (dd D_X9_says 39 rfl) rfl (lv_at hl 0 rfl) ?_
            refine getF F hK hP lf_X9_7 (0) (mp_0 cA am s) rfl (dd D_X9_says 40 rfl) ?_
            refine lv_iload_n F.1 F.2.1 (dd D_X9_says 41 rfl) rfl (lv_at hl 1 rfl) ?_
            refine aldI F hK hP (1) (mp_1 cA am s) h (dd D_X9_says 42 rfl) (fun z28 h => ?_)
            refine x_if_ne (tgt := 87) F.1 F.2.1 (dd D_X9_says 43 rfl) rfl h (fun c29 h => ?_) (fun c29 h => ?_)
            · refine lv_aload_n F.1 F.2.1 (dd D_X9_says 48 rfl) rfl (lv_at hl 0 rfl) ?_
              refine getF F hK hP lf_X9_31 (0) (mp_0 cA am s) rfl (dd D_X9_says 49 rfl) ?_
              refine lv_iload_n F.1 F.2.1 (dd D_X9_says 50 rfl) rfl (lv_at hl 1 rfl) ?_
              refine aldI F hK hP (15) (mp_15 cA am s) h (dd D_X9_says 51 rfl) (fun z30 h => ?_)
              refine lv_istore_n (lv' := [(3, .int ((m_eveDay s) (Int32.toNatClampNeg p1))), (0, .ref (am 0)), (1, .int p1), (2, .int p2)]) F.1 F.2.1 (dd D_X9_says 52 rfl) rfl hl (Nat.le_of_ble_eq_true rfl) rfl (fun ls hl => ?_)
              refine lv_iload_n F.1 F.2.1 (dd D_X9_says 53 rfl) rfl (lv_at hl 3 rfl) ?_
              refine x_ts (tgt := 128) F.1 F.2.1 (0 : Int32) (dd D_X9_says 54 rfl) h (by decide) (by decide) rfl rfl (fun c31_0 h => ?_) (fun c31_0 h => ?_)
              · refine lv_iload_n F.1 F.2.1 (dd D_X9_says 55 rfl) rfl (lv_at hl 0 rfl) ?_
                obtain rfl := Option.some.inj h
                exact rw_i (R := rmOf 6 0 0) F hP hD hS hr hlk ⟨Nat.le_of_ble_eq_true rfl, Nat.le_of_ble_eq_true rfl⟩ ⟨rfl, rfl⟩ (dd D_X9_says 56 rfl)
              refine x_ts (tgt := 130) F.1 F.2.1 (1 : Int32) (dd D_X9_says 54 rfl) h (by decide) (by decide) rfl rfl (fun c31_1 h => ?_) (fun c31_1 h => ?_)
              · refine lv_aload_n F.1 F.2.1 (dd D_X9_says 57 rfl) rfl (lv_at hl 1 rfl) ?_
                refine lv_iload_n F.1 F.2.1 (dd D_X9_says 58 rfl) rfl (lv_at hl 0 rfl) ?_
                obtain ⟨r32, e33, h⟩ := Option.bind_eq_some_iff.mp h
                refine ro_go (st' := [.int r32]) (rV (rest := []) F (c_X9_age D cA am s n ((m_eveDay s) (Int32.toNatClampNeg p1)) r32 e33 l) lk_X9_96 (Nat.le_of_ble_eq_true rfl) (preRO hK hS hAb hP) (rcv_9 hK hP (q0 := (0)) (mp_0 cA am s)) rfl hl rfl (Nat.le_of_ble_eq_true rfl) (dd D_X9_says 59 rfl) ⟨Nat.le_of_ble_eq_true rfl, Nat.le_of_ble_eq_true rfl⟩) rfl ?_
                refine lv_sipush (v := (1476 : Int32)) F.1 F.2.1 (dd D_X9_says 60 rfl) ks_1476 ?_
                refine lv_isub F.1 F.2.1 (dd D_X9_says 61 rfl) ?_
                refine lv_istore (lv' := [(4, .int (r32 - (1476 : Int32))), (3, .int ((m_eveDay s) (Int32.toNatClampNeg p1))), (0, .ref (am 0)), (1, .int p1), (2, .int p2)]) F.1 F.2.1 (dd D_X9_says 62 rfl) hl (Nat.le_of_ble_eq_true rfl) rfl (fun ls hl => ?_)
                refine lv_iload F.1 F.2.1 (dd D_X9_says 63 rfl) (lv_at hl 0 rfl) ?_
                refine x_if_ge (tgt := 152) F.1 F.2.1 (dd D_X9_says 64 rfl) rfl h (fun c34 h => ?_) (fun c34 h => ?_)
                · refine lv_iload F.1 F.2.1 (dd D_X9_says 68 rfl) (lv_at hl 0 rfl) ?_
                  obtain rfl := Option.some.inj h
                  exact rw_i (R := rmOf 6 0 0) F hP hD hS hr hlk ⟨Nat.le_of_ble_eq_true rfl, Nat.le_of_ble_eq_true rfl⟩ ⟨rfl, rfl⟩ (dd D_X9_says 69 rfl)
                · refine lv_iload F.1 F.2.1 (dd D_X9_says 65 rfl) (lv_at hl 0 rfl) ?_
                  refine lv_ineg F.1 F.2.1 (dd D_X9_says 66 rfl) ?_
                  refine lv_goto (tgt := 154) F.1 F.2.1 (dd D_X9_says 67 rfl) rfl ?_
                  obtain rfl := Option.some.inj h
                  exact rw_i (R := rmOf 6 0 0) F hP hD hS hr hlk ⟨Nat.le_of_ble_eq_true rfl, Nat.le_of_ble_eq_true rfl⟩ ⟨rfl, rfl⟩ (dd D_X9_says 69 rfl)
              refine x_ts (tgt := 155) F.1 F.2.1 (2 : Int32) (dd D_X9_says 54 rfl) h (by decide) (by decide) rfl rfl (fun c31_2 h => ?_) (fun c31_2 h => ?_)
              · refine lv_iload_n F.1 F.2.1 (dd D_X9_says 70 rfl) rfl (lv_at hl 0 rfl) ?_
                refine lv_sipush (v := (9999 : Int32)) F.1 F.2.1 (dd D_X9_says 71 rfl) ks_9999 ?_
                refine x_icmp_ne (tgt := 166) F.1 F.2.1 (dd D_X9_says 72 rfl) rfl h (fun c35 h => ?_) (fun c35 h => ?_)
                · refine lv_aload_n F.1 F.2.1 (dd D_X9_says 75 rfl) rfl (lv_at hl 1 rfl) ?_
                  refine lv_iload_n F.1 F.2.1 (dd D_X9_says 76 rfl) rfl (lv_at hl 0 rfl) ?_
                  obtain ⟨r36, e37, h⟩ := Option.bind_eq_some_iff.mp h
                  refine ro_go (st' := [.int r36]) (rV (rest := []) F (c_X9_later D cA am s n ((m_eveDay s) (Int32.toNatClampNeg p1)) r36 e37 l) lk_X9_99 (Nat.le_of_ble_eq_true rfl) (preRO hK hS hAb hP) (rcv_9 hK hP (q0 := (0)) (mp_0 cA am s)) rfl hl rfl (Nat.le_of_ble_eq_true rfl) (dd D_X9_says 77 rfl) ⟨Nat.le_of_ble_eq_true rfl, Nat.le_of_ble_eq_true rfl⟩) rfl ?_
                  obtain rfl := Option.some.inj h
                  exact rw_i (R := rmOf 6 0 0) F hP hD hS hr hlk ⟨Nat.le_of_ble_eq_true rfl, Nat.le_of_ble_eq_true rfl⟩ ⟨rfl, rfl⟩ (dd D_X9_says 78 rfl)
                · refine lv_iconst (v := (0 : Int32)) F.1 F.2.1 (dd D_X9_says 73 rfl) ki_0 ?_
                  refine lv_goto (tgt := 171) F.1 F.2.1 (dd D_X9_says 74 rfl) rfl ?_
                  obtain rfl := Option.some.inj h
                  exact rw_i (R := rmOf 6 0 0) F hP hD hS hr hlk ⟨Nat.le_of_ble_eq_true rfl, Nat.le_of_ble_eq_true rfl⟩ ⟨rfl, rfl⟩ (dd D_X9_says 78 rfl)
              refine x_ts (tgt := 172) F.1 F.2.1 (3 : Int32) (dd D_X9_says 54 rfl) h (by decide) (by decide) rfl rfl (fun c31_3 h => ?_) (fun c31_3 h => ?_)
              · refine lv_bipush (v := (28 : Int32)) F.1 F.2.1 (dd D_X9_says 79 rfl) kb_28 ?_
                refine lv_aload_n F.1 F.2.1 (dd D_X9_says 80 rfl) rfl (lv_at hl 1 rfl) ?_
                refine lv_iload_n F.1 F.2.1 (dd D_X9_says 81 rfl) rfl (lv_at hl 0 rfl) ?_
                obtain ⟨r38, e39, h⟩ := Option.bind_eq_some_iff.mp h
                refine ro_go (st' := [.int r38, .int (28 : Int32)]) (rV (rest := [.int (28 : Int32)]) F (c_X9_out D cA am s n ((m_eveDay s) (Int32.toNatClampNeg p1)) r38 e39 l) lk_X9_102 (Nat.le_of_ble_eq_true rfl) (preRO hK hS hAb hP) (rcv_9 hK hP (q0 := (0)) (mp_0 cA am s)) rfl hl rfl (Nat.le_of_ble_eq_true rfl) (dd D_X9_says 82 rfl) ⟨Nat.le_of_ble_eq_true rfl, Nat.le_of_ble_eq_true rfl⟩) rfl ?_
                refine lv_isub F.1 F.2.1 (dd D_X9_says 83 rfl) ?_
                obtain rfl := Option.some.inj h
                exact rw_i (R := rmOf 6 0 0) F hP hD hS hr hlk ⟨Nat.le_of_ble_eq_true rfl, Nat.le_of_ble_eq_true rfl⟩ ⟨rfl, rfl⟩ (dd D_X9_says 84 rfl)
              refine x_ts (tgt := 181) F.1 F.2.1 (4 : Int32) (dd D_X9_says 54 rfl) h (by decide) (by decide) rfl rfl (fun c31_4 h => ?_) (fun c31_4 h => ?_)
              · refine lv_aload_n F.1 F.2.1 (dd D_X9_says 85 rfl) rfl (lv_at hl 1 rfl) ?_
                refine lv_iload_n F.1 F.2.1 (dd D_X9_says 86 rfl) rfl (lv_at hl 0 rfl) ?_
                obtain ⟨r40, e41, h⟩ := Option.bind_eq_some_iff.mp h
                refine ro_go (st' := [.int r40]) (rV (rest := []) F (c_X9_age D cA am s n ((m_eveDay s) (Int32.toNatClampNeg p1)) r40 e41 l) lk_X9_96 (Nat.le_of_ble_eq_true rfl) (preRO hK hS hAb hP) (rcv_9 hK hP (q0 := (0)) (mp_0 cA am s)) rfl hl rfl (Nat.le_of_ble_eq_true rfl) (dd D_X9_says 87 rfl) ⟨Nat.le_of_ble_eq_true rfl, Nat.le_of_ble_eq_true rfl⟩) rfl ?_
                obtain rfl := Option.some.inj h
                exact rw_i (R := rmOf 6 0 0) F hP hD hS hr hlk ⟨Nat.le_of_ble_eq_true rfl, Nat.le_of_ble_eq_true rfl⟩ ⟨rfl, rfl⟩ (dd D_X9_says 88 rfl)
              refine lv_tableOut (tgt := 187) F.1 F.2.1 (dd D_X9_says 54 rfl) (ts_out (lo := 0) (vs := [(0 : Int32), (1 : Int32), (2 : Int32), (3 : Int32), (4 : Int32)]) tsv_0_5 (by intro v hv; simp only [List.mem_cons, List.not_mem_nil, or_false] at hv; rcases hv with rfl | rfl | rfl | rfl | rfl <;> assumption)) rfl ?_
              refine lv_aload_n F.1 F.2.1 (dd D_X9_says 89 rfl) rfl (lv_at hl 1 rfl) ?_
              refine lv_iload_n F.1 F.2.1 (dd D_X9_says 90 rfl) rfl (lv_at hl 0 rfl) ?_
              refine lv_sipush (v := (1320 : Int32)) F.1 F.2.1 (dd D_X9_says 91 rfl) ks_1320 ?_
              refine lv_sipush (v := (1439 : Int32)) F.1 F.2.1 (dd D_X9_says 92 rfl) ks_1439 ?_
              obtain ⟨r42, e43, h⟩ := Option.bind_eq_some_iff.mp h
              refine ro_go (st' := [.int r42]) (rV (rest := []) F (c_X9_shinesIn D cA am s n ((m_eveDay s) (Int32.toNatClampNeg p1)) (1320 : Int32) (1439 : Int32) r42 e43 l) lk_X9_105 (Nat.le_of_ble_eq_true rfl) (preRO hK hS hAb hP) (rcv_9 hK hP (q0 := (0)) (mp_0 cA am s)) rfl hl rfl (Nat.le_of_ble_eq_true rfl) (dd D_X9_says 93 rfl) ⟨Nat.le_of_ble_eq_true rfl, Nat.le_of_ble_eq_true rfl⟩) rfl ?_
              obtain rfl := Option.some.inj h
              exact rw_i (R := rmOf 6 0 0) F hP hD hS hr hlk ⟨Nat.le_of_ble_eq_true rfl, Nat.le_of_ble_eq_true rfl⟩ ⟨rfl, rfl⟩ (dd D_X9_says 94 rfl)
            · refine lv_aload_n F.1 F.2.1 (dd D_X9_says 44 rfl) rfl (lv_at hl 0 rfl) ?_
              refine lv_bipush (v := (-4 : Int32)) F.1 F.2.1 (dd D_X9_says 45 rfl) kb_m4 ?_
              obtain ⟨r44, e45, h⟩ := Option.bind_eq_some_iff.mp h
              refine rwe_all (st' := [.int r44.1]) hD hS hA (rV (rest := []) F (c_X9_refuse D cA am s n (-4 : Int32) r44 e45 l H.size) lk_X9_79 (Nat.le_of_ble_eq_true rfl) (preRW hK hS hAb hP hD) (rcv_9 hK hP (q0 := (0)) (mp_0 cA am s)) rfl hl rfl (Nat.le_of_ble_eq_true rfl) (dd D_X9_says 46 rfl) ⟨Nat.le_of_ble_eq_true rfl, Nat.le_of_ble_eq_true rfl⟩) rfl (fun H locs hP hD hS => ?_)
              obtain rfl := Option.some.inj h
              exact rw_i (R := rmOf 6 0 0) F hP hD hS hr hlk ⟨Nat.le_of_ble_eq_true rfl, Nat.le_of_ble_eq_true rfl⟩ ⟨rfl, rfl⟩ (dd D_X9_says 47 rfl)
          · refine lv_aload_n F.1 F.2.1 (dd D_X9_says 35 rfl) rfl (lv_at hl 0 rfl) ?_
            refine lv_bipush (v := (-3 : Int32)) F.1 F.2.1 (dd D_X9_says 36 rfl) kb_m3 ?_
            obtain ⟨r46, e47, h⟩ := Option.bind_eq_some_iff.mp h
            refine rwe_all (st' := [.int r46.1]) hD hS hA (rV (rest := []) F (c_X9_refuse D cA am s n (-3 : Int32) r46 e47 l H.size) lk_X9_79 (Nat.le_of_ble_eq_true rfl) (preRW hK hS hAb hP hD) (rcv_9 hK hP (q0 := (0)) (mp_0 cA am s)) rfl hl rfl (Nat.le_of_ble_eq_true rfl) (dd D_X9_says 37 rfl) ⟨Nat.le_of_ble_eq_true rfl, Nat.le_of_ble_eq_true rfl⟩) rfl (fun H locs hP hD hS => ?_)
            obtain rfl := Option.some.inj h
            exact rw_i (R := rmOf 6 0 0) F hP hD hS hr hlk ⟨Nat.le_of_ble_eq_true rfl, Nat.le_of_ble_eq_true rfl⟩ ⟨rfl, rfl⟩ (dd D_X9_says 38 rfl)
    · refine lv_aload_n F.1 F.2.1 (dd D_X9_says 12 rfl) rfl (lv_at hl 0 rfl) ?_
      refine lv_bipush (v := (-2 : Int32)) F.1 F.2.1 (dd D_X9_says 13 rfl) kb_m2 ?_
      obtain ⟨r49, e50, h⟩ := Option.bind_eq_some_iff.mp h
      refine rwe_all (st' := [.int r49.1]) hD hS hA (rV (rest := []) F (c_X9_refuse D cA am s n (-2 : Int32) r49 e50 l H.size) lk_X9_79 (Nat.le_of_ble_eq_true rfl) (preRW hK hS hAb hP hD) (rcv_9 hK hP (q0 := (0)) (mp_0 cA am s)) rfl hl rfl (Nat.le_of_ble_eq_true rfl) (dd D_X9_says 14 rfl) ⟨Nat.le_of_ble_eq_true rfl, Nat.le_of_ble_eq_true rfl⟩) rfl (fun H locs hP hD hS => ?_)
      obtain rfl := Option.some.inj h
      exact rw_i (R := rmOf 6 0 0) F hP hD hS hr hlk ⟨Nat.le_of_ble_eq_true rfl, Nat.le_of_ble_eq_true rfl⟩ ⟨rfl, rfl⟩ (dd D_X9_says 15 rfl)
