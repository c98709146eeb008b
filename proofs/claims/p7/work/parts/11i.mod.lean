def F_X9_eager_L19 (n : Nat) (u0 : MS) (v1 : Int32) (v2 : Int32) (v3 : Int32) : Nat → Int32 → Int32 → Option (Int32 × MS)
  | 0, _, _ => none
  | kf + 1, w4, w5 => (if v2 ≤ w5 then some (w4, u0) else gd (inb v1 8) (gd (inb w5 40) ((((F_X9_canBe n u0 ((m_rows u0 (Int32.toNatClampNeg v1)) (Int32.toNatClampNeg w5)))).bind fun r8 => bf r8 (F_X9_eager_L19 n u0 v1 v2 v3 kf (w4 + (0 : Int32)) (w5 + (1 : Int32))) (F_X9_eager_L19 n u0 v1 v2 v3 kf (w4 + (1 : Int32)) (w5 + (1 : Int32)))))))
def F_X9_eager (n : Nat) (s : MS) (p1 : Int32) (p2 : Int32) : Option (Int32 × MS) := (((F_X9_noWitnesses n s p1 p2)).bind fun r1 => (if r1.1 = 0 then F_X9_eager_L19 n r1.2 p1 p2 r1.1 n (0 : Int32) (0 : Int32) else some (r1.1, r1.2)))
set_option maxHeartbeats 4000000 in
set_option maxRecDepth 100000 in
theorem c_X9_eager (D : va_G) (cA : Nat → ClassId) (am : Nat → Nat) (s : MS) (n : Nat) (p1 : Int32) (p2 : Int32) (r : (Int32 × MS)) (h : F_X9_eager n s p1 p2 = some r) : RW m_X9_eager 3 0 0 D cA [.ref (am 0), .int p1, .int p2] (mW cA am s) (exq (some (.int r.1)) (mW cA am r.2)) := by
  refine RW.ofW gy_X9_eager.2.2 (Nat.le_of_ble_eq_true rfl) ?_
  intro l p e sM m below meth c A H locs F hr hlk hnm hK hP hD hS hA hAb ls hl
  have hl : lv_has ls 6 [(0, .ref (am 0)), (1, .int p1), (2, .int p2)] := hl
  unfold F_X9_eager at h
  refine lv_aload_n F.1 F.2.1 (dd D_X9_eager 0 rfl) rfl (lv_at hl 0 rfl) ?_
  refine lv_iload_n F.1 F.2.1 (dd D_X9_eager 1 rfl) rfl (lv_at hl 1 rfl) ?_
  refine lv_iload_n F.1 F.2.1 (dd D_X9_eager 2 rfl) rfl (lv_at hl 2 rfl) ?_
  obtain ⟨r1, e2, h⟩ := Option.bind_eq_some_iff.mp h
  refine rwe_all (st' := [.int r1.1]) hD hS hA (rV (rest := []) F (c_X9_noWitnesses D cA am s n p1 p2 r1 e2 l H.size) lk_X9_303 (Nat.le_of_ble_eq_true rfl) (preRW hK hS hAb hP hD) (rcv_9 hK hP (q0 := (0)) (mp_0 cA am s)) rfl hl rfl (Nat.le_of_ble_eq_true rfl) (dd D_X9_eager 3 rfl) ⟨Nat.le_of_ble_eq_true rfl, Nat.le_of_ble_eq_true rfl⟩) rfl (fun H locs hP hD hS => ?_)
  refine lv_istore_n (lv' := [(3, .int r1.1), (0, .ref (am 0)), (1, .int p1), (2, .int p2)]) F.1 F.2.1 (dd D_X9_eager 4 rfl) rfl hl (Nat.le_of_ble_eq_true rfl) rfl (fun ls hl => ?_)
  refine lv_iload_n F.1 F.2.1 (dd D_X9_eager 5 rfl) rfl (lv_at hl 0 rfl) ?_
  refine x_if_eq (tgt := 13) F.1 F.2.1 (dd D_X9_eager 6 rfl) rfl h (fun c3 h => ?_) (fun c3 h => ?_)
  · refine lv_iconst (v := (0 : Int32)) F.1 F.2.1 (dd D_X9_eager 9 rfl) ki_0 ?_
    refine lv_istore (lv' := [(4, .int (0 : Int32)), (3, .int r1.1), (0, .ref (am 0)), (1, .int p1), (2, .int p2)]) F.1 F.2.1 (dd D_X9_eager 10 rfl) hl (Nat.le_of_ble_eq_true rfl) rfl (fun ls hl => ?_)
    refine lv_iconst (v := (0 : Int32)) F.1 F.2.1 (dd D_X9_eager 11 rfl) ki_0 ?_
    refine lv_istore (lv' := [(5, .int (0 : Int32)), (4, .int (0 : Int32)), (3, .int r1.1), (0, .ref (am 0)), (1, .int p1), (2, .int p2)]) F.1 F.2.1 (dd D_X9_eager 12 rfl) hl (Nat.le_of_ble_eq_true rfl) rfl (fun ls hl => ?_)
    have L11 : ∀ (kf : Nat) (w4_L11 : Int32) (w5_L11 : Int32) (H : Heap) (locs : List Loc) (ls : Array Slot), va_P D vwCl (mW cA am r1.2) H → va_D A (mW cA am r1.2) → va_S A sM.heap H locs → lv_has ls 6 [(0, .ref (am 0)), (1, .int p1), (2, .int p2), (3, .int r1.1), (4, .int w4_L11), (5, .int w5_L11)] → F_X9_eager_L19 n r1.2 p1 p2 r1.1 kf w4_L11 w5_L11 = some r → Wrw 3 0 0 D A (exq (some (.int r.1)) (mW cA am r.2)) p l e sM m ([.ref (am 0), .int p1, .int p2] : List Value).toArray below meth c H locs 0 0 19 ls [] := by
      intro kf
      induction kf with
      | zero =>
        intro w4_L11 w5_L11 H locs ls hP hD hS hl h
        cases (show none = some r from h)
      | succ k_L11 ih_L11 =>
        intro w4_L11 w5_L11 H locs ls hP hD hS hl h
        unfold F_X9_eager_L19 at h
        refine lv_iload F.1 F.2.1 (dd D_X9_eager 13 rfl) (lv_at hl 5 rfl) ?_
        refine lv_iload_n F.1 F.2.1 (dd D_X9_eager 14 rfl) rfl (lv_at hl 2 rfl) ?_
        refine x_icmp_ge (tgt := 57) F.1 F.2.1 (dd D_X9_eager 15 rfl) rfl h (fun c12 h => ?_) (fun c12 h => ?_)
        · refine lv_iload F.1 F.2.1 (dd D_X9_eager 33 rfl) (lv_at hl 4 rfl) ?_
          obtain rfl := Option.some.inj h
          exact rw_i (R := rmOf 3 0 0) F hP hD hS hr hlk ⟨Nat.le_of_ble_eq_true rfl, Nat.le_of_ble_eq_true rfl⟩ ⟨rfl, rfl⟩ (dd D_X9_eager 34 rfl)
        · refine lv_iload F.1 F.2.1 (dd D_X9_eager 16 rfl) (lv_at hl 4 rfl) ?_
          refine lv_aload_n F.1 F.2.1 (dd D_X9_eager 17 rfl) rfl (lv_at hl 0 rfl) ?_
          refine lv_aload_n F.1 F.2.1 (dd D_X9_eager 18 rfl) rfl (lv_at hl 0 rfl) ?_
          refine getF F hK hP lf_X9_21 (0) (mp_0 cA am r1.2) rfl (dd D_X9_eager 19 rfl) ?_
          refine lv_iload_n F.1 F.2.1 (dd D_X9_eager 20 rfl) rfl (lv_at hl 1 rfl) ?_
          refine aldA (g := fun j => am (5+j)) F hK hP (4) (mp_4 cA am r1.2) 5 rfl (fun _ => rfl) h (dd D_X9_eager 21 rfl) (fun z13 h => ?_)
          have hk14 : (Int32.toNatClampNeg p1) < 8 := inb_lt z13
          refine lv_iload F.1 F.2.1 (dd D_X9_eager 22 rfl) (lv_at hl 5 rfl) ?_
          refine aldL F hK hP (5+(Int32.toNatClampNeg p1)) (mp_row cA am r1.2 (Int32.toNatClampNeg p1) hk14) h (dd D_X9_eager 23 rfl) (fun z15 h => ?_)
          obtain ⟨r16, e17, h⟩ := Option.bind_eq_some_iff.mp h
          refine ro_go (st' := [.int (bI r16), .int w4_L11]) (rV (rest := [.int w4_L11]) F (c_X9_canBe D cA am r1.2 n ((m_rows r1.2 (Int32.toNatClampNeg p1)) (Int32.toNatClampNeg w5_L11)) r16 e17 l) lk_X9_306 (Nat.le_of_ble_eq_true rfl) (preRO hK hS hAb hP) (rcv_9 hK hP (q0 := (0)) (mp_0 cA am r1.2)) rfl hl rfl (Nat.le_of_ble_eq_true rfl) (dd D_X9_eager 24 rfl) ⟨Nat.le_of_ble_eq_true rfl, Nat.le_of_ble_eq_true rfl⟩) rfl ?_
          refine x_bif_eq (tgt := 47) F.1 F.2.1 (dd D_X9_eager 25 rfl) rfl h (fun c18 h => ?_) (fun c18 h => ?_)
          · refine lv_iconst (v := (1 : Int32)) F.1 F.2.1 (dd D_X9_eager 28 rfl) ki_1 ?_
            refine lv_iadd F.1 F.2.1 (dd D_X9_eager 29 rfl) ?_
            refine lv_istore (lv' := [(4, .int (w4_L11 + (1 : Int32))), (0, .ref (am 0)), (1, .int p1), (2, .int p2), (3, .int r1.1), (5, .int w5_L11)]) F.1 F.2.1 (dd D_X9_eager 30 rfl) hl (Nat.le_of_ble_eq_true rfl) rfl (fun ls hl => ?_)
            refine lv_iinc (v := (w5_L11 + (1 : Int32))) (lv' := [(5, .int (w5_L11 + (1 : Int32))), (4, .int (w4_L11 + (1 : Int32))), (0, .ref (am 0)), (1, .int p1), (2, .int p2), (3, .int r1.1)]) F.1 F.2.1 (dd D_X9_eager 31 rfl) hl (k := 5) rfl (congrArg (fun z => w5_L11 + z) ki_1) (Nat.le_of_ble_eq_true rfl) rfl (fun ls hl => ?_)
            refine lv_goto (tgt := 19) F.1 F.2.1 (dd D_X9_eager 32 rfl) rfl ?_
            exact ih_L11 (w4_L11 + (1 : Int32)) (w5_L11 + (1 : Int32)) _ _ ls hP hD hS (lv_sub hl [2, 3, 4, 5, 1, 0] rfl) h
          · refine lv_iconst (v := (0 : Int32)) F.1 F.2.1 (dd D_X9_eager 26 rfl) ki_0 ?_
            refine lv_goto (tgt := 48) F.1 F.2.1 (dd D_X9_eager 27 rfl) rfl ?_
            refine lv_iadd F.1 F.2.1 (dd D_X9_eager 29 rfl) ?_
            refine lv_istore (lv' := [(4, .int (w4_L11 + (0 : Int32))), (0, .ref (am 0)), (1, .int p1), (2, .int p2), (3, .int r1.1), (5, .int w5_L11)]) F.1 F.2.1 (dd D_X9_eager 30 rfl) hl (Nat.le_of_ble_eq_true rfl) rfl (fun ls hl => ?_)
            refine lv_iinc (v := (w5_L11 + (1 : Int32))) (lv' := [(5, .int (w5_L11 + (1 : Int32))), (4, .int (w4_L11 + (0 : Int32))), (0, .ref (am 0)), (1, .int p1), (2, .int p2), (3, .int r1.1)]) F.1 F.2.1 (dd D_X9_eager 31 rfl) hl (k := 5) rfl (congrArg (fun z => w5_L11 + z) ki_1) (Nat.le_of_ble_eq_true rfl) rfl (fun ls hl => ?_)
            refine lv_goto (tgt := 19) F.1 F.2.1 (dd D_X9_eager 32 rfl) rfl ?_
            exact ih_L11 (w4_L11 + (0 : Int32)) (w5_L11 + (1 : Int32)) _ _ ls hP hD hS (lv_sub hl [2, 3, 4, 5, 1, 0] rfl) h
    exact L11 n (0 : Int32) (0 : Int32) _ _ ls hP hD hS (lv_sub hl [3, 4, 5, 2, 1, 0] rfl) h
  · refine lv_iload_n F.1 F.2.1 (dd D_X9_eager 7 rfl) rfl (lv_at hl 0 rfl) ?_
    obtain rfl := Option.some.inj h
    exact rw_i (R := rmOf 3 0 0) F hP hD hS hr hlk ⟨Nat.le_of_ble_eq_true rfl, Nat.le_of_ble_eq_true rfl⟩ ⟨rfl, rfl⟩ (dd D_X9_eager 8 rfl)
def F_X9_date_L17 (n : Nat) (u0 : MS) (v1 : Int32) : Nat → Int32 → Option (Int32 × MS)
  | 0, _ => none
  | kf + 1, w2 => (if w2 < 0 then (((F_X9_refuse n u0 (-5 : Int32))).bind fun r2 => some (r2.1, r2.2)) else (((F_X9_isOf n u0 w2 (4 : Int32))).bind fun r4 => bf r4 (some (((v1 - w2) + (1 : Int32)), u0)) (F_X9_date_L17 n u0 v1 kf (w2 + (-1 : Int32)))))
def F_X9_date (n : Nat) (s : MS) (p1 : Int32) : Option (Int32 × MS) := bf (F_X9_isDay (Int32.toInt64 p1)) (F_X9_date_L17 n s p1 n p1) ((((F_X9_refuse n s (-2 : Int32))).bind fun r14 => some (r14.1, r14.2)))
set_option maxHeartbeats 4000000 in
set_option maxRecDepth 100000 in
theorem c_X9_date (D : va_G) (cA : Nat → ClassId) (am : Nat → Nat) (s : MS) (n : Nat) (p1 : Int32) (r : (Int32 × MS)) (h : F_X9_date n s p1 = some r) : RW m_X9_date 7 0 0 D cA [.ref (am 0), .int p1] (mW cA am s) (exq (some (.int r.1)) (mW cA am r.2)) := by
  refine RW.ofW gy_X9_date.2.2 (Nat.le_of_ble_eq_true rfl) ?_
  intro l p e sM m below meth c A H locs F hr hlk hnm hK hP hD hS hA hAb ls hl
  have hl : lv_has ls 3 [(0, .ref (am 0)), (1, .int p1)] := hl
  unfold F_X9_date at h
  refine lv_iload_n F.1 F.2.1 (dd D_X9_date 0 rfl) rfl (lv_at hl 1 rfl) ?_
  refine lv_i2l (v := (Int32.toInt64 p1)) F.1 F.2.1 (dd D_X9_date 1 rfl) rfl ?_
  refine ro_go (st' := [.int (bI (F_X9_isDay (Int32.toInt64 p1)))]) (rS (rest := []) F (c_X9_isDay D cA (Int32.toInt64 p1) l) lk_X9_67 (Nat.le_of_ble_eq_true rfl) (preRO hK hS hAb (emP)) rfl hl rfl (Nat.le_of_ble_eq_true rfl) (dd D_X9_date 2 rfl) ⟨Nat.le_of_ble_eq_true rfl, Nat.le_of_ble_eq_true rfl⟩) rfl ?_
  refine x_bif_ne (tgt := 15) F.1 F.2.1 (dd D_X9_date 3 rfl) rfl h (fun c16 h => ?_) (fun c16 h => ?_)
  · refine lv_iload_n F.1 F.2.1 (dd D_X9_date 8 rfl) rfl (lv_at hl 1 rfl) ?_
    refine lv_istore_n (lv' := [(2, .int p1), (0, .ref (am 0)), (1, .int p1)]) F.1 F.2.1 (dd D_X9_date 9 rfl) rfl hl (Nat.le_of_ble_eq_true rfl) rfl (fun ls hl => ?_)
    have L7 : ∀ (kf : Nat) (w2_L7 : Int32) (H : Heap) (locs : List Loc) (ls : Array Slot), va_P D vwCl (mW cA am s) H → va_D A (mW cA am s) → va_S A sM.heap H locs → lv_has ls 3 [(0, .ref (am 0)), (1, .int p1), (2, .int w2_L7)] → F_X9_date_L17 n s p1 kf w2_L7 = some r → Wrw 7 0 0 D A (exq (some (.int r.1)) (mW cA am r.2)) p l e sM m ([.ref (am 0), .int p1] : List Value).toArray below meth c H locs 0 0 17 ls [] := by
      intro kf
      induction kf with
      | zero =>
        intro w2_L7 H locs ls hP hD hS hl h
        cases (show none = some r from h)
      | succ k_L7 ih_L7 =>
        intro w2_L7 H locs ls hP hD hS hl h
        unfold F_X9_date_L17 at h
        refine lv_iload_n F.1 F.2.1 (dd D_X9_date 10 rfl) rfl (lv_at hl 2 rfl) ?_
        refine x_if_lt (tgt := 42) F.1 F.2.1 (dd D_X9_date 11 rfl) rfl h (fun c8 h => ?_) (fun c8 h => ?_)
        · refine lv_aload_n F.1 F.2.1 (dd D_X9_date 25 rfl) rfl (lv_at hl 0 rfl) ?_
          refine lv_bipush (v := (-5 : Int32)) F.1 F.2.1 (dd D_X9_date 26 rfl) kb_m5 ?_
          obtain ⟨r9, e10, h⟩ := Option.bind_eq_some_iff.mp h
          refine rwe_all (st' := [.int r9.1]) hD hS hA (rV (rest := []) F (c_X9_refuse D cA am s n (-5 : Int32) r9 e10 l H.size) lk_X9_79 (Nat.le_of_ble_eq_true rfl) (preRW hK hS hAb hP hD) (rcv_9 hK hP (q0 := (0)) (mp_0 cA am s)) rfl hl rfl (Nat.le_of_ble_eq_true rfl) (dd D_X9_date 27 rfl) ⟨Nat.le_of_ble_eq_true rfl, Nat.le_of_ble_eq_true rfl⟩) rfl (fun H locs hP hD hS => ?_)
          obtain rfl := Option.some.inj h
          exact rw_i (R := rmOf 7 0 0) F hP hD hS hr hlk ⟨Nat.le_of_ble_eq_true rfl, Nat.le_of_ble_eq_true rfl⟩ ⟨rfl, rfl⟩ (dd D_X9_date 28 rfl)
        · refine lv_aload_n F.1 F.2.1 (dd D_X9_date 12 rfl) rfl (lv_at hl 0 rfl) ?_
          refine lv_iload_n F.1 F.2.1 (dd D_X9_date 13 rfl) rfl (lv_at hl 2 rfl) ?_
          refine lv_iconst (v := (4 : Int32)) F.1 F.2.1 (dd D_X9_date 14 rfl) ki_4 ?_
          obtain ⟨r11, e12, h⟩ := Option.bind_eq_some_iff.mp h
          refine ro_go (st' := [.int (bI r11)]) (rV (rest := []) F (c_X9_isOf D cA am s n w2_L7 (4 : Int32) r11 e12 l) lk_X9_109 (Nat.le_of_ble_eq_true rfl) (preRO hK hS hAb hP) (rcv_9 hK hP (q0 := (0)) (mp_0 cA am s)) rfl hl rfl (Nat.le_of_ble_eq_true rfl) (dd D_X9_date 15 rfl) ⟨Nat.le_of_ble_eq_true rfl, Nat.le_of_ble_eq_true rfl⟩) rfl ?_
          refine x_bif_eq (tgt := 36) F.1 F.2.1 (dd D_X9_date 16 rfl) rfl h (fun c13 h => ?_) (fun c13 h => ?_)
          · refine lv_iinc (v := (w2_L7 + (-1 : Int32))) (lv' := [(2, .int (w2_L7 + (-1 : Int32))), (0, .ref (am 0)), (1, .int p1)]) F.1 F.2.1 (dd D_X9_date 23 rfl) hl (k := 2) rfl (congrArg (fun z => w2_L7 + z) ki_m1) (Nat.le_of_ble_eq_true rfl) rfl (fun ls hl => ?_)
            refine lv_goto (tgt := 17) F.1 F.2.1 (dd D_X9_date 24 rfl) rfl ?_
            exact ih_L7 (w2_L7 + (-1 : Int32)) _ _ ls hP hD hS (lv_sub hl [1, 2, 0] rfl) h
          · refine lv_iload_n F.1 F.2.1 (dd D_X9_date 17 rfl) rfl (lv_at hl 1 rfl) ?_
            refine lv_iload_n F.1 F.2.1 (dd D_X9_date 18 rfl) rfl (lv_at hl 2 rfl) ?_
            refine lv_isub F.1 F.2.1 (dd D_X9_date 19 rfl) ?_
            refine lv_iconst (v := (1 : Int32)) F.1 F.2.1 (dd D_X9_date 20 rfl) ki_1 ?_
            refine lv_iadd F.1 F.2.1 (dd D_X9_date 21 rfl) ?_
            obtain rfl := Option.some.inj h
            exact rw_i (R := rmOf 7 0 0) F hP hD hS hr hlk ⟨Nat.le_of_ble_eq_true rfl, Nat.le_of_ble_eq_true rfl⟩ ⟨rfl, rfl⟩ (dd D_X9_date 22 rfl)
    exact L7 n p1 _ _ ls hP hD hS (lv_sub hl [1, 2, 0] rfl) h
  · refine lv_aload_n F.1 F.2.1 (dd D_X9_date 4 rfl) rfl (lv_at hl 0 rfl) ?_
    refine lv_bipush (v := (-2 : Int32)) F.1 F.2.1 (dd D_X9_date 5 rfl) kb_m2 ?_
    obtain ⟨r14, e15, h⟩ := Option.bind_eq_some_iff.mp h
    refine rwe_all (st' := [.int r14.1]) hD hS hA (rV (rest := []) F (c_X9_refuse D cA am s n (-2 : Int32) r14 e15 l H.size) lk_X9_79 (Nat.le_of_ble_eq_true rfl) (preRW hK hS hAb hP hD) (rcv_9 hK hP (q0 := (0)) (mp_0 cA am s)) rfl hl rfl (Nat.le_of_ble_eq_true rfl) (dd D_X9_date 6 rfl) ⟨Nat.le_of_ble_eq_true rfl, Nat.le_of_ble_eq_true rfl⟩) rfl (fun H locs hP hD hS => ?_)
    obtain rfl := Option.some.inj h
    exact rw_i (R := rmOf 7 0 0) F hP hD hS hr hlk ⟨Nat.le_of_ble_eq_true rfl, Nat.le_of_ble_eq_true rfl⟩ ⟨rfl, rfl⟩ (dd D_X9_date 7 rfl)
def F_X9_months_L19 (n : Nat) (u0 : MS) (v1 : Int32) : Nat → Int32 → Int32 → Option (Int32 × MS)
  | 0, _, _ => none
  | kf + 1, w2, w3 => (if v1 < w3 then some (w2, u0) else (((F_X9_isOf n u0 w3 (4 : Int32))).bind fun r2 => bf r2 (F_X9_months_L19 n u0 v1 kf (w2 + (1 : Int32)) (w3 + (1 : Int32))) (F_X9_months_L19 n u0 v1 kf (w2 + (0 : Int32)) (w3 + (1 : Int32)))))
def F_X9_months (n : Nat) (s : MS) (p1 : Int32) : Option (Int32 × MS) := bf (F_X9_isDay (Int32.toInt64 p1)) (F_X9_months_L19 n s p1 n (0 : Int32) (0 : Int32)) ((((F_X9_refuse n s (-2 : Int32))).bind fun r10 => some (r10.1, r10.2)))
set_option maxHeartbeats 4000000 in
set_option maxRecDepth 100000 in
theorem c_X9_months (D : va_G) (cA : Nat → ClassId) (am : Nat → Nat) (s : MS) (n : Nat) (p1 : Int32) (r : (Int32 × MS)) (h : F_X9_months n s p1 = some r) : RW m_X9_months 7 0 0 D cA [.ref (am 0), .int p1] (mW cA am s) (exq (some (.int r.1)) (mW cA am r.2)) := by
  refine RW.ofW gy_X9_months.2.2 (Nat.le_of_ble_eq_true rfl) ?_
  intro l p e sM m below meth c A H locs F hr hlk hnm hK hP hD hS hA hAb ls hl
  have hl : lv_has ls 4 [(0, .ref (am 0)), (1, .int p1)] := hl
  unfold F_X9_months at h
  refine lv_iload_n F.1 F.2.1 (dd D_X9_months 0 rfl) rfl (lv_at hl 1 rfl) ?_
  refine lv_i2l (v := (Int32.toInt64 p1)) F.1 F.2.1 (dd D_X9_months 1 rfl) rfl ?_
  refine ro_go (st' := [.int (bI (F_X9_isDay (Int32.toInt64 p1)))]) (rS (rest := []) F (c_X9_isDay D cA (Int32.toInt64 p1) l) lk_X9_67 (Nat.le_of_ble_eq_true rfl) (preRO hK hS hAb (emP)) rfl hl rfl (Nat.le_of_ble_eq_true rfl) (dd D_X9_months 2 rfl) ⟨Nat.le_of_ble_eq_true rfl, Nat.le_of_ble_eq_true rfl⟩) rfl ?_
  refine x_bif_ne (tgt := 15) F.1 F.2.1 (dd D_X9_months 3 rfl) rfl h (fun c12 h => ?_) (fun c12 h => ?_)
  · refine lv_iconst (v := (0 : Int32)) F.1 F.2.1 (dd D_X9_months 8 rfl) ki_0 ?_
    refine lv_istore_n (lv' := [(2, .int (0 : Int32)), (0, .ref (am 0)), (1, .int p1)]) F.1 F.2.1 (dd D_X9_months 9 rfl) rfl hl (Nat.le_of_ble_eq_true rfl) rfl (fun ls hl => ?_)
    refine lv_iconst (v := (0 : Int32)) F.1 F.2.1 (dd D_X9_months 10 rfl) ki_0 ?_
    refine lv_istore_n (lv' := [(3, .int (0 : Int32)), (2, .int (0 : Int32)), (0, .ref (am 0)), (1, .int p1)]) F.1 F.2.1 (dd D_X9_months 11 rfl) rfl hl (Nat.le_of_ble_eq_true rfl) rfl (fun ls hl => ?_)
    have L5 : ∀ (kf : Nat) (w2_L5 : Int32) (w3_L5 : Int32) (H : Heap) (locs : List Loc) (ls : Array Slot), va_P D vwCl (mW cA am s) H → va_D A (mW cA am s) → va_S A sM.heap H locs → lv_has ls 4 [(0, .ref (am 0)), (1, .int p1), (2, .int w2_L5), (3, .int w3_L5)] → F_X9_months_L19 n s p1 kf w2_L5 w3_L5 = some r → Wrw 7 0 0 D A (exq (some (.int r.1)) (mW cA am r.2)) p l e sM m ([.ref (am 0), .int p1] : List Value).toArray below meth c H locs 0 0 19 ls [] := by
      intro kf
      induction kf with
      | zero =>
        intro w2_L5 w3_L5 H locs ls hP hD hS hl h
        cases (show none = some r from h)
      | succ k_L5 ih_L5 =>
        intro w2_L5 w3_L5 H locs ls hP hD hS hl h
        unfold F_X9_months_L19 at h
        refine lv_iload_n F.1 F.2.1 (dd D_X9_months 12 rfl) rfl (lv_at hl 3 rfl) ?_
        refine lv_iload_n F.1 F.2.1 (dd D_X9_months 13 rfl) rfl (lv_at hl 1 rfl) ?_
        refine x_icmp_gt (tgt := 47) F.1 F.2.1 (dd D_X9_months 14 rfl) rfl h (fun c6 h => ?_) (fun c6 h => ?_)
        · refine lv_iload_n F.1 F.2.1 (dd D_X9_months 28 rfl) rfl (lv_at hl 2 rfl) ?_
          obtain rfl := Option.some.inj h
          exact rw_i (R := rmOf 7 0 0) F hP hD hS hr hlk ⟨Nat.le_of_ble_eq_true rfl, Nat.le_of_ble_eq_true rfl⟩ ⟨rfl, rfl⟩ (dd D_X9_months 29 rfl)
        · refine lv_iload_n F.1 F.2.1 (dd D_X9_months 15 rfl) rfl (lv_at hl 2 rfl) ?_
          refine lv_aload_n F.1 F.2.1 (dd D_X9_months 16 rfl) rfl (lv_at hl 0 rfl) ?_
          refine lv_iload_n F.1 F.2.1 (dd D_X9_months 17 rfl) rfl (lv_at hl 3 rfl) ?_
          refine lv_iconst (v := (4 : Int32)) F.1 F.2.1 (dd D_X9_months 18 rfl) ki_4 ?_
          obtain ⟨r7, e8, h⟩ := Option.bind_eq_some_iff.mp h
          refine ro_go (st' := [.int (bI r7), .int w2_L5]) (rV (rest := [.int w2_L5]) F (c_X9_isOf D cA am s n w3_L5 (4 : Int32) r7 e8 l) lk_X9_109 (Nat.le_of_ble_eq_true rfl) (preRO hK hS hAb hP) (rcv_9 hK hP (q0 := (0)) (mp_0 cA am s)) rfl hl rfl (Nat.le_of_ble_eq_true rfl) (dd D_X9_months 19 rfl) ⟨Nat.le_of_ble_eq_true rfl, Nat.le_of_ble_eq_true rfl⟩) rfl ?_
          refine x_bif_eq (tgt := 38) F.1 F.2.1 (dd D_X9_months 20 rfl) rfl h (fun c9 h => ?_) (fun c9 h => ?_)
          · refine lv_iconst (v := (0 : Int32)) F.1 F.2.1 (dd D_X9_months 23 rfl) ki_0 ?_
            refine lv_iadd F.1 F.2.1 (dd D_X9_months 24 rfl) ?_
            refine lv_istore_n (lv' := [(2, .int (w2_L5 + (0 : Int32))), (0, .ref (am 0)), (1, .int p1), (3, .int w3_L5)]) F.1 F.2.1 (dd D_X9_months 25 rfl) rfl hl (Nat.le_of_ble_eq_true rfl) rfl (fun ls hl => ?_)
            refine lv_iinc (v := (w3_L5 + (1 : Int32))) (lv' := [(3, .int (w3_L5 + (1 : Int32))), (2, .int (w2_L5 + (0 : Int32))), (0, .ref (am 0)), (1, .int p1)]) F.1 F.2.1 (dd D_X9_months 26 rfl) hl (k := 3) rfl (congrArg (fun z => w3_L5 + z) ki_1) (Nat.le_of_ble_eq_true rfl) rfl (fun ls hl => ?_)
            refine lv_goto (tgt := 19) F.1 F.2.1 (dd D_X9_months 27 rfl) rfl ?_
            exact ih_L5 (w2_L5 + (0 : Int32)) (w3_L5 + (1 : Int32)) _ _ ls hP hD hS (lv_sub hl [2, 3, 1, 0] rfl) h
          · refine lv_iconst (v := (1 : Int32)) F.1 F.2.1 (dd D_X9_months 21 rfl) ki_1 ?_
            refine lv_goto (tgt := 39) F.1 F.2.1 (dd D_X9_months 22 rfl) rfl ?_
            refine lv_iadd F.1 F.2.1 (dd D_X9_months 24 rfl) ?_
            refine lv_istore_n (lv' := [(2, .int (w2_L5 + (1 : Int32))), (0, .ref (am 0)), (1, .int p1), (3, .int w3_L5)]) F.1 F.2.1 (dd D_X9_months 25 rfl) rfl hl (Nat.le_of_ble_eq_true rfl) rfl (fun ls hl => ?_)
            refine lv_iinc (v := (w3_L5 + (1 : Int32))) (lv' := [(3, .int (w3_L5 + (1 : Int32))), (2, .int (w2_L5 + (1 : Int32))), (0, .ref (am 0)), (1, .int p1)]) F.1 F.2.1 (dd D_X9_months 26 rfl) hl (k := 3) rfl (congrArg (fun z => w3_L5 + z) ki_1) (Nat.le_of_ble_eq_true rfl) rfl (fun ls hl => ?_)
            refine lv_goto (tgt := 19) F.1 F.2.1 (dd D_X9_months 27 rfl) rfl ?_
            exact ih_L5 (w2_L5 + (1 : Int32)) (w3_L5 + (1 : Int32)) _ _ ls hP hD hS (lv_sub hl [2, 3, 1, 0] rfl) h
    exact L5 n (0 : Int32) (0 : Int32) _ _ ls hP hD hS (lv_sub hl [2, 3, 1, 0] rfl) h
  · refine lv_aload_n F.1 F.2.1 (dd D_X9_months 4 rfl) rfl (lv_at hl 0 rfl) ?_
    refine lv_bipush (v := (-2 : Int32)) F.1 F.2.1 (dd D_X9_months 5 rfl) kb_m2 ?_
    obtain ⟨r10, e11, h⟩ := Option.bind_eq_some_iff.mp h
    refine rwe_all (st' := [.int r10.1]) hD hS hA (rV (rest := []) F (c_X9_refuse D cA am s n (-2 : Int32) r10 e11 l H.size) lk_X9_79 (Nat.le_of_ble_eq_true rfl) (preRW hK hS hAb hP hD) (rcv_9 hK hP (q0 := (0)) (mp_0 cA am s)) rfl hl rfl (Nat.le_of_ble_eq_true rfl) (dd D_X9_months 6 rfl) ⟨Nat.le_of_ble_eq_true rfl, Nat.le_of_ble_eq_true rfl⟩) rfl (fun H locs hP hD hS => ?_)
    obtain rfl := Option.some.inj h
    exact rw_i (R := rmOf 7 0 0) F hP hD hS hr hlk ⟨Nat.le_of_ble_eq_true rfl, Nat.le_of_ble_eq_true rfl⟩ ⟨rfl, rfl⟩ (dd D_X9_months 7 rfl)
def F_X9_eclipse_L17 (n : Nat) (u0 : MS) (v1 : Int32) : Nat → Int32 → Option (Int32 × MS)
  | 0, _ => none
  | kf + 1, w2 => (if (F_X9_lastOf v1 (1000 : Int32)) < w2 then some ((-1 : Int32), u0) else gd (inb (1 : Int32) 4) ((((F_X9_isOf n u0 w2 (1 : Int32))).bind fun r3 => bf r3 ((if (jrem (((100 : Int32) * w2) + ((m_asked u0) (Int32.toNatClampNeg (1 : Int32)))) (1366 : Int32)) ≤ (80 : Int32) then some (w2, u0) else (if (jrem (((100 : Int32) * w2) + ((m_asked u0) (Int32.toNatClampNeg (1 : Int32)))) (1366 : Int32)) < (1286 : Int32) then F_X9_eclipse_L17 n u0 v1 kf (w2 + (1 : Int32)) else some (w2, u0)))) (F_X9_eclipse_L17 n u0 v1 kf (w2 + (1 : Int32))))))
def F_X9_eclipse (n : Nat) (s : MS) (p1 : Int32) : Option (Int32 × MS) := bf (F_X9_isDay (Int32.toInt64 p1)) (F_X9_eclipse_L17 n s p1 n p1) ((((F_X9_refuse n s (-2 : Int32))).bind fun r16 => some (r16.1, r16.2)))
set_option maxHeartbeats 4000000 in
set_option maxRecDepth 100000 in
theorem c_X9_eclipse (D : va_G) (cA : Nat → ClassId) (am : Nat → Nat) (s : MS) (n : Nat) (p1 : Int32) (r : (Int32 × MS)) (h : F_X9_eclipse n s p1 = some r) : RW m_X9_eclipse 7 0 0 D cA [.ref (am 0), .int p1] (mW cA am s) (exq (some (.int r.1)) (mW cA am r.2)) := by
  refine RW.ofW gy_X9_eclipse.2.2 (Nat.le_of_ble_eq_true rfl) ?_
  intro l p e sM m below meth c A H locs F hr hlk hnm hK hP hD hS hA hAb ls hl
  have hl : lv_has ls 4 [(0, .ref (am 0)), (1, .int p1)] := hl
  unfold F_X9_eclipse at h
  refine lv_iload_n F.1 F.2.1 (dd D_X9_eclipse 0 rfl) rfl (lv_at hl 1 rfl) ?_
  refine lv_i2l (v := (Int32.toInt64 p1)) F.1 F.2.1 (dd D_X9_eclipse 1 rfl) rfl ?_
  refine ro_go (st' := [.int (bI (F_X9_isDay (Int32.toInt64 p1)))]) (rS (rest := []) F (c_X9_isDay D cA (Int32.toInt64 p1) l) lk_X9_67 (Nat.le_of_ble_eq_true rfl) (preRO hK hS hAb (emP)) rfl hl rfl (Nat.le_of_ble_eq_true rfl) (dd D_X9_eclipse 2 rfl) ⟨Nat.le_of_ble_eq_true rfl, Nat.le_of_ble_eq_true rfl⟩) rfl ?_
  refine x_bif_ne (tgt := 15) F.1 F.2.1 (dd D_X9_eclipse 3 rfl) rfl h (fun c18 h => ?_) (fun c18 h => ?_)
  · refine lv_iload_n F.1 F.2.1 (dd D_X9_eclipse 8 rfl) rfl (lv_at hl 1 rfl) ?_
    refine lv_istore_n (lv' := [(2, .int p1), (0, .ref (am 0)), (1, .int p1)]) F.1 F.2.1 (dd D_X9_eclipse 9 rfl) rfl hl (Nat.le_of_ble_eq_true rfl) rfl (fun ls hl => ?_)
    have L8 : ∀ (kf : Nat) (w2_L8 : Int32) (H : Heap) (locs : List Loc) (ls : Array Slot), va_P D vwCl (mW cA am s) H → va_D A (mW cA am s) → va_S A sM.heap H locs → lv_has ls 4 [(0, .ref (am 0)), (1, .int p1), (2, .int w2_L8)] → F_X9_eclipse_L17 n s p1 kf w2_L8 = some r → Wrw 7 0 0 D A (exq (some (.int r.1)) (mW cA am r.2)) p l e sM m ([.ref (am 0), .int p1] : List Value).toArray below meth c H locs 0 0 17 ls [] := by
      intro kf
      induction kf with
      | zero =>
        intro w2_L8 H locs ls hP hD hS hl h
        cases (show none = some r from h)
      | succ k_L8 ih_L8 =>
        intro w2_L8 H locs ls hP hD hS hl h
        unfold F_X9_eclipse_L17 at h
        refine lv_iload_n F.1 F.2.1 (dd D_X9_eclipse 10 rfl) rfl (lv_at hl 2 rfl) ?_
        refine lv_iload_n F.1 F.2.1 (dd D_X9_eclipse 11 rfl) rfl (lv_at hl 1 rfl) ?_
        refine lv_sipush (v := (1000 : Int32)) F.1 F.2.1 (dd D_X9_eclipse 12 rfl) ks_1000 ?_
        refine ro_go (st' := [.int (F_X9_lastOf p1 (1000 : Int32)), .int w2_L8]) (rS (rest := [.int w2_L8]) F (c_X9_lastOf D cA p1 (1000 : Int32) l) lk_X9_273 (Nat.le_of_ble_eq_true rfl) (preRO hK hS hAb (emP)) rfl hl rfl (Nat.le_of_ble_eq_true rfl) (dd D_X9_eclipse 13 rfl) ⟨Nat.le_of_ble_eq_true rfl, Nat.le_of_ble_eq_true rfl⟩) rfl ?_
        refine x_icmp_gt (tgt := 74) F.1 F.2.1 (dd D_X9_eclipse 14 rfl) rfl h (fun c9 h => ?_) (fun c9 h => ?_)
        · refine lv_iconst (v := (-1 : Int32)) F.1 F.2.1 (dd D_X9_eclipse 41 rfl) ki_m1 ?_
          obtain rfl := Option.some.inj h
          exact rw_i (R := rmOf 7 0 0) F hP hD hS hr hlk ⟨Nat.le_of_ble_eq_true rfl, Nat.le_of_ble_eq_true rfl⟩ ⟨rfl, rfl⟩ (dd D_X9_eclipse 42 rfl)
        · refine lv_bipush (v := (100 : Int32)) F.1 F.2.1 (dd D_X9_eclipse 15 rfl) kb_100 ?_
          refine lv_iload_n F.1 F.2.1 (dd D_X9_eclipse 16 rfl) rfl (lv_at hl 2 rfl) ?_
          refine lv_imul F.1 F.2.1 (dd D_X9_eclipse 17 rfl) ?_
          refine lv_aload_n F.1 F.2.1 (dd D_X9_eclipse 18 rfl) rfl (lv_at hl 0 rfl) ?_
          refine getF F hK hP lf_X9_40 (0) (mp_0 cA am s) rfl (dd D_X9_eclipse 19 rfl) ?_
          refine lv_iconst (v := (1 : Int32)) F.1 F.2.1 (dd D_X9_eclipse 20 rfl) ki_1 ?_
          refine aldI F hK hP (18) (mp_18 cA am s) h (dd D_X9_eclipse 21 rfl) (fun z10 h => ?_)
          refine lv_iadd F.1 F.2.1 (dd D_X9_eclipse 22 rfl) ?_
          refine lv_sipush (v := (1366 : Int32)) F.1 F.2.1 (dd D_X9_eclipse 23 rfl) ks_1366 ?_
          refine x_irem F.1 F.2.1 (dd D_X9_eclipse 24 rfl) kd_1366 ?_
          refine lv_istore_n (lv' := [(3, .int (jrem (((100 : Int32) * w2_L8) + ((m_asked s) (Int32.toNatClampNeg (1 : Int32)))) (1366 : Int32))), (0, .ref (am 0)), (1, .int p1), (2, .int w2_L8)]) F.1 F.2.1 (dd D_X9_eclipse 25 rfl) rfl hl (Nat.le_of_ble_eq_true rfl) rfl (fun ls hl => ?_)
          refine lv_aload_n F.1 F.2.1 (dd D_X9_eclipse 26 rfl) rfl (lv_at hl 1 rfl) ?_
          refine lv_iload_n F.1 F.2.1 (dd D_X9_eclipse 27 rfl) rfl (lv_at hl 3 rfl) ?_
          refine lv_iconst (v := (1 : Int32)) F.1 F.2.1 (dd D_X9_eclipse 28 rfl) ki_1 ?_
          obtain ⟨r11, e12, h⟩ := Option.bind_eq_some_iff.mp h
          refine ro_go (st' := [.int (bI r11)]) (rV (rest := []) F (c_X9_isOf D cA am s n w2_L8 (1 : Int32) r11 e12 l) lk_X9_109 (Nat.le_of_ble_eq_true rfl) (preRO hK hS hAb hP) (rcv_9 hK hP (q0 := (0)) (mp_0 cA am s)) rfl hl rfl (Nat.le_of_ble_eq_true rfl) (dd D_X9_eclipse 29 rfl) ⟨Nat.le_of_ble_eq_true rfl, Nat.le_of_ble_eq_true rfl⟩) rfl ?_
          refine x_bif_eq (tgt := 68) F.1 F.2.1 (dd D_X9_eclipse 30 rfl) rfl h (fun c15 h => ?_) (fun c15 h => ?_)
          · refine lv_iinc (v := (w2_L8 + (1 : Int32))) (lv' := [(2, .int (w2_L8 + (1 : Int32))), (3, .int (jrem (((100 : Int32) * w2_L8) + ((m_asked s) (Int32.toNatClampNeg (1 : Int32)))) (1366 : Int32))), (0, .ref (am 0)), (1, .int p1)]) F.1 F.2.1 (dd D_X9_eclipse 39 rfl) hl (k := 3) rfl (congrArg (fun z => w2_L8 + z) ki_1) (Nat.le_of_ble_eq_true rfl) rfl (fun ls hl => ?_)
            refine lv_goto (tgt := 17) F.1 F.2.1 (dd D_X9_eclipse 40 rfl) rfl ?_
            exact ih_L8 (w2_L8 + (1 : Int32)) _ _ ls hP hD hS (lv_sub hl [2, 3, 0] rfl) h
          · refine lv_iload_n F.1 F.2.1 (dd D_X9_eclipse 31 rfl) rfl (lv_at hl 0 rfl) ?_
            refine lv_bipush (v := (80 : Int32)) F.1 F.2.1 (dd D_X9_eclipse 32 rfl) kb_80 ?_
            refine x_icmp_le (tgt := 66) F.1 F.2.1 (dd D_X9_eclipse 33 rfl) rfl h (fun c13 h => ?_) (fun c13 h => ?_)
            · refine lv_iload_n F.1 F.2.1 (dd D_X9_eclipse 37 rfl) rfl (lv_at hl 3 rfl) ?_
              obtain rfl := Option.some.inj h
              exact rw_i (R := rmOf 7 0 0) F hP hD hS hr hlk ⟨Nat.le_of_ble_eq_true rfl, Nat.le_of_ble_eq_true rfl⟩ ⟨rfl, rfl⟩ (dd D_X9_eclipse 38 rfl)
            · refine lv_iload_n F.1 F.2.1 (dd D_X9_eclipse 34 rfl) rfl (lv_at hl 0 rfl) ?_
              refine lv_sipush (v := (1286 : Int32)) F.1 F.2.1 (dd D_X9_eclipse 35 rfl) ks_1286 ?_
              refine x_icmp_lt (tgt := 68) F.1 F.2.1 (dd D_X9_eclipse 36 rfl) rfl h (fun c14 h => ?_) (fun c14 h => ?_)
              · refine lv_iinc (v := (w2_L8 + (1 : Int32))) (lv' := [(2, .int (w2_L8 + (1 : Int32))), (3, .int (jrem (((100 : Int32) * w2_L8) + ((m_asked s) (Int32.toNatClampNeg (1 : Int32)))) (1366 : Int32))), (0, .ref (am 0)), (1, .int p1)]) F.1 F.2.1 (dd D_X9_eclipse 39 rfl) hl (k := 3) rfl (congrArg (fun z => w2_L8 + z) ki_1) (Nat.le_of_ble_eq_true rfl) rfl (fun ls hl => ?_)
                refine lv_goto (tgt := 17) F.1 F.2.1 (dd D_X9_eclipse 40 rfl) rfl ?_
                exact ih_L8 (w2_L8 + (1 : Int32)) _ _ ls hP hD hS (lv_sub hl [2, 3, 0] rfl) h
              · refine lv_iload_n F.1 F.2.1 (dd D_X9_eclipse 37 rfl) rfl (lv_at hl 3 rfl) ?_
                obtain rfl := Option.some.inj h
                exact rw_i (R := rmOf 7 0 0) F hP hD hS hr hlk ⟨Nat.le_of_ble_eq_true rfl, Nat.le_of_ble_eq_true rfl⟩ ⟨rfl, rfl⟩ (dd D_X9_eclipse 38 rfl)
    exact L8 n p1 _ _ ls hP hD hS (lv_sub hl [1, 2, 0] rfl) h
  · refine lv_aload_n F.1 F.2.1 (dd D_X9_eclipse 4 rfl) rfl (lv_at hl 0 rfl) ?_
    refine lv_bipush (v := (-2 : Int32)) F.1 F.2.1 (dd D_X9_eclipse 5 rfl) kb_m2 ?_
    obtain ⟨r16, e17, h⟩ := Option.bind_eq_some_iff.mp h
    refine rwe_all (st' := [.int r16.1]) hD hS hA (rV (rest := []) F (c_X9_refuse D cA am s n (-2 : Int32) r16 e17 l H.size) lk_X9_79 (Nat.le_of_ble_eq_true rfl) (preRW hK hS hAb hP hD) (rcv_9 hK hP (q0 := (0)) (mp_0 cA am s)) rfl hl rfl (Nat.le_of_ble_eq_true rfl) (dd D_X9_eclipse 6 rfl) ⟨Nat.le_of_ble_eq_true rfl, Nat.le_of_ble_eq_true rfl⟩) rfl (fun H locs hP hD hS => ?_)
    obtain rfl := Option.some.inj h
    exact rw_i (R := rmOf 7 0 0) F hP hD hS hr hlk ⟨Nat.le_of_ble_eq_true rfl, Nat.le_of_ble_eq_true rfl⟩ ⟨rfl, rfl⟩ (dd D_X9_eclipse 7 rfl)
def F_X9_highOf (n : Nat) (s : MS) (p1 : Int32) : Option Int32 := (((F_X9_rise n s p1)).bind fun r1 => some ((jrem (r1 + (180 : Int32)) (720 : Int32))))
set_option maxHeartbeats 4000000 in
set_option maxRecDepth 100000 in
theorem c_X9_highOf (D : va_G) (cA : Nat → ClassId) (am : Nat → Nat) (s : MS) (n : Nat) (p1 : Int32) (r : Int32) (h : F_X9_highOf n s p1 = some r) : RO m_X9_highOf 3 D cA [.ref (am 0), .int p1] (mW cA am s) (some (.int r)) := by
  refine RO.ofW gy_X9_highOf.2.2 (Nat.le_of_ble_eq_true rfl) ?_
  intro l p e sM m below meth c F hr hlk hK hP hS hAb ls hl
  have hl : lv_has ls 2 [(0, .ref (am 0)), (1, .int p1)] := hl
  unfold F_X9_highOf at h
  refine lv_aload_n F.1 F.2.1 (dd D_X9_highOf 0 rfl) rfl (lv_at hl 0 rfl) ?_
  refine lv_iload_n F.1 F.2.1 (dd D_X9_highOf 1 rfl) rfl (lv_at hl 1 rfl) ?_
  obtain ⟨r1, e2, h⟩ := Option.bind_eq_some_iff.mp h
  refine ro_go (st' := [.int r1]) (rV (rest := []) F (c_X9_rise D cA am s n p1 r1 e2 l) lk_X9_242 (Nat.le_of_ble_eq_true rfl) (preRO hK hS hAb hP) (rcv_9 hK hP (q0 := (0)) (mp_0 cA am s)) rfl hl rfl (Nat.le_of_ble_eq_true rfl) (dd D_X9_highOf 2 rfl) ⟨Nat.le_of_ble_eq_true rfl, Nat.le_of_ble_eq_true rfl⟩) rfl ?_
  refine lv_sipush (v := (180 : Int32)) F.1 F.2.1 (dd D_X9_highOf 3 rfl) ks_180 ?_
  refine lv_iadd F.1 F.2.1 (dd D_X9_highOf 4 rfl) ?_
  refine lv_sipush (v := (720 : Int32)) F.1 F.2.1 (dd D_X9_highOf 5 rfl) ks_720 ?_
  refine x_irem F.1 F.2.1 (dd D_X9_highOf 6 rfl) kd_720 ?_
  exact ro_i (R := rmOf 3 0 0) F hr hlk (congrArg (Option.map Value.int) h) (dd D_X9_highOf 7 rfl)
def F_X9_tide (n : Nat) (s : MS) (p1 : Int32) (p2 : Int32) : Option (Int32 × MS) := bf (F_X9_isDay (Int32.toInt64 p1)) (bf (F_X9_in (Int32.toInt64 p2) (0 : Int64) (1439 : Int64)) ((((F_X9_highOf n s p1)).bind fun r3 => (if (F_X9_mod (p2 - r3) (720 : Int32)) ≤ (360 : Int32) then (((F_X9_lit n s p1)).bind fun r6 => (if 0 ≤ (r6 - (50 : Int32)) then some (((50 : Int32) + (((r6 - (50 : Int32)) * ((180 : Int32) - (F_X9_mod (p2 - r3) (720 : Int32)))) / (180 : Int32))), s) else some (((50 : Int32) + (((-(r6 - (50 : Int32))) * ((180 : Int32) - (F_X9_mod (p2 - r3) (720 : Int32)))) / (180 : Int32))), s))) else (((F_X9_lit n s p1)).bind fun r9 => (if 0 ≤ (r9 - (50 : Int32)) then some (((50 : Int32) + (((r9 - (50 : Int32)) * ((180 : Int32) - ((720 : Int32) - (F_X9_mod (p2 - r3) (720 : Int32))))) / (180 : Int32))), s) else some (((50 : Int32) + (((-(r9 - (50 : Int32))) * ((180 : Int32) - ((720 : Int32) - (F_X9_mod (p2 - r3) (720 : Int32))))) / (180 : Int32))), s)))))) ((((F_X9_refuse n s (-2 : Int32))).bind fun r12 => some (r12.1, r12.2)))) ((((F_X9_refuse n s (-2 : Int32))).bind fun r1 => some (r1.1, r1.2)))
set_option maxHeartbeats 4000000 in
set_option maxRecDepth 100000 in
theorem c_X9_tide (D : va_G) (cA : Nat → ClassId) (am : Nat → Nat) (s : MS) (n : Nat) (p1 : Int32) (p2 : Int32) (r : (Int32 × MS)) (h : F_X9_tide n s p1 p2 = some r) : RW m_X9_tide 4 0 0 D cA [.ref (am 0), .int p1, .int p2] (mW cA am s) (exq (some (.int r.1)) (mW cA am r.2)) := by
  refine RW.ofW gy_X9_tide.2.2 (Nat.le_of_ble_eq_true rfl) ?_
  intro l p e sM m below meth c A H locs F hr hlk hnm hK hP hD hS hA hAb ls hl
  have hl : lv_has ls 5 [(0, .ref (am 0)), (1, .int p1), (2, .int p2)] := hl
  unfold F_X9_tide at h
  refine lv_iload_n F.1 F.2.1 (dd D_X9_tide 0 rfl) rfl (lv_at hl 1 rfl) ?_
  refine lv_i2l (v := (Int32.toInt64 p1)) F.1 F.2.1 (dd D_X9_tide 1 rfl) rfl ?_
  refine ro_go (st' := [.int (bI (F_X9_isDay (Int32.toInt64 p1)))]) (rS (rest := []) F (c_X9_isDay D cA (Int32.toInt64 p1) l) lk_X9_67 (Nat.le_of_ble_eq_true rfl) (preRO hK hS hAb (emP)) rfl hl rfl (Nat.le_of_ble_eq_true rfl) (dd D_X9_tide 2 rfl) ⟨Nat.le_of_ble_eq_true rfl, Nat.le_of_ble_eq_true rfl⟩) rfl ?_
  refine x_bif_eq (tgt := 20) F.1 F.2.1 (dd D_X9_tide 3 rfl) rfl h (fun c15 h => ?_) (fun c15 h => ?_)
  · refine lv_aload_n F.1 F.2.1 (dd D_X9_tide 10 rfl) rfl (lv_at hl 0 rfl) ?_
    refine lv_bipush (v := (-2 : Int32)) F.1 F.2.1 (dd D_X9_tide 11 rfl) kb_m2 ?_
    obtain ⟨r1, e2, h⟩ := Option.bind_eq_some_iff.mp h
    refine rwe_all (st' := [.int r1.1]) hD hS hA (rV (rest := []) F (c_X9_refuse D cA am s n (-2 : Int32) r1 e2 l H.size) lk_X9_79 (Nat.le_of_ble_eq_true rfl) (preRW hK hS hAb hP hD) (rcv_9 hK hP (q0 := (0)) (mp_0 cA am s)) rfl hl rfl (Nat.le_of_ble_eq_true rfl) (dd D_X9_tide 12 rfl) ⟨Nat.le_of_ble_eq_true rfl, Nat.le_of_ble_eq_true rfl⟩) rfl (fun H locs hP hD hS => ?_)
    obtain rfl := Option.some.inj h
    exact rw_i (R := rmOf 4 0 0) F hP hD hS hr hlk ⟨Nat.le_of_ble_eq_true rfl, Nat.le_of_ble_eq_true rfl⟩ ⟨rfl, rfl⟩ (dd D_X9_tide 13 rfl)
  · refine lv_iload_n F.1 F.2.1 (dd D_X9_tide 4 rfl) rfl (lv_at hl 2 rfl) ?_
    refine lv_i2l (v := (Int32.toInt64 p2)) F.1 F.2.1 (dd D_X9_tide 5 rfl) rfl ?_
    refine lv_lconst (v := (0 : Int64)) F.1 F.2.1 (dd D_X9_tide 6 rfl) kl_0 ?_
    refine lv_ldc2 (own := RX9) (v := (1439 : Int64)) F.1 F.2.1 F.2.2.2.1 (F.2.2.2.2 _ (kL_X9_289)) (dd D_X9_tide 7 rfl) ?_
    refine ro_go (st' := [.int (bI (F_X9_in (Int32.toInt64 p2) (0 : Int64) (1439 : Int64)))]) (rS (rest := []) F (c_X9_in D cA (Int32.toInt64 p2) (0 : Int64) (1439 : Int64) l) lk_X9_63 (Nat.le_of_ble_eq_true rfl) (preRO hK hS hAb (emP)) rfl hl rfl (Nat.le_of_ble_eq_true rfl) (dd D_X9_tide 8 rfl) ⟨Nat.le_of_ble_eq_true rfl, Nat.le_of_ble_eq_true rfl⟩) rfl ?_
    refine x_bif_ne (tgt := 27) F.1 F.2.1 (dd D_X9_tide 9 rfl) rfl h (fun c14 h => ?_) (fun c14 h => ?_)
    · refine lv_iload_n F.1 F.2.1 (dd D_X9_tide 14 rfl) rfl (lv_at hl 2 rfl) ?_
      refine lv_aload_n F.1 F.2.1 (dd D_X9_tide 15 rfl) rfl (lv_at hl 0 rfl) ?_
      refine lv_iload_n F.1 F.2.1 (dd D_X9_tide 16 rfl) rfl (lv_at hl 1 rfl) ?_
      obtain ⟨r3, e4, h⟩ := Option.bind_eq_some_iff.mp h
      refine ro_go (st' := [.int r3, .int p2]) (rV (rest := [.int p2]) F (c_X9_highOf D cA am s n p1 r3 e4 l) lk_X9_309 (Nat.le_of_ble_eq_true rfl) (preRO hK hS hAb hP) (rcv_9 hK hP (q0 := (0)) (mp_0 cA am s)) rfl hl rfl (Nat.le_of_ble_eq_true rfl) (dd D_X9_tide 17 rfl) ⟨Nat.le_of_ble_eq_true rfl, Nat.le_of_ble_eq_true rfl⟩) rfl ?_
      refine lv_isub F.1 F.2.1 (dd D_X9_tide 18 rfl) ?_
      refine lv_sipush (v := (720 : Int32)) F.1 F.2.1 (dd D_X9_tide 19 rfl) ks_720 ?_
      refine ro_go (st' := [.int (F_X9_mod (p2 - r3) (720 : Int32))]) (rS (rest := []) F (c_X9_mod D cA (p2 - r3) (720 : Int32) kd_720 l) lk_X9_230 (Nat.le_of_ble_eq_true rfl) (preRO hK hS hAb (emP)) rfl hl rfl (Nat.le_of_ble_eq_true rfl) (dd D_X9_tide 20 rfl) ⟨Nat.le_of_ble_eq_true rfl, Nat.le_of_ble_eq_true rfl⟩) rfl ?_
      refine lv_istore_n (lv' := [(3, .int (F_X9_mod (p2 - r3) (720 : Int32))), (0, .ref (am 0)), (1, .int p1), (2, .int p2)]) F.1 F.2.1 (dd D_X9_tide 21 rfl) rfl hl (Nat.le_of_ble_eq_true rfl) rfl (fun ls hl => ?_)
      refine lv_iload_n F.1 F.2.1 (dd D_X9_tide 22 rfl) rfl (lv_at hl 0 rfl) ?_
      refine lv_sipush (v := (360 : Int32)) F.1 F.2.1 (dd D_X9_tide 23 rfl) ks_360 ?_
      refine x_icmp_le (tgt := 56) F.1 F.2.1 (dd D_X9_tide 24 rfl) rfl h (fun c5 h => ?_) (fun c5 h => ?_)
      · refine lv_iload_n F.1 F.2.1 (dd D_X9_tide 29 rfl) rfl (lv_at hl 0 rfl) ?_
        refine lv_istore_n (lv' := [(3, .int (F_X9_mod (p2 - r3) (720 : Int32))), (0, .ref (am 0)), (1, .int p1), (2, .int p2)]) F.1 F.2.1 (dd D_X9_tide 30 rfl) rfl hl (Nat.le_of_ble_eq_true rfl) rfl (fun ls hl => ?_)
        refine lv_aload_n F.1 F.2.1 (dd D_X9_tide 31 rfl) rfl (lv_at hl 1 rfl) ?_
        refine lv_iload_n F.1 F.2.1 (dd D_X9_tide 32 rfl) rfl (lv_at hl 2 rfl) ?_
        obtain ⟨r6, e7, h⟩ := Option.bind_eq_some_iff.mp h
        refine ro_go (st' := [.int r6]) (rV (rest := []) F (c_X9_lit D cA am s n p1 r6 e7 l) lk_X9_253 (Nat.le_of_ble_eq_true rfl) (preRO hK hS hAb hP) (rcv_9 hK hP (q0 := (0)) (mp_0 cA am s)) rfl hl rfl (Nat.le_of_ble_eq_true rfl) (dd D_X9_tide 33 rfl) ⟨Nat.le_of_ble_eq_true rfl, Nat.le_of_ble_eq_true rfl⟩) rfl ?_
        refine lv_bipush (v := (50 : Int32)) F.1 F.2.1 (dd D_X9_tide 34 rfl) kb_50 ?_
        refine lv_isub F.1 F.2.1 (dd D_X9_tide 35 rfl) ?_
        refine lv_istore (lv' := [(4, .int (r6 - (50 : Int32))), (3, .int (F_X9_mod (p2 - r3) (720 : Int32))), (0, .ref (am 0)), (1, .int p1), (2, .int p2)]) F.1 F.2.1 (dd D_X9_tide 36 rfl) hl (Nat.le_of_ble_eq_true rfl) rfl (fun ls hl => ?_)
        refine lv_iload F.1 F.2.1 (dd D_X9_tide 37 rfl) (lv_at hl 0 rfl) ?_
        refine x_if_ge (tgt := 79) F.1 F.2.1 (dd D_X9_tide 38 rfl) rfl h (fun c8 h => ?_) (fun c8 h => ?_)
        · refine lv_iload F.1 F.2.1 (dd D_X9_tide 42 rfl) (lv_at hl 0 rfl) ?_
          refine lv_istore (lv' := [(4, .int (r6 - (50 : Int32))), (3, .int (F_X9_mod (p2 - r3) (720 : Int32))), (0, .ref (am 0)), (1, .int p1), (2, .int p2)]) F.1 F.2.1 (dd D_X9_tide 43 rfl) hl (Nat.le_of_ble_eq_true rfl) rfl (fun ls hl => ?_)
          refine lv_bipush (v := (50 : Int32)) F.1 F.2.1 (dd D_X9_tide 44 rfl) kb_50 ?_
          refine lv_iload F.1 F.2.1 (dd D_X9_tide 45 rfl) (lv_at hl 0 rfl) ?_
          refine lv_sipush (v := (180 : Int32)) F.1 F.2.1 (dd D_X9_tide 46 rfl) ks_180 ?_
          refine lv_iload_n F.1 F.2.1 (dd D_X9_tide 47 rfl) rfl (lv_at hl 1 rfl) ?_
          refine lv_isub F.1 F.2.1 (dd D_X9_tide 48 rfl) ?_
          refine lv_imul F.1 F.2.1 (dd D_X9_tide 49 rfl) ?_
          refine lv_sipush (v := (180 : Int32)) F.1 F.2.1 (dd D_X9_tide 50 rfl) ks_180 ?_
          refine lv_idiv F.1 F.2.1 (dd D_X9_tide 51 rfl) kd_180 ?_
          refine lv_iadd F.1 F.2.1 (dd D_X9_tide 52 rfl) ?_
          obtain rfl := Option.some.inj h
          exact rw_i (R := rmOf 4 0 0) F hP hD hS hr hlk ⟨Nat.le_of_ble_eq_true rfl, Nat.le_of_ble_eq_true rfl⟩ ⟨rfl, rfl⟩ (dd D_X9_tide 53 rfl)
        · refine lv_iload F.1 F.2.1 (dd D_X9_tide 39 rfl) (lv_at hl 0 rfl) ?_
          refine lv_ineg F.1 F.2.1 (dd D_X9_tide 40 rfl) ?_
          refine lv_goto (tgt := 81) F.1 F.2.1 (dd D_X9_tide 41 rfl) rfl ?_
          refine lv_istore (lv' := [(4, .int (-(r6 - (50 : Int32)))), (3, .int (F_X9_mod (p2 - r3) (720 : Int32))), (0, .ref (am 0)), (1, .int p1), (2, .int p2)]) F.1 F.2.1 (dd D_X9_tide 43 rfl) hl (Nat.le_of_ble_eq_true rfl) rfl (fun ls hl => ?_)
          refine lv_bipush (v := (50 : Int32)) F.1 F.2.1 (dd D_X9_tide 44 rfl) kb_50 ?_
          refine lv_iload F.1 F.2.1 (dd D_X9_tide 45 rfl) (lv_at hl 0 rfl) ?_
          refine lv_sipush (v := (180 : Int32)) F.1 F.2.1 (dd D_X9_tide 46 rfl) ks_180 ?_
          refine lv_iload_n F.1 F.2.1 (dd D_X9_tide 47 rfl) rfl (lv_at hl 1 rfl) ?_
          refine lv_isub F.1 F.2.1 (dd D_X9_tide 48 rfl) ?_
          refine lv_imul F.1 F.2.1 (dd D_X9_tide 49 rfl) ?_
          refine lv_sipush (v := (180 : Int32)) F.1 F.2.1 (dd D_X9_tide 50 rfl) ks_180 ?_
          refine lv_idiv F.1 F.2.1 (dd D_X9_tide 51 rfl) kd_180 ?_
          refine lv_iadd F.1 F.2.1 (dd D_X9_tide 52 rfl) ?_
          obtain rfl := Option.some.inj h
          exact rw_i (R := rmOf 4 0 0) F hP hD hS hr hlk ⟨Nat.le_of_ble_eq_true rfl, Nat.le_of_ble_eq_true rfl⟩ ⟨rfl, rfl⟩ (dd D_X9_tide 53 rfl)
      · refine lv_sipush (v := (720 : Int32)) F.1 F.2.1 (dd D_X9_tide 25 rfl) ks_720 ?_
        refine lv_iload_n F.1 F.2.1 (dd D_X9_tide 26 rfl) rfl (lv_at hl 0 rfl) ?_
        refine lv_isub F.1 F.2.1 (dd D_X9_tide 27 rfl) ?_
        refine lv_goto (tgt := 57) F.1 F.2.1 (dd D_X9_tide 28 rfl) rfl ?_
        refine lv_istore_n (lv' := [(3, .int ((720 : Int32) - (F_X9_mod (p2 - r3) (720 : Int32)))), (0, .ref (am 0)), (1, .int p1), (2, .int p2)]) F.1 F.2.1 (dd D_X9_tide 30 rfl) rfl hl (Nat.le_of_ble_eq_true rfl) rfl (fun ls hl => ?_)
        refine lv_aload_n F.1 F.2.1 (dd D_X9_tide 31 rfl) rfl (lv_at hl 1 rfl) ?_
        refine lv_iload_n F.1 F.2.1 (dd D_X9_tide 32 rfl) rfl (lv_at hl 2 rfl) ?_
        obtain ⟨r9, e10, h⟩ := Option.bind_eq_some_iff.mp h
        refine ro_go (st' := [.int r9]) (rV (rest := []) F (c_X9_lit D cA am s n p1 r9 e10 l) lk_X9_253 (Nat.le_of_ble_eq_true rfl) (preRO hK hS hAb hP) (rcv_9 hK hP (q0 := (0)) (mp_0 cA am s)) rfl hl rfl (Nat.le_of_ble_eq_true rfl) (dd D_X9_tide 33 rfl) ⟨Nat.le_of_ble_eq_true rfl, Nat.le_of_ble_eq_true rfl⟩) rfl ?_
        refine lv_bipush (v := (50 : Int32)) F.1 F.2.1 (dd D_X9_tide 34 rfl) kb_50 ?_
        refine lv_isub F.1 F.2.1 (dd D_X9_tide 35 rfl) ?_
        refine lv_istore (lv' := [(4, .int (r9 - (50 : Int32))), (3, .int ((720 : Int32) - (F_X9_mod (p2 - r3) (720 : Int32)))), (0, .ref (am 0)), (1, .int p1), (2, .int p2)]) F.1 F.2.1 (dd D_X9_tide 36 rfl) hl (Nat.le_of_ble_eq_true rfl) rfl (fun ls hl => ?_)
        refine lv_iload F.1 F.2.1 (dd D_X9_tide 37 rfl) (lv_at hl 0 rfl) ?_
        refine x_if_ge (tgt := 79) F.1 F.2.1 (dd D_X9_tide 38 rfl) rfl h (fun c11 h => ?_) (fun c11 h => ?_)
        · refine lv_iload F.1 F.2.1 (dd D_X9_tide 42 rfl) (lv_at hl 0 rfl) ?_
          refine lv_istore (lv' := [(4, .int (r9 - (50 : Int32))), (3, .int ((720 : Int32) - (F_X9_mod (p2 - r3) (720 : Int32)))), (0, .ref (am 0)), (1, .int p1), (2, .int p2)]) F.1 F.2.1 (dd D_X9_tide 43 rfl) hl (Nat.le_of_ble_eq_true rfl) rfl (fun ls hl => ?_)
          refine lv_bipush (v := (50 : Int32)) F.1 F.2.1 (dd D_X9_tide 44 rfl) kb_50 ?_
          refine lv_iload F.1 F.2.1 (dd D_X9_tide 45 rfl) (lv_at hl 0 rfl) ?_
          refine lv_sipush (v := (180 : Int32)) F.1 F.2.1 (dd D_X9_tide 46 rfl) ks_180 ?_
          refine lv_iload_n F.1 F.2.1 (dd D_X9_tide 47 rfl) rfl (lv_at hl 1 rfl) ?_
          refine lv_isub F.1 F.2.1 (dd D_X9_tide 48 rfl) ?_
          refine lv_imul F.1 F.2.1 (dd D_X9_tide 49 rfl) ?_
          refine lv_sipush (v := (180 : Int32)) F.1 F.2.1 (dd D_X9_tide 50 rfl) ks_180 ?_
          refine lv_idiv F.1 F.2.1 (dd D_X9_tide 51 rfl) kd_180 ?_
          refine lv_iadd F.1 F.2.1 (dd D_X9_tide 52 rfl) ?_
          obtain rfl := Option.some.inj h
          exact rw_i (R := rmOf 4 0 0) F hP hD hS hr hlk ⟨Nat.le_of_ble_eq_true rfl, Nat.le_of_ble_eq_true rfl⟩ ⟨rfl, rfl⟩ (dd D_X9_tide 53 rfl)
        · refine lv_iload F.1 F.2.1 (dd D_X9_tide 39 rfl) (lv_at hl 0 rfl) ?_
          refine lv_ineg F.1 F.2.1 (dd D_X9_tide 40 rfl) ?_
          refine lv_goto (tgt := 81) F.1 F.2.1 (dd D_X9_tide 41 rfl) rfl ?_
          refine lv_istore (lv' := [(4, .int (-(r9 - (50 : Int32)))), (3, .int ((720 : Int32) - (F_X9_mod (p2 - r3) (720 : Int32)))), (0, .ref (am 0)), (1, .int p1), (2, .int p2)]) F.1 F.2.1 (dd D_X9_tide 43 rfl) hl (Nat.le_of_ble_eq_true rfl) rfl (fun ls hl => ?_)
          refine lv_bipush (v := (50 : Int32)) F.1 F.2.1 (dd D_X9_tide 44 rfl) kb_50 ?_
          refine lv_iload F.1 F.2.1 (dd D_X9_tide 45 rfl) (lv_at hl 0 rfl) ?_
          refine lv_sipush (v := (180 : Int32)) F.1 F.2.1 (dd D_X9_tide 46 rfl) ks_180 ?_
          refine lv_iload_n F.1 F.2.1 (dd D_X9_tide 47 rfl) rfl (lv_at hl 1 rfl) ?_
          refine lv_isub F.1 F.2.1 (dd D_X9_tide 48 rfl) ?_
          refine lv_imul F.1 F.2.1 (dd D_X9_tide 49 rfl) ?_
          refine lv_sipush (v := (180 : Int32)) F.1 F.2.1 (dd D_X9_tide 50 rfl) ks_180 ?_
          refine lv_idiv F.1 F.2.1 (dd D_X9_tide 51 rfl) kd_180 ?_
          refine lv_iadd F.1 F.2.1 (dd D_X9_tide 52 rfl) ?_
          obtain rfl := Option.some.inj h
          exact rw_i (R := rmOf 4 0 0) F hP hD hS hr hlk ⟨Nat.le_of_ble_eq_true rfl, Nat.le_of_ble_eq_true rfl⟩ ⟨rfl, rfl⟩ (dd D_X9_tide 53 rfl)
    · refine lv_aload_n F.1 F.2.1 (dd D_X9_tide 10 rfl) rfl (lv_at hl 0 rfl) ?_
      refine lv_bipush (v := (-2 : Int32)) F.1 F.2.1 (dd D_X9_tide 11 rfl) kb_m2 ?_
      obtain ⟨r12, e13, h⟩ := Option.bind_eq_some_iff.mp h
      refine rwe_all (st' := [.int r12.1]) hD hS hA (rV (rest := []) F (c_X9_refuse D cA am s n (-2 : Int32) r12 e13 l H.size) lk_X9_79 (Nat.le_of_ble_eq_true rfl) (preRW hK hS hAb hP hD) (rcv_9 hK hP (q0 := (0)) (mp_0 cA am s)) rfl hl rfl (Nat.le_of_ble_eq_true rfl) (dd D_X9_tide 12 rfl) ⟨Nat.le_of_ble_eq_true rfl, Nat.le_of_ble_eq_true rfl⟩) rfl (fun H locs hP hD hS => ?_)
      obtain rfl := Option.some.inj h
      exact rw_i (R := rmOf 4 0 0) F hP hD hS hr hlk ⟨Nat.le_of_ble_eq_true rfl, Nat.le_of_ble_eq_true rfl⟩ ⟨rfl, rfl⟩ (dd D_X9_tide 13 rfl)
def F_X9_high (n : Nat) (s : MS) (p1 : Int32) : Option (Int32 × MS) := bf (F_X9_isDay (Int32.toInt64 p1)) ((((F_X9_highOf n s p1)).bind fun r3 => some (r3, s))) ((((F_X9_refuse n s (-2 : Int32))).bind fun r1 => some (r1.1, r1.2)))
set_option maxHeartbeats 4000000 in
set_option maxRecDepth 100000 in
theorem c_X9_high (D : va_G) (cA : Nat → ClassId) (am : Nat → Nat) (s : MS) (n : Nat) (p1 : Int32) (r : (Int32 × MS)) (h : F_X9_high n s p1 = some r) : RW m_X9_high 4 0 0 D cA [.ref (am 0), .int p1] (mW cA am s) (exq (some (.int r.1)) (mW cA am r.2)) := by
  refine RW.ofW gy_X9_high.2.2 (Nat.le_of_ble_eq_true rfl) ?_
  intro l p e sM m below meth c A H locs F hr hlk hnm hK hP hD hS hA hAb ls hl
  have hl : lv_has ls 2 [(0, .ref (am 0)), (1, .int p1)] := hl
  unfold F_X9_high at h
  refine lv_iload_n F.1 F.2.1 (dd D_X9_high 0 rfl) rfl (lv_at hl 1 rfl) ?_
  refine lv_i2l (v := (Int32.toInt64 p1)) F.1 F.2.1 (dd D_X9_high 1 rfl) rfl ?_
  refine ro_go (st' := [.int (bI (F_X9_isDay (Int32.toInt64 p1)))]) (rS (rest := []) F (c_X9_isDay D cA (Int32.toInt64 p1) l) lk_X9_67 (Nat.le_of_ble_eq_true rfl) (preRO hK hS hAb (emP)) rfl hl rfl (Nat.le_of_ble_eq_true rfl) (dd D_X9_high 2 rfl) ⟨Nat.le_of_ble_eq_true rfl, Nat.le_of_ble_eq_true rfl⟩) rfl ?_
  refine x_bif_eq (tgt := 16) F.1 F.2.1 (dd D_X9_high 3 rfl) rfl h (fun c5 h => ?_) (fun c5 h => ?_)
  · refine lv_aload_n F.1 F.2.1 (dd D_X9_high 8 rfl) rfl (lv_at hl 0 rfl) ?_
    refine lv_bipush (v := (-2 : Int32)) F.1 F.2.1 (dd D_X9_high 9 rfl) kb_m2 ?_
    obtain ⟨r1, e2, h⟩ := Option.bind_eq_some_iff.mp h
    refine rwe_all (st' := [.int r1.1]) hD hS hA (rV (rest := []) F (c_X9_refuse D cA am s n (-2 : Int32) r1 e2 l H.size) lk_X9_79 (Nat.le_of_ble_eq_true rfl) (preRW hK hS hAb hP hD) (rcv_9 hK hP (q0 := (0)) (mp_0 cA am s)) rfl hl rfl (Nat.le_of_ble_eq_true rfl) (dd D_X9_high 10 rfl) ⟨Nat.le_of_ble_eq_true rfl, Nat.le_of_ble_eq_true rfl⟩) rfl (fun H locs hP hD hS => ?_)
    obtain rfl := Option.some.inj h
    exact rw_i (R := rmOf 4 0 0) F hP hD hS hr hlk ⟨Nat.le_of_ble_eq_true rfl, Nat.le_of_ble_eq_true rfl⟩ ⟨rfl, rfl⟩ (dd D_X9_high 11 rfl)
  · refine lv_aload_n F.1 F.2.1 (dd D_X9_high 4 rfl) rfl (lv_at hl 0 rfl) ?_
    refine lv_iload_n F.1 F.2.1 (dd D_X9_high 5 rfl) rfl (lv_at hl 1 rfl) ?_
    obtain ⟨r3, e4, h⟩ := Option.bind_eq_some_iff.mp h
    refine ro_go (st' := [.int r3]) (rV (rest := []) F (c_X9_highOf D cA am s n p1 r3 e4 l) lk_X9_309 (Nat.le_of_ble_eq_true rfl) (preRO hK hS hAb hP) (rcv_9 hK hP (q0 := (0)) (mp_0 cA am s)) rfl hl rfl (Nat.le_of_ble_eq_true rfl) (dd D_X9_high 6 rfl) ⟨Nat.le_of_ble_eq_true rfl, Nat.le_of_ble_eq_true rfl⟩) rfl ?_
    refine lv_goto (tgt := 22) F.1 F.2.1 (dd D_X9_high 7 rfl) rfl ?_
    obtain rfl := Option.some.inj h
    exact rw_i (R := rmOf 4 0 0) F hP hD hS hr hlk ⟨Nat.le_of_ble_eq_true rfl, Nat.le_of_ble_eq_true rfl⟩ ⟨rfl, rfl⟩ (dd D_X9_high 11 rfl)
def F_X9_bone_L98 (n : Nat) (u0 : MS) (ky0 : Nat) (v1 : Int32) (v2 : Int32) (v3 : Int32) (v4 : Int32) : Nat → Int32 → Int32 → Int32 → Int32 → Int32 → Option (Int32 × MS)
  | 0, _, _, _, _, _ => none
  | kf + 1, w6, w7, w8, w9, w10 => (if v2 ≤ w10 then (if v3 = 0 then some (w6, u0) else (if v3 = (1 : Int32) then some (w8, u0) else some (w9, u0))) else gd (inb w10 40) (bf (F_X9_in ((m_rows u0 ky0) (Int32.toNatClampNeg w10)) (29 : Int64) (30 : Int64)) (bf (F_X9_in ((m_rows u0 ky0) (Int32.toNatClampNeg w10)) (29 : Int64) (30 : Int64)) ((if (w7 + (1 : Int32)) ≤ w8 then (if w10 < (2 : Int32) then F_X9_bone_L98 n u0 ky0 v1 v2 v3 v4 kf (w6 + (1 : Int32)) (w7 + (1 : Int32)) w8 (w9 + (0 : Int32)) (w10 + (1 : Int32)) else gd (inb w10 40) (gd (inb (w10 - (1 : Int32)) 40) (gd (inb (w10 - (2 : Int32)) 40) (bf (F_X9_in ((((m_rows u0 ky0) (Int32.toNatClampNeg w10)) + ((m_rows u0 ky0) (Int32.toNatClampNeg (w10 - (1 : Int32))))) + ((m_rows u0 ky0) (Int32.toNatClampNeg (w10 - (2 : Int32))))) (88 : Int64) (89 : Int64)) (F_X9_bone_L98 n u0 ky0 v1 v2 v3 v4 kf (w6 + (1 : Int32)) (w7 + (1 : Int32)) w8 (w9 + (1 : Int32)) (w10 + (1 : Int32))) (F_X9_bone_L98 n u0 ky0 v1 v2 v3 v4 kf (w6 + (1 : Int32)) (w7 + (1 : Int32)) w8 (w9 + (0 : Int32)) (w10 + (1 : Int32))))))) else (if w10 < (2 : Int32) then F_X9_bone_L98 n u0 ky0 v1 v2 v3 v4 kf (w6 + (1 : Int32)) (w7 + (1 : Int32)) (w7 + (1 : Int32)) (w9 + (0 : Int32)) (w10 + (1 : Int32)) else gd (inb w10 40) (gd (inb (w10 - (1 : Int32)) 40) (gd (inb (w10 - (2 : Int32)) 40) (bf (F_X9_in ((((m_rows u0 ky0) (Int32.toNatClampNeg w10)) + ((m_rows u0 ky0) (Int32.toNatClampNeg (w10 - (1 : Int32))))) + ((m_rows u0 ky0) (Int32.toNatClampNeg (w10 - (2 : Int32))))) (88 : Int64) (89 : Int64)) (F_X9_bone_L98 n u0 ky0 v1 v2 v3 v4 kf (w6 + (1 : Int32)) (w7 + (1 : Int32)) (w7 + (1 : Int32)) (w9 + (1 : Int32)) (w10 + (1 : Int32))) (F_X9_bone_L98 n u0 ky0 v1 v2 v3 v4 kf (w6 + (1 : Int32)) (w7 + (1 : Int32)) (w7 + (1 : Int32)) (w9 + (0 : Int32)) (w10 + (1 : Int32))))))))) ((if (0 : Int32) ≤ w8 then (if w10 < (2 : Int32) then F_X9_bone_L98 n u0 ky0 v1 v2 v3 v4 kf (w6 + (1 : Int32)) (0 : Int32) w8 (w9 + (0 : Int32)) (w10 + (1 : Int32)) else gd (inb w10 40) (gd (inb (w10 - (1 : Int32)) 40) (gd (inb (w10 - (2 : Int32)) 40) (bf (F_X9_in ((((m_rows u0 ky0) (Int32.toNatClampNeg w10)) + ((m_rows u0 ky0) (Int32.toNatClampNeg (w10 - (1 : Int32))))) + ((m_rows u0 ky0) (Int32.toNatClampNeg (w10 - (2 : Int32))))) (88 : Int64) (89 : Int64)) (F_X9_bone_L98 n u0 ky0 v1 v2 v3 v4 kf (w6 + (1 : Int32)) (0 : Int32) w8 (w9 + (1 : Int32)) (w10 + (1 : Int32))) (F_X9_bone_L98 n u0 ky0 v1 v2 v3 v4 kf (w6 + (1 : Int32)) (0 : Int32) w8 (w9 + (0 : Int32)) (w10 + (1 : Int32))))))) else (if w10 < (2 : Int32) then F_X9_bone_L98 n u0 ky0 v1 v2 v3 v4 kf (w6 + (1 : Int32)) (0 : Int32) (0 : Int32) (w9 + (0 : Int32)) (w10 + (1 : Int32)) else gd (inb w10 40) (gd (inb (w10 - (1 : Int32)) 40) (gd (inb (w10 - (2 : Int32)) 40) (bf (F_X9_in ((((m_rows u0 ky0) (Int32.toNatClampNeg w10)) + ((m_rows u0 ky0) (Int32.toNatClampNeg (w10 - (1 : Int32))))) + ((m_rows u0 ky0) (Int32.toNatClampNeg (w10 - (2 : Int32))))) (88 : Int64) (89 : Int64)) (F_X9_bone_L98 n u0 ky0 v1 v2 v3 v4 kf (w6 + (1 : Int32)) (0 : Int32) (0 : Int32) (w9 + (1 : Int32)) (w10 + (1 : Int32))) (F_X9_bone_L98 n u0 ky0 v1 v2 v3 v4 kf (w6 + (1 : Int32)) (0 : Int32) (0 : Int32) (w9 + (0 : Int32)) (w10 + (1 : Int32)))))))))) (bf (F_X9_in ((m_rows u0 ky0) (Int32.toNatClampNeg w10)) (29 : Int64) (30 : Int64)) ((if (w7 + (1 : Int32)) ≤ w8 then (if w10 < (2 : Int32) then F_X9_bone_L98 n u0 ky0 v1 v2 v3 v4 kf (w6 + (0 : Int32)) (w7 + (1 : Int32)) w8 (w9 + (0 : Int32)) (w10 + (1 : Int32)) else gd (inb w10 40) (gd (inb (w10 - (1 : Int32)) 40) (gd (inb (w10 - (2 : Int32)) 40) (bf (F_X9_in ((((m_rows u0 ky0) (Int32.toNatClampNeg w10)) + ((m_rows u0 ky0) (Int32.toNatClampNeg (w10 - (1 : Int32))))) + ((m_rows u0 ky0) (Int32.toNatClampNeg (w10 - (2 : Int32))))) (88 : Int64) (89 : Int64)) (F_X9_bone_L98 n u0 ky0 v1 v2 v3 v4 kf (w6 + (0 : Int32)) (w7 + (1 : Int32)) w8 (w9 + (1 : Int32)) (w10 + (1 : Int32))) (F_X9_bone_L98 n u0 ky0 v1 v2 v3 v4 kf (w6 + (0 : Int32)) (w7 + (1 : Int32)) w8 (w9 + (0 : Int32)) (w10 + (1 : Int32))))))) else (if w10 < (2 : Int32) then F_X9_bone_L98 n u0 ky0 v1 v2 v3 v4 kf (w6 + (0 : Int32)) (w7 + (1 : Int32)) (w7 + (1 : Int32)) (w9 + (0 : Int32)) (w10 + (1 : Int32)) else gd (inb w10 40) (gd (inb (w10 - (1 : Int32)) 40) (gd (inb (w10 - (2 : Int32)) 40) (bf (F_X9_in ((((m_rows u0 ky0) (Int32.toNatClampNeg w10)) + ((m_rows u0 ky0) (Int32.toNatClampNeg (w10 - (1 : Int32))))) + ((m_rows u0 ky0) (Int32.toNatClampNeg (w10 - (2 : Int32))))) (88 : Int64) (89 : Int64)) (F_X9_bone_L98 n u0 ky0 v1 v2 v3 v4 kf (w6 + (0 : Int32)) (w7 + (1 : Int32)) (w7 + (1 : Int32)) (w9 + (1 : Int32)) (w10 + (1 : Int32))) (F_X9_bone_L98 n u0 ky0 v1 v2 v3 v4 kf (w6 + (0 : Int32)) (w7 + (1 : Int32)) (w7 + (1 : Int32)) (w9 + (0 : Int32)) (w10 + (1 : Int32))))))))) ((if (0 : Int32) ≤ w8 then (if w10 < (2 : Int32) then F_X9_bone_L98 n u0 ky0 v1 v2 v3 v4 kf (w6 + (0 : Int32)) (0 : Int32) w8 (w9 + (0 : Int32)) (w10 + (1 : Int32)) else gd (inb w10 40) (gd (inb (w10 - (1 : Int32)) 40) (gd (inb (w10 - (2 : Int32)) 40) (bf (F_X9_in ((((m_rows u0 ky0) (Int32.toNatClampNeg w10)) + ((m_rows u0 ky0) (Int32.toNatClampNeg (w10 - (1 : Int32))))) + ((m_rows u0 ky0) (Int32.toNatClampNeg (w10 - (2 : Int32))))) (88 : Int64) (89 : Int64)) (F_X9_bone_L98 n u0 ky0 v1 v2 v3 v4 kf (w6 + (0 : Int32)) (0 : Int32) w8 (w9 + (1 : Int32)) (w10 + (1 : Int32))) (F_X9_bone_L98 n u0 ky0 v1 v2 v3 v4 kf (w6 + (0 : Int32)) (0 : Int32) w8 (w9 + (0 : Int32)) (w10 + (1 : Int32))))))) else (if w10 < (2 : Int32) then F_X9_bone_L98 n u0 ky0 v1 v2 v3 v4 kf (w6 + (0 : Int32)) (0 : Int32) (0 : Int32) (w9 + (0 : Int32)) (w10 + (1 : Int32)) else gd (inb w10 40) (gd (inb (w10 - (1 : Int32)) 40) (gd (inb (w10 - (2 : Int32)) 40) (bf (F_X9_in ((((m_rows u0 ky0) (Int32.toNatClampNeg w10)) + ((m_rows u0 ky0) (Int32.toNatClampNeg (w10 - (1 : Int32))))) + ((m_rows u0 ky0) (Int32.toNatClampNeg (w10 - (2 : Int32))))) (88 : Int64) (89 : Int64)) (F_X9_bone_L98 n u0 ky0 v1 v2 v3 v4 kf (w6 + (0 : Int32)) (0 : Int32) (0 : Int32) (w9 + (1 : Int32)) (w10 + (1 : Int32))) (F_X9_bone_L98 n u0 ky0 v1 v2 v3 v4 kf (w6 + (0 : Int32)) (0 : Int32) (0 : Int32) (w9 + (0 : Int32)) (w10 + (1 : Int32))))))))))))
def F_X9_bone (n : Nat) (s : MS) (p1 : Int32) (p2 : Int32) (p3 : Int32) : Option (Int32 × MS) := bf (F_X9_in (Int32.toInt64 p1) (0 : Int64) (7 : Int64)) (bf (F_X9_in (Int32.toInt64 p2) (1 : Int64) (40 : Int64)) (bf (F_X9_in (Int32.toInt64 p3) (0 : Int64) (2 : Int64)) ((((F_X9_noRow n s p1)).bind fun r5 => (if r5.1 = 0 then gd (inb p1 8) ((if p2 ≤ ((m_rowSize r5.2) (Int32.toNatClampNeg p1)) then gd (inb p1 8) (F_X9_bone_L98 n r5.2 (Int32.toNatClampNeg p1) p1 p2 p3 r5.1 n (0 : Int32) (0 : Int32) (0 : Int32) (0 : Int32) (0 : Int32)) else (((F_X9_refuse n r5.2 (-2 : Int32))).bind fun r115 => some (r115.1, r115.2)))) else some (r5.1, r5.2)))) ((((F_X9_refuse n s (-2 : Int32))).bind fun r117 => some (r117.1, r117.2)))) ((((F_X9_refuse n s (-2 : Int32))).bind fun r3 => some (r3.1, r3.2)))) ((((F_X9_refuse n s (-2 : Int32))).bind fun r1 => some (r1.1, r1.2)))
set_option maxHeartbeats 4000000 in
set_option maxRecDepth 100000 in
theorem c_X9_bone (D : va_G) (cA : Nat → ClassId) (am : Nat → Nat) (s : MS) (n : Nat) (p1 : Int32) (p2 : Int32) (p3 : Int32) (r : (Int32 × MS)) (h : F_X9_bone n s p1 p2 p3 = some r) : RW m_X9_bone 2 0 0 D cA [.ref (am 0), .int p1, .int p2, .int p3] (mW cA am s) (exq (some (.int r.1)) (mW cA am r.2)) := by
  refine RW.ofW gy_X9_bone.2.2 (Nat.le_of_ble_eq_true rfl) ?_
  intro l p e sM m below meth c A H locs F hr hlk hnm hK hP hD hS hA hAb ls hl
  have hl : lv_has ls 12 [(0, .ref (am 0)), (1, .int p1), (2, .int p2), (3, .int p3)] := hl
  unfold F_X9_bone at h
  refine lv_iload_n F.1 F.2.1 (dd D_X9_bone 0 rfl) rfl (lv_at hl 1 rfl) ?_
  refine lv_i2l (v := (Int32.toInt64 p1)) F.1 F.2.1 (dd D_X9_bone 1 rfl) rfl ?_
  refine lv_lconst (v := (0 : Int64)) F.1 F.2.1 (dd D_X9_bone 2 rfl) kl_0 ?_
  refine lv_ldc2 (own := RX9) (v := (7 : Int64)) F.1 F.2.1 F.2.2.2.1 (F.2.2.2.2 _ (kL_X9_73)) (dd D_X9_bone 3 rfl) ?_
  refine ro_go (st' := [.int (bI (F_X9_in (Int32.toInt64 p1) (0 : Int64) (7 : Int64)))]) (rS (rest := []) F (c_X9_in D cA (Int32.toInt64 p1) (0 : Int64) (7 : Int64) l) lk_X9_63 (Nat.le_of_ble_eq_true rfl) (preRO hK hS hAb (emP)) rfl hl rfl (Nat.le_of_ble_eq_true rfl) (dd D_X9_bone 4 rfl) ⟨Nat.le_of_ble_eq_true rfl, Nat.le_of_ble_eq_true rfl⟩) rfl ?_
  refine x_bif_eq (tgt := 36) F.1 F.2.1 (dd D_X9_bone 5 rfl) rfl h (fun c121 h => ?_) (fun c121 h => ?_)
  · refine lv_aload_n F.1 F.2.1 (dd D_X9_bone 18 rfl) rfl (lv_at hl 0 rfl) ?_
    refine lv_bipush (v := (-2 : Int32)) F.1 F.2.1 (dd D_X9_bone 19 rfl) kb_m2 ?_
    obtain ⟨r1, e2, h⟩ := Option.bind_eq_some_iff.mp h
    refine rwe_all (st' := [.int r1.1]) hD hS hA (rV (rest := []) F (c_X9_refuse D cA am s n (-2 : Int32) r1 e2 l H.size) lk_X9_79 (Nat.le_of_ble_eq_true rfl) (preRW hK hS hAb hP hD) (rcv_9 hK hP (q0 := (0)) (mp_0 cA am s)) rfl hl rfl (Nat.le_of_ble_eq_true rfl) (dd D_X9_bone 20 rfl) ⟨Nat.le_of_ble_eq_true rfl, Nat.le_of_ble_eq_true rfl⟩) rfl (fun H locs hP hD hS => ?_)
    obtain rfl := Option.some.inj h
    exact rw_i (R := rmOf 2 0 0) F hP hD hS hr hlk ⟨Nat.le_of_ble_eq_true rfl, Nat.le_of_ble_eq_true rfl⟩ ⟨rfl, rfl⟩ (dd D_X9_bone 21 rfl)
  · refine lv_iload_n F.1 F.2.1 (dd D_X9_bone 6 rfl) rfl (lv_at hl 2 rfl) ?_
    refine lv_i2l (v := (Int32.toInt64 p2)) F.1 F.2.1 (dd D_X9_bone 7 rfl) rfl ?_
    refine lv_lconst (v := (1 : Int64)) F.1 F.2.1 (dd D_X9_bone 8 rfl) kl_1 ?_
    refine lv_ldc2 (own := RX9) (v := (40 : Int64)) F.1 F.2.1 F.2.2.2.1 (F.2.2.2.2 _ (kL_X9_77)) (dd D_X9_bone 9 rfl) ?_
    refine ro_go (st' := [.int (bI (F_X9_in (Int32.toInt64 p2) (1 : Int64) (40 : Int64)))]) (rS (rest := []) F (c_X9_in D cA (Int32.toInt64 p2) (1 : Int64) (40 : Int64) l) lk_X9_63 (Nat.le_of_ble_eq_true rfl) (preRO hK hS hAb (emP)) rfl hl rfl (Nat.le_of_ble_eq_true rfl) (dd D_X9_bone 10 rfl) ⟨Nat.le_of_ble_eq_true rfl, Nat.le_of_ble_eq_true rfl⟩) rfl ?_
    refine x_bif_eq (tgt := 36) F.1 F.2.1 (dd D_X9_bone 11 rfl) rfl h (fun c120 h => ?_) (fun c120 h => ?_)
    · refine lv_aload_n F.1 F.2.1 (dd D_X9_bone 18 rfl) rfl (lv_at hl 0 rfl) ?_
      refine lv_bipush (v := (-2 : Int32)) F.1 F.2.1 (dd D_X9_bone 19 rfl) kb_m2 ?_
      obtain ⟨r3, e4, h⟩ := Option.bind_eq_some_iff.mp h
      refine rwe_all (st' := [.int r3.1]) hD hS hA (rV (rest := []) F (c_X9_refuse D cA am s n (-2 : Int32) r3 e4 l H.size) lk_X9_79 (Nat.le_of_ble_eq_true rfl) (preRW hK hS hAb hP hD) (rcv_9 hK hP (q0 := (0)) (mp_0 cA am s)) rfl hl rfl (Nat.le_of_ble_eq_true rfl) (dd D_X9_bone 20 rfl) ⟨Nat.le_of_ble_eq_true rfl, Nat.le_of_ble_eq_true rfl⟩) rfl (fun H locs hP hD hS => ?_)
      obtain rfl := Option.some.inj h
      exact rw_i (R := rmOf 2 0 0) F hP hD hS hr hlk ⟨Nat.le_of_ble_eq_true rfl, Nat.le_of_ble_eq_true rfl⟩ ⟨rfl, rfl⟩ (dd D_X9_bone 21 rfl)
    · refine lv_iload_n F.1 F.2.1 (dd D_X9_bone 12 rfl) rfl (lv_at hl 3 rfl) ?_
      refine lv_i2l (v := (Int32.toInt64 p3)) F.1 F.2.1 (dd D_X9_bone 13 rfl) rfl ?_
      refine lv_lconst (v := (0 : Int64)) F.1 F.2.1 (dd D_X9_bone 14 rfl) kl_0 ?_
      refine lv_ldc2 (own := RX9) (v := (2 : Int64)) F.1 F.2.1 F.2.2.2.1 (F.2.2.2.2 _ (kL_X9_137)) (dd D_X9_bone 15 rfl) ?_
      refine ro_go (st' := [.int (bI (F_X9_in (Int32.toInt64 p3) (0 : Int64) (2 : Int64)))]) (rS (rest := []) F (c_X9_in D cA (Int32.toInt64 p3) (0 : Int64) (2 : Int64) l) lk_X9_63 (Nat.le_of_ble_eq_true rfl) (preRO hK hS hAb (emP)) rfl hl rfl (Nat.le_of_ble_eq_true rfl) (dd D_X9_bone 16 rfl) ⟨Nat.le_of_ble_eq_true rfl, Nat.le_of_ble_eq_true rfl⟩) rfl ?_
      refine x_bif_ne (tgt := 43) F.1 F.2.1 (dd D_X9_bone 17 rfl) rfl h (fun c119 h => ?_) (fun c119 h => ?_)
      · refine lv_aload_n F.1 F.2.1 (dd D_X9_bone 22 rfl) rfl (lv_at hl 0 rfl) ?_
        refine lv_iload_n F.1 F.2.1 (dd D_X9_bone 23 rfl) rfl (lv_at hl 1 rfl) ?_
        obtain ⟨r5, e6, h⟩ := Option.bind_eq_some_iff.mp h
        refine rwe_all (st' := [.int r5.1]) hD hS hA (rV (rest := []) F (c_X9_noRow D cA am s n p1 r5 e6 l H.size) lk_X9_83 (Nat.le_of_ble_eq_true rfl) (preRW hK hS hAb hP hD) (rcv_9 hK hP (q0 := (0)) (mp_0 cA am s)) rfl hl rfl (Nat.le_of_ble_eq_true rfl) (dd D_X9_bone 24 rfl) ⟨Nat.le_of_ble_eq_true rfl, Nat.le_of_ble_eq_true rfl⟩) rfl (fun H locs hP hD hS => ?_)
        refine lv_istore (lv' := [(4, .int r5.1), (0, .ref (am 0)), (1, .int p1), (2, .int p2), (3, .int p3)]) F.1 F.2.1 (dd D_X9_bone 25 rfl) hl (Nat.le_of_ble_eq_true rfl) rfl (fun ls hl => ?_)
        refine lv_iload F.1 F.2.1 (dd D_X9_bone 26 rfl) (lv_at hl 0 rfl) ?_
        refine x_if_eq (tgt := 58) F.1 F.2.1 (dd D_X9_bone 27 rfl) rfl h (fun c7 h => ?_) (fun c7 h => ?_)
        · refine lv_aload_n F.1 F.2.1 (dd D_X9_bone 30 rfl) rfl (lv_at hl 1 rfl) ?_
          refine getF F hK hP lf_X9_16 (0) (mp_0 cA am r5.2) rfl (dd D_X9_bone 31 rfl) ?_
          refine lv_iload_n F.1 F.2.1 (dd D_X9_bone 32 rfl) rfl (lv_at hl 2 rfl) ?_
          refine aldI F hK hP (3) (mp_3 cA am r5.2) h (dd D_X9_bone 33 rfl) (fun z8 h => ?_)
          refine lv_iload_n F.1 F.2.1 (dd D_X9_bone 34 rfl) rfl (lv_at hl 3 rfl) ?_
          refine x_icmp_ge (tgt := 75) F.1 F.2.1 (dd D_X9_bone 35 rfl) rfl h (fun c9 h => ?_) (fun c9 h => ?_)
          · refine lv_aload_n F.1 F.2.1 (dd D_X9_bone 40 rfl) rfl (lv_at hl 1 rfl) ?_
            refine getF F hK hP lf_X9_21 (0) (mp_0 cA am r5.2) rfl (dd D_X9_bone 41 rfl) ?_
            refine lv_iload_n F.1 F.2.1 (dd D_X9_bone 42 rfl) rfl (lv_at hl 2 rfl) ?_
            refine aldA (g := fun j => am (5+j)) F hK hP (4) (mp_4 cA am r5.2) 5 rfl (fun _ => rfl) h (dd D_X9_bone 43 rfl) (fun z10 h => ?_)
            have hk11 : (Int32.toNatClampNeg p1) < 8 := inb_lt z10
            refine lv_astore (lv' := [(5, .ref (am (5+(Int32.toNatClampNeg p1)))), (4, .int r5.1), (0, .ref (am 0)), (1, .int p1), (2, .int p2), (3, .int p3)]) F.1 F.2.1 (dd D_X9_bone 44 rfl) hl (Nat.le_of_ble_eq_true rfl) rfl (fun ls hl => ?_)
            refine lv_iconst (v := (0 : Int32)) F.1 F.2.1 (dd D_X9_bone 45 rfl) ki_0 ?_
            refine lv_istore (lv' := [(6, .int (0 : Int32)), (5, .ref (am (5+(Int32.toNatClampNeg p1)))), (4, .int r5.1), (0, .ref (am 0)), (1, .int p1), (2, .int p2), (3, .int p3)]) F.1 F.2.1 (dd D_X9_bone 46 rfl) hl (Nat.le_of_ble_eq_true rfl) rfl (fun ls hl => ?_)
            refine lv_iconst (v := (0 : Int32)) F.1 F.2.1 (dd D_X9_bone 47 rfl) ki_0 ?_
            refine lv_istore (lv' := [(7, .int (0 : Int32)), (6, .int (0 : Int32)), (5, .ref (am (5+(Int32.toNatClampNeg p1)))), (4, .int r5.1), (0, .ref (am 0)), (1, .int p1), (2, .int p2), (3, .int p3)]) F.1 F.2.1 (dd D_X9_bone 48 rfl) hl (Nat.le_of_ble_eq_true rfl) rfl (fun ls hl => ?_)
            refine lv_iconst (v := (0 : Int32)) F.1 F.2.1 (dd D_X9_bone 49 rfl) ki_0 ?_
            refine lv_istore (lv' := [(8, .int (0 : Int32)), (7, .int (0 : Int32)), (6, .int (0 : Int32)), (5, .ref (am (5+(Int32.toNatClampNeg p1)))), (4, .int r5.1), (0, .ref (am 0)), (1, .int p1), (2, .int p2), (3, .int p3)]) F.1 F.2.1 (dd D_X9_bone 50 rfl) hl (Nat.le_of_ble_eq_true rfl) rfl (fun ls hl => ?_)
            refine lv_iconst (v := (0 : Int32)) F.1 F.2.1 (dd D_X9_bone 51 rfl) ki_0 ?_
            refine lv_istore (lv' := [(9, .int (0 : Int32)), (8, .int (0 : Int32)), (7, .int (0 : Int32)), (6, .int (0 : Int32)), (5, .ref (am (5+(Int32.toNatClampNeg p1)))), (4, .int r5.1), (0, .ref (am 0)), (1, .int p1), (2, .int p2), (3, .int p3)]) F.1 F.2.1 (dd D_X9_bone 52 rfl) hl (Nat.le_of_ble_eq_true rfl) rfl (fun ls hl => ?_)
            refine lv_iconst (v := (0 : Int32)) F.1 F.2.1 (dd D_X9_bone 53 rfl) ki_0 ?_
            refine lv_istore (lv' := [(10, .int (0 : Int32)), (9, .int (0 : Int32)), (8, .int (0 : Int32)), (7, .int (0 : Int32)), (6, .int (0 : Int32)), (5, .ref (am (5+(Int32.toNatClampNeg p1)))), (4, .int r5.1), (0, .ref (am 0)), (1, .int p1), (2, .int p2), (3, .int p3)]) F.1 F.2.1 (dd D_X9_bone 54 rfl) hl (Nat.le_of_ble_eq_true rfl) rfl (fun ls hl => ?_)
            have L63 : ∀ (kf : Nat) (w6_L63 : Int32) (w7_L63 : Int32) (w8_L63 : Int32) (w9_L63 : Int32) (w10_L63 : Int32) (H : Heap) (locs : List Loc) (ls : Array Slot), va_P D vwCl (mW cA am r5.2) H → va_D A (mW cA am r5.2) → va_S A sM.heap H locs → lv_has ls 12 [(0, .ref (am 0)), (1, .int p1), (2, .int p2), (3, .int p3), (4, .int r5.1), (5, .ref (am (5+(Int32.toNatClampNeg p1)))), (6, .int w6_L63), (7, .int w7_L63), (8, .int w8_L63), (9, .int w9_L63), (10, .int w10_L63)] → F_X9_bone_L98 n r5.2 (Int32.toNatClampNeg p1) p1 p2 p3 r5.1 kf w6_L63 w7_L63 w8_L63 w9_L63 w10_L63 = some r → Wrw 2 0 0 D A (exq (some (.int r.1)) (mW cA am r.2)) p l e sM m ([.ref (am 0), .int p1, .int p2, .int p3] : List Value).toArray below meth c H locs 0 0 98 ls [] := by
              intro kf
              induction kf with
              | zero =>
                intro w6_L63 w7_L63 w8_L63 w9_L63 w10_L63 H locs ls hP hD hS hl h
                cases (show none = some r from h)
              | succ k_L63 ih_L63 =>
                intro w6_L63 w7_L63 w8_L63 w9_L63 w10_L63 H locs ls hP hD hS hl h
                unfold F_X9_bone_L98 at h
                refine lv_iload F.1 F.2.1 (dd D_X9_bone 55 rfl) (lv_at hl 10 rfl) ?_
                refine lv_iload_n F.1 F.2.1 (dd D_X9_bone 56 rfl) rfl (lv_at hl 2 rfl) ?_
                refine x_icmp_ge (tgt := 221) F.1 F.2.1 (dd D_X9_bone 57 rfl) rfl h (fun c64 h => ?_) (fun c64 h => ?_)
                · refine lv_iload_n F.1 F.2.1 (dd D_X9_bone 118 rfl) rfl (lv_at hl 3 rfl) ?_
                  refine x_if_ne (tgt := 230) F.1 F.2.1 (dd D_X9_bone 119 rfl) rfl h (fun c65 h => ?_) (fun c65 h => ?_)
                  · refine lv_iload_n F.1 F.2.1 (dd D_X9_bone 122 rfl) rfl (lv_at hl 3 rfl) ?_
                    refine lv_iconst (v := (1 : Int32)) F.1 F.2.1 (dd D_X9_bone 123 rfl) ki_1 ?_
                    refine x_icmp_ne (tgt := 240) F.1 F.2.1 (dd D_X9_bone 124 rfl) rfl h (fun c66 h => ?_) (fun c66 h => ?_)
                    · refine lv_iload F.1 F.2.1 (dd D_X9_bone 127 rfl) (lv_at hl 9 rfl) ?_
                      obtain rfl := Option.some.inj h
                      exact rw_i (R := rmOf 2 0 0) F hP hD hS hr hlk ⟨Nat.le_of_ble_eq_true rfl, Nat.le_of_ble_eq_true rfl⟩ ⟨rfl, rfl⟩ (dd D_X9_bone 128 rfl)
                    · refine lv_iload F.1 F.2.1 (dd D_X9_bone 125 rfl) (lv_at hl 8 rfl) ?_
                      refine lv_goto (tgt := 242) F.1 F.2.1 (dd D_X9_bone 126 rfl) rfl ?_
                      obtain rfl := Option.some.inj h
                      exact rw_i (R := rmOf 2 0 0) F hP hD hS hr hlk ⟨Nat.le_of_ble_eq_true rfl, Nat.le_of_ble_eq_true rfl⟩ ⟨rfl, rfl⟩ (dd D_X9_bone 128 rfl)
                  · refine lv_iload F.1 F.2.1 (dd D_X9_bone 120 rfl) (lv_at hl 6 rfl) ?_
                    refine lv_goto (tgt := 242) F.1 F.2.1 (dd D_X9_bone 121 rfl) rfl ?_
                    obtain rfl := Option.some.inj h
                    exact rw_i (R := rmOf 2 0 0) F hP hD hS hr hlk ⟨Nat.le_of_ble_eq_true rfl, Nat.le_of_ble_eq_true rfl⟩ ⟨rfl, rfl⟩ (dd D_X9_bone 128 rfl)
                · refine lv_aload F.1 F.2.1 (dd D_X9_bone 58 rfl) (lv_at hl 5 rfl) ?_
                  refine lv_iload F.1 F.2.1 (dd D_X9_bone 59 rfl) (lv_at hl 10 rfl) ?_
                  refine aldL F hK hP (5+(Int32.toNatClampNeg p1)) (mp_row cA am r5.2 (Int32.toNatClampNeg p1) hk11) h (dd D_X9_bone 60 rfl) (fun z67 h => ?_)
                  refine lv_ldc2 (own := RX9) (v := (29 : Int64)) F.1 F.2.1 F.2.2.2.1 (F.2.2.2.2 _ (kL_X9_312)) (dd D_X9_bone 61 rfl) ?_
                  refine lv_ldc2 (own := RX9) (v := (30 : Int64)) F.1 F.2.1 F.2.2.2.1 (F.2.2.2.2 _ (kL_X9_121)) (dd D_X9_bone 62 rfl) ?_
                  refine ro_go (st' := [.int (bI (F_X9_in ((m_rows r5.2 (Int32.toNatClampNeg p1)) (Int32.toNatClampNeg w10_L63)) (29 : Int64) (30 : Int64)))]) (rS (rest := []) F (c_X9_in D cA ((m_rows r5.2 (Int32.toNatClampNeg p1)) (Int32.toNatClampNeg w10_L63)) (29 : Int64) (30 : Int64) l) lk_X9_63 (Nat.le_of_ble_eq_true rfl) (preRO hK hS hAb (emP)) rfl hl rfl (Nat.le_of_ble_eq_true rfl) (dd D_X9_bone 63 rfl) ⟨Nat.le_of_ble_eq_true rfl, Nat.le_of_ble_eq_true rfl⟩) rfl ?_
                  refine lv_istore (lv' := [(11, .int (bI (F_X9_in ((m_rows r5.2 (Int32.toNatClampNeg p1)) (Int32.toNatClampNeg w10_L63)) (29 : Int64) (30 : Int64)))), (0, .ref (am 0)), (1, .int p1), (2, .int p2), (3, .int p3), (4, .int r5.1), (5, .ref (am (5+(Int32.toNatClampNeg p1)))), (6, .int w6_L63), (7, .int w7_L63), (8, .int w8_L63), (9, .int w9_L63), (10, .int w10_L63)]) F.1 F.2.1 (dd D_X9_bone 64 rfl) hl (Nat.le_of_ble_eq_true rfl) rfl (fun ls hl => ?_)
                  refine lv_iload F.1 F.2.1 (dd D_X9_bone 65 rfl) (lv_at hl 7 rfl) ?_
                  refine lv_iload F.1 F.2.1 (dd D_X9_bone 66 rfl) (lv_at hl 0 rfl) ?_
                  refine x_bif_eq (tgt := 131) F.1 F.2.1 (dd D_X9_bone 67 rfl) rfl h (fun c114 h => ?_) (fun c114 h => ?_)
                  · refine lv_iconst (v := (0 : Int32)) F.1 F.2.1 (dd D_X9_bone 70 rfl) ki_0 ?_
                    refine lv_iadd F.1 F.2.1 (dd D_X9_bone 71 rfl) ?_
                    refine lv_istore (lv' := [(6, .int (w6_L63 + (0 : Int32))), (11, .int (bI (F_X9_in ((m_rows r5.2 (Int32.toNatClampNeg p1)) (Int32.toNatClampNeg w10_L63)) (29 : Int64) (30 : Int64)))), (0, .ref (am 0)), (1, .int p1), (2, .int p2), (3, .int p3), (4, .int r5.1), (5, .ref (am (5+(Int32.toNatClampNeg p1)))), (7, .int w7_L63), (8, .int w8_L63), (9, .int w9_L63), (10, .int w10_L63)]) F.1 F.2.1 (dd D_X9_bone 72 rfl) hl (Nat.le_of_ble_eq_true rfl) rfl (fun ls hl => ?_)
                    refine lv_iload F.1 F.2.1 (dd D_X9_bone 73 rfl) (lv_at hl 1 rfl) ?_
                    refine x_bif_eq (tgt := 147) F.1 F.2.1 (dd D_X9_bone 74 rfl) rfl h (fun c90 h => ?_) (fun c90 h => ?_)
                    · refine lv_iconst (v := (0 : Int32)) F.1 F.2.1 (dd D_X9_bone 79 rfl) ki_0 ?_
                      refine lv_istore (lv' := [(7, .int (0 : Int32)), (6, .int (w6_L63 + (0 : Int32))), (11, .int (bI (F_X9_in ((m_rows r5.2 (Int32.toNatClampNeg p1)) (Int32.toNatClampNeg w10_L63)) (29 : Int64) (30 : Int64)))), (0, .ref (am 0)), (1, .int p1), (2, .int p2), (3, .int p3), (4, .int r5.1), (5, .ref (am (5+(Int32.toNatClampNeg p1)))), (8, .int w8_L63), (9, .int w9_L63), (10, .int w10_L63)]) F.1 F.2.1 (dd D_X9_bone 80 rfl) hl (Nat.le_of_ble_eq_true rfl) rfl (fun ls hl => ?_)
                      refine lv_iload F.1 F.2.1 (dd D_X9_bone 81 rfl) (lv_at hl 0 rfl) ?_
                      refine lv_iload F.1 F.2.1 (dd D_X9_bone 82 rfl) (lv_at hl 9 rfl) ?_
                      refine x_icmp_le (tgt := 162) F.1 F.2.1 (dd D_X9_bone 83 rfl) rfl h (fun c68 h => ?_) (fun c68 h => ?_)
                      · refine lv_iload F.1 F.2.1 (dd D_X9_bone 86 rfl) (lv_at hl 9 rfl) ?_
                        refine lv_istore (lv' := [(8, .int w8_L63), (7, .int (0 : Int32)), (6, .int (w6_L63 + (0 : Int32))), (11, .int (bI (F_X9_in ((m_rows r5.2 (Int32.toNatClampNeg p1)) (Int32.toNatClampNeg w10_L63)) (29 : Int64) (30 : Int64)))), (0, .ref (am 0)), (1, .int p1), (2, .int p2), (3, .int p3), (4, .int r5.1), (5, .ref (am (5+(Int32.toNatClampNeg p1)))), (9, .int w9_L63), (10, .int w10_L63)]) F.1 F.2.1 (dd D_X9_bone 87 rfl) hl (Nat.le_of_ble_eq_true rfl) rfl (fun ls hl => ?_)
                        refine lv_iload F.1 F.2.1 (dd D_X9_bone 88 rfl) (lv_at hl 10 rfl) ?_
                        refine lv_iload F.1 F.2.1 (dd D_X9_bone 89 rfl) (lv_at hl 11 rfl) ?_
                        refine lv_iconst (v := (2 : Int32)) F.1 F.2.1 (dd D_X9_bone 90 rfl) ki_2 ?_
                        refine x_icmp_lt (tgt := 211) F.1 F.2.1 (dd D_X9_bone 91 rfl) rfl h (fun c69 h => ?_) (fun c69 h => ?_)
                        · refine lv_iconst (v := (0 : Int32)) F.1 F.2.1 (dd D_X9_bone 113 rfl) ki_0 ?_
                          refine lv_iadd F.1 F.2.1 (dd D_X9_bone 114 rfl) ?_
                          refine lv_istore (lv' := [(9, .int (w9_L63 + (0 : Int32))), (8, .int w8_L63), (7, .int (0 : Int32)), (6, .int (w6_L63 + (0 : Int32))), (11, .int (bI (F_X9_in ((m_rows r5.2 (Int32.toNatClampNeg p1)) (Int32.toNatClampNeg w10_L63)) (29 : Int64) (30 : Int64)))), (0, .ref (am 0)), (1, .int p1), (2, .int p2), (3, .int p3), (4, .int r5.1), (5, .ref (am (5+(Int32.toNatClampNeg p1)))), (10, .int w10_L63)]) F.1 F.2.1 (dd D_X9_bone 115 rfl) hl (Nat.le_of_ble_eq_true rfl) rfl (fun ls hl => ?_)
                          refine lv_iinc (v := (w10_L63 + (1 : Int32))) (lv' := [(10, .int (w10_L63 + (1 : Int32))), (9, .int (w9_L63 + (0 : Int32))), (8, .int w8_L63), (7, .int (0 : Int32)), (6, .int (w6_L63 + (0 : Int32))), (11, .int (bI (F_X9_in ((m_rows r5.2 (Int32.toNatClampNeg p1)) (Int32.toNatClampNeg w10_L63)) (29 : Int64) (30 : Int64)))), (0, .ref (am 0)), (1, .int p1), (2, .int p2), (3, .int p3), (4, .int r5.1), (5, .ref (am (5+(Int32.toNatClampNeg p1))))]) F.1 F.2.1 (dd D_X9_bone 116 rfl) hl (k := 11) rfl (congrArg (fun z => w10_L63 + z) ki_1) (Nat.le_of_ble_eq_true rfl) rfl (fun ls hl => ?_)
                          refine lv_goto (tgt := 98) F.1 F.2.1 (dd D_X9_bone 117 rfl) rfl ?_
                          exact ih_L63 (w6_L63 + (0 : Int32)) (0 : Int32) w8_L63 (w9_L63 + (0 : Int32)) (w10_L63 + (1 : Int32)) _ _ ls hP hD hS (lv_sub hl [6, 7, 8, 9, 10, 11, 4, 3, 2, 1, 0] rfl) h
                        · refine lv_aload F.1 F.2.1 (dd D_X9_bone 92 rfl) (lv_at hl 9 rfl) ?_
                          refine lv_iload F.1 F.2.1 (dd D_X9_bone 93 rfl) (lv_at hl 11 rfl) ?_
                          refine aldL F hK hP (5+(Int32.toNatClampNeg p1)) (mp_row cA am r5.2 (Int32.toNatClampNeg p1) hk11) h (dd D_X9_bone 94 rfl) (fun z70 h => ?_)
                          refine lv_aload F.1 F.2.1 (dd D_X9_bone 95 rfl) (lv_at hl 9 rfl) ?_
                          refine lv_iload F.1 F.2.1 (dd D_X9_bone 96 rfl) (lv_at hl 11 rfl) ?_
                          refine lv_iconst (v := (1 : Int32)) F.1 F.2.1 (dd D_X9_bone 97 rfl) ki_1 ?_
                          refine lv_isub F.1 F.2.1 (dd D_X9_bone 98 rfl) ?_
                          refine aldL F hK hP (5+(Int32.toNatClampNeg p1)) (mp_row cA am r5.2 (Int32.toNatClampNeg p1) hk11) h (dd D_X9_bone 99 rfl) (fun z71 h => ?_)
                          refine lv_ladd F.1 F.2.1 (dd D_X9_bone 100 rfl) ?_
                          refine lv_aload F.1 F.2.1 (dd D_X9_bone 101 rfl) (lv_at hl 9 rfl) ?_
                          refine lv_iload F.1 F.2.1 (dd D_X9_bone 102 rfl) (lv_at hl 11 rfl) ?_
                          refine lv_iconst (v := (2 : Int32)) F.1 F.2.1 (dd D_X9_bone 103 rfl) ki_2 ?_
                          refine lv_isub F.1 F.2.1 (dd D_X9_bone 104 rfl) ?_
                          refine aldL F hK hP (5+(Int32.toNatClampNeg p1)) (mp_row cA am r5.2 (Int32.toNatClampNeg p1) hk11) h (dd D_X9_bone 105 rfl) (fun z72 h => ?_)
                          refine lv_ladd F.1 F.2.1 (dd D_X9_bone 106 rfl) ?_
                          refine lv_ldc2 (own := RX9) (v := (88 : Int64)) F.1 F.2.1 F.2.2.2.1 (F.2.2.2.2 _ (kL_X9_314)) (dd D_X9_bone 107 rfl) ?_
                          refine lv_ldc2 (own := RX9) (v := (89 : Int64)) F.1 F.2.1 F.2.2.2.1 (F.2.2.2.2 _ (kL_X9_316)) (dd D_X9_bone 108 rfl) ?_
                          refine ro_go (st' := [.int (bI (F_X9_in ((((m_rows r5.2 (Int32.toNatClampNeg p1)) (Int32.toNatClampNeg w10_L63)) + ((m_rows r5.2 (Int32.toNatClampNeg p1)) (Int32.toNatClampNeg (w10_L63 - (1 : Int32))))) + ((m_rows r5.2 (Int32.toNatClampNeg p1)) (Int32.toNatClampNeg (w10_L63 - (2 : Int32))))) (88 : Int64) (89 : Int64))), .int w9_L63]) (rS (rest := [.int w9_L63]) F (c_X9_in D cA ((((m_rows r5.2 (Int32.toNatClampNeg p1)) (Int32.toNatClampNeg w10_L63)) + ((m_rows r5.2 (Int32.toNatClampNeg p1)) (Int32.toNatClampNeg (w10_L63 - (1 : Int32))))) + ((m_rows r5.2 (Int32.toNatClampNeg p1)) (Int32.toNatClampNeg (w10_L63 - (2 : Int32))))) (88 : Int64) (89 : Int64) l) lk_X9_63 (Nat.le_of_ble_eq_true rfl) (preRO hK hS hAb (emP)) rfl hl rfl (Nat.le_of_ble_eq_true rfl) (dd D_X9_bone 109 rfl) ⟨Nat.le_of_ble_eq_true rfl, Nat.le_of_ble_eq_true rfl⟩) rfl ?_
                          refine x_bif_eq (tgt := 211) F.1 F.2.1 (dd D_X9_bone 110 rfl) rfl h (fun c73 h => ?_) (fun c73 h => ?_)
                          · refine lv_iconst (v := (0 : Int32)) F.1 F.2.1 (dd D_X9_bone 113 rfl) ki_0 ?_
                            refine lv_iadd F.1 F.2.1 (dd D_X9_bone 114 rfl) ?_
                            refine lv_istore (lv' := [(9, .int (w9_L63 + (0 : Int32))), (8, .int w8_L63), (7, .int (0 : Int32)), (6, .int (w6_L63 + (0 : Int32))), (11, .int (bI (F_X9_in ((m_rows r5.2 (Int32.toNatClampNeg p1)) (Int32.toNatClampNeg w10_L63)) (29 : Int64) (30 : Int64)))), (0, .ref (am 0)), (1, .int p1), (2, .int p2), (3, .int p3), (4, .int r5.1), (5, .ref (am (5+(Int32.toNatClampNeg p1)))), (10, .int w10_L63)]) F.1 F.2.1 (dd D_X9_bone 115 rfl) hl (Nat.le_of_ble_eq_true rfl) rfl (fun ls hl => ?_)
                            refine lv_iinc (v := (w10_L63 + (1 : Int32))) (lv' := [(10, .int (w10_L63 + (1 : Int32))), (9, .int (w9_L63 + (0 : Int32))), (8, .int w8_L63), (7, .int (0 : Int32)), (6, .int (w6_L63 + (0 : Int32))), (11, .int (bI (F_X9_in ((m_rows r5.2 (Int32.toNatClampNeg p1)) (Int32.toNatClampNeg w10_L63)) (29 : Int64) (30 : Int64)))), (0, .ref (am 0)), (1, .int p1), (2, .int p2), (3, .int p3), (4, .int r5.1), (5, .ref (am (5+(Int32.toNatClampNeg p1))))]) F.1 F.2.1 (dd D_X9_bone 116 rfl) hl (k := 11) rfl (congrArg (fun z => w10_L63 + z) ki_1) (Nat.le_of_ble_eq_true rfl) rfl (fun ls hl => ?_)
                            refine lv_goto (tgt := 98) F.1 F.2.1 (dd D_X9_bone 117 rfl) rfl ?_
                            exact ih_L63 (w6_L63 + (0 : Int32)) (0 : Int32) w8_L63 (w9_L63 + (0 : Int32)) (w10_L63 + (1 : Int32)) _ _ ls hP hD hS (lv_sub hl [6, 7, 8, 9, 10, 11, 4, 3, 2, 1, 0] rfl) h
                          · refine lv_iconst (v := (1 : Int32)) F.1 F.2.1 (dd D_X9_bone 111 rfl) ki_1 ?_
                            refine lv_goto (tgt := 212) F.1 F.2.1 (dd D_X9_bone 112 rfl) rfl ?_
                            refine lv_iadd F.1 F.2.1 (dd D_X9_bone 114 rfl) ?_
                            refine lv_istore (lv' := [(9, .int (w9_L63 + (1 : Int32))), (8, .int w8_L63), (7, .int (0 : Int32)), (6, .int (w6_L63 + (0 : Int32))), (11, .int (bI (F_X9_in ((m_rows r5.2 (Int32.toNatClampNeg p1)) (Int32.toNatClampNeg w10_L63)) (29 : Int64) (30 : Int64)))), (0, .ref (am 0)), (1, .int p1), (2, .int p2), (3, .int p3), (4, .int r5.1), (5, .ref (am (5+(Int32.toNatClampNeg p1)))), (10, .int w10_L63)]) F.1 F.2.1 (dd D_X9_bone 115 rfl) hl (Nat.le_of_ble_eq_true rfl) rfl (fun ls hl => ?_)
                            refine lv_iinc (v := (w10_L63 + (1 : Int32))) (lv' := [(10, .int (w10_L63 + (1 : Int32))), (9, .int (w9_L63 + (1 : Int32))), (8, .int w8_L63), (7, .int (0 : Int32)), (6, .int (w6_L63 + (0 : Int32))), (11, .int (bI (F_X9_in ((m_rows r5.2 (Int32.toNatClampNeg p1)) (Int32.toNatClampNeg w10_L63)) (29 : Int64) (30 : Int64)))), (0, .ref (am 0)), (1, .int p1), (2, .int p2), (3, .int p3), (4, .int r5.1), (5, .ref (am (5+(Int32.toNatClampNeg p1))))]) F.1 F.2.1 (dd D_X9_bone 116 rfl) hl (k := 11) rfl (congrArg (fun z => w10_L63 + z) ki_1) (Nat.le_of_ble_eq_true rfl) rfl (fun ls hl => ?_)
                            refine lv_goto (tgt := 98) F.1 F.2.1 (dd D_X9_bone 117 rfl) rfl ?_
                            exact ih_L63 (w6_L63 + (0 : Int32)) (0 : Int32) w8_L63 (w9_L63 + (1 : Int32)) (w10_L63 + (1 : Int32)) _ _ ls hP hD hS (lv_sub hl [6, 7, 8, 9, 10, 11, 4, 3, 2, 1, 0] rfl) h
                      · refine lv_iload F.1 F.2.1 (dd D_X9_bone 84 rfl) (lv_at hl 0 rfl) ?_
                        refine lv_goto (tgt := 164) F.1 F.2.1 (dd D_X9_bone 85 rfl) rfl ?_
                        refine lv_istore (lv' := [(8, .int (0 : Int32)), (7, .int (0 : Int32)), (6, .int (w6_L63 + (0 : Int32))), (11, .int (bI (F_X9_in ((m_rows r5.2 (Int32.toNatClampNeg p1)) (Int32.toNatClampNeg w10_L63)) (29 : Int64) (30 : Int64)))), (0, .ref (am 0)), (1, .int p1), (2, .int p2), (3, .int p3), (4, .int r5.1), (5, .ref (am (5+(Int32.toNatClampNeg p1)))), (9, .int w9_L63), (10, .int w10_L63)]) F.1 F.2.1 (dd D_X9_bone 87 rfl) hl (Nat.le_of_ble_eq_true rfl) rfl (fun ls hl => ?_)
                        refine lv_iload F.1 F.2.1 (dd D_X9_bone 88 rfl) (lv_at hl 10 rfl) ?_
                        refine lv_iload F.1 F.2.1 (dd D_X9_bone 89 rfl) (lv_at hl 11 rfl) ?_
                        refine lv_iconst (v := (2 : Int32)) F.1 F.2.1 (dd D_X9_bone 90 rfl) ki_2 ?_
                        refine x_icmp_lt (tgt := 211) F.1 F.2.1 (dd D_X9_bone 91 rfl) rfl h (fun c74 h => ?_) (fun c74 h => ?_)
                        · refine lv_iconst (v := (0 : Int32)) F.1 F.2.1 (dd D_X9_bone 113 rfl) ki_0 ?_
                          refine lv_iadd F.1 F.2.1 (dd D_X9_bone 114 rfl) ?_
                          refine lv_istore (lv' := [(9, .int (w9_L63 + (0 : Int32))), (8, .int (0 : Int32)), (7, .int (0 : Int32)), (6, .int (w6_L63 + (0 : Int32))), (11, .int (bI (F_X9_in ((m_rows r5.2 (Int32.toNatClampNeg p1)) (Int32.toNatClampNeg w10_L63)) (29 : Int64) (30 : Int64)))), (0, .ref (am 0)), (1, .int p1), (2, .int p2), (3, .int p3), (4, .int r5.1), (5, .ref (am (5+(Int32.toNatClampNeg p1)))), (10, .int w10_L63)]) F.1 F.2.1 (dd D_X9_bone 115 rfl) hl (Nat.le_of_ble_eq_true rfl) rfl (fun ls hl => ?_)
                          refine lv_iinc (v := (w10_L63 + (1 : Int32))) (lv' := [(10, .int (w10_L63 + (1 : Int32))), (9, .int (w9_L63 + (0 : Int32))), (8, .int (0 : Int32)), (7, .int (0 : Int32)), (6, .int (w6_L63 + (0 : Int32))), (11, .int (bI (F_X9_in ((m_rows r5.2 (Int32.toNatClampNeg p1)) (Int32.toNatClampNeg w10_L63)) (29 : Int64) (30 : Int64)))), (0, .ref (am 0)), (1, .int p1), (2, .int p2), (3, .int p3), (4, .int r5.1), (5, .ref (am (5+(Int32.toNatClampNeg p1))))]) F.1 F.2.1 (dd D_X9_bone 116 rfl) hl (k := 11) rfl (congrArg (fun z => w10_L63 + z) ki_1) (Nat.le_of_ble_eq_true rfl) rfl (fun ls hl => ?_)
                          refine lv_goto (tgt := 98) F.1 F.2.1 (dd D_X9_bone 117 rfl) rfl ?_
                          exact ih_L63 (w6_L63 + (0 : Int32)) (0 : Int32) (0 : Int32) (w9_L63 + (0 : Int32)) (w10_L63 + (1 : Int32)) _ _ ls hP hD hS (lv_sub hl [6, 7, 8, 9, 10, 11, 4, 3, 2, 1, 0] rfl) h
                        · refine lv_aload F.1 F.2.1 (dd D_X9_bone 92 rfl) (lv_at hl 9 rfl) ?_
                          refine lv_iload F.1 F.2.1 (dd D_X9_bone 93 rfl) (lv_at hl 11 rfl) ?_
                          refine aldL F hK hP (5+(Int32.toNatClampNeg p1)) (mp_row cA am r5.2 (Int32.toNatClampNeg p1) hk11) h (dd D_X9_bone 94 rfl) (fun z75 h => ?_)
                          refine lv_aload F.1 F.2.1 (dd D_X9_bone 95 rfl) (lv_at hl 9 rfl) ?_
                          refine lv_iload F.1 F.2.1 (dd D_X9_bone 96 rfl) (lv_at hl 11 rfl) ?_
                          refine lv_iconst (v := (1 : Int32)) F.1 F.2.1 (dd D_X9_bone 97 rfl) ki_1 ?_
                          refine lv_isub F.1 F.2.1 (dd D_X9_bone 98 rfl) ?_
                          refine aldL F hK hP (5+(Int32.toNatClampNeg p1)) (mp_row cA am r5.2 (Int32.toNatClampNeg p1) hk11) h (dd D_X9_bone 99 rfl) (fun z76 h => ?_)
                          refine lv_ladd F.1 F.2.1 (dd D_X9_bone 100 rfl) ?_
                          refine lv_aload F.1 F.2.1 (dd D_X9_bone 101 rfl) (lv_at hl 9 rfl) ?_
                          refine lv_iload F.1 F.2.1 (dd D_X9_bone 102 rfl) (lv_at hl 11 rfl) ?_
                          refine lv_iconst (v := (2 : Int32)) F.1 F.2.1 (dd D_X9_bone 103 rfl) ki_2 ?_
                          refine lv_isub F.1 F.2.1 (dd D_X9_bone 104 rfl) ?_
                          refine aldL F hK hP (5+(Int32.toNatClampNeg p1)) (mp_row cA am r5.2 (Int32.toNatClampNeg p1) hk11) h (dd D_X9_bone 105 rfl) (fun z77 h => ?_)
                          refine lv_ladd F.1 F.2.1 (dd D_X9_bone 106 rfl) ?_
                          refine lv_ldc2 (own := RX9) (v := (88 : Int64)) F.1 F.2.1 F.2.2.2.1 (F.2.2.2.2 _ (kL_X9_314)) (dd D_X9_bone 107 rfl) ?_
                          refine lv_ldc2 (own := RX9) (v := (89 : Int64)) F.1 F.2.1 F.2.2.2.1 (F.2.2.2.2 _ (kL_X9_316)) (dd D_X9_bone 108 rfl) ?_
                          refine ro_go (st' := [.int (bI (F_X9_in ((((m_rows r5.2 (Int32.toNatClampNeg p1)) (Int32.toNatClampNeg w10_L63)) + ((m_rows r5.2 (Int32.toNatClampNeg p1)) (Int32.toNatClampNeg (w10_L63 - (1 : Int32))))) + ((m_rows r5.2 (Int32.toNatClampNeg p1)) (Int32.toNatClampNeg (w10_L63 - (2 : Int32))))) (88 : Int64) (89 : Int64))), .int w9_L63]) (rS (rest := [.int w9_L63]) F (c_X9_in D cA ((((m_rows r5.2 (Int32.toNatClampNeg p1)) (Int32.toNatClampNeg w10_L63)) + ((m_rows r5.2 (Int32.toNatClampNeg p1)) (Int32.toNatClampNeg (w10_L63 - (1 : Int32))))) + ((m_rows r5.2 (Int32.toNatClampNeg p1)) (Int32.toNatClampNeg (w10_L63 - (2 : Int32))))) (88 : Int64) (89 : Int64) l) lk_X9_63 (Nat.le_of_ble_eq_true rfl) (preRO hK hS hAb (emP)) rfl hl rfl (Nat.le_of_ble_eq_true rfl) (dd D_X9_bone 109 rfl) ⟨Nat.le_of_ble_eq_true rfl, Nat.le_of_ble_eq_true rfl⟩) rfl ?_
                          refine x_bif_eq (tgt := 211) F.1 F.2.1 (dd D_X9_bone 110 rfl) rfl h (fun c78 h => ?_) (fun c78 h => ?_)
                          · refine lv_iconst (v := (0 : Int32)) F.1 F.2.1 (dd D_X9_bone 113 rfl) ki_0 ?_
                            refine lv_iadd F.1 F.2.1 (dd D_X9_bone 114 rfl) ?_
                            refine lv_istore (lv' := [(9, .int (w9_L63 + (0 : Int32))), (8, .int (0 : Int32)), (7, .int (0 : Int32)), (6, .int (w6_L63 + (0 : Int32))), (11, .int (bI (F_X9_in ((m_rows r5.2 (Int32.toNatClampNeg p1)) (Int32.toNatClampNeg w10_L63)) (29 : Int64) (30 : Int64)))), (0, .ref (am 0)), (1, .int p1), (2, .int p2), (3, .int p3), (4, .int r5.1), (5, .ref (am (5+(Int32.toNatClampNeg p1)))), (10, .int w10_L63)]) F.1 F.2.1 (dd D_X9_bone 115 rfl) hl (Nat.le_of_ble_eq_true rfl) rfl (fun ls hl => ?_)
                            refine lv_iinc (v := (w10_L63 + (1 : Int32))) (lv' := [(10, .int (w10_L63 + (1 : Int32))), (9, .int (w9_L63 + (0 : Int32))), (8, .int (0 : Int32)), (7, .int (0 : Int32)), (6, .int (w6_L63 + (0 : Int32))), (11, .int (bI (F_X9_in ((m_rows r5.2 (Int32.toNatClampNeg p1)) (Int32.toNatClampNeg w10_L63)) (29 : Int64) (30 : Int64)))), (0, .ref (am 0)), (1, .int p1), (2, .int p2), (3, .int p3), (4, .int r5.1), (5, .ref (am (5+(Int32.toNatClampNeg p1))))]) F.1 F.2.1 (dd D_X9_bone 116 rfl) hl (k := 11) rfl (congrArg (fun z => w10_L63 + z) ki_1) (Nat.le_of_ble_eq_true rfl) rfl (fun ls hl => ?_)
                            refine lv_goto (tgt := 98) F.1 F.2.1 (dd D_X9_bone 117 rfl) rfl ?_
                            exact ih_L63 (w6_L63 + (0 : Int32)) (0 : Int32) (0 : Int32) (w9_L63 + (0 : Int32)) (w10_L63 + (1 : Int32)) _ _ ls hP hD hS (lv_sub hl [6, 7, 8, 9, 10, 11, 4, 3, 2, 1, 0] rfl) h
                          · refine lv_iconst (v := (1 : Int32)) F.1 F.2.1 (dd D_X9_bone 111 rfl) ki_1 ?_
                            refine lv_goto (tgt := 212) F.1 F.2.1 (dd D_X9_bone 112 rfl) rfl ?_
                            refine lv_iadd F.1 F.2.1 (dd D_X9_bone 114 rfl) ?_
                            refine lv_istore (lv' := [(9, .int (w9_L63 + (1 : Int32))), (8, .int (0 : Int32)), (7, .int (0 : Int32)), (6, .int (w6_L63 + (0 : Int32))), (11, .int (bI (F_X9_in ((m_rows r5.2 (Int32.toNatClampNeg p1)) (Int32.toNatClampNeg w10_L63)) (29 : Int64) (30 : Int64)))), (0, .ref (am 0)), (1, .int p1), (2, .int p2), (3, .int p3), (4, .int r5.1), (5, .ref (am (5+(Int32.toNatClampNeg p1)))), (10, .int w10_L63)]) F.1 F.2.1 (dd D_X9_bone 115 rfl) hl (Nat.le_of_ble_eq_true rfl) rfl (fun ls hl => ?_)
                            refine lv_iinc (v := (w10_L63 + (1 : Int32))) (lv' := [(10, .int (w10_L63 + (1 : Int32))), (9, .int (w9_L63 + (1 : Int32))), (8, .int (0 : Int32)), (7, .int (0 : Int32)), (6, .int (w6_L63 + (0 : Int32))), (11, .int (bI (F_X9_in ((m_rows r5.2 (Int32.toNatClampNeg p1)) (Int32.toNatClampNeg w10_L63)) (29 : Int64) (30 : Int64)))), (0, .ref (am 0)), (1, .int p1), (2, .int p2), (3, .int p3), (4, .int r5.1), (5, .ref (am (5+(Int32.toNatClampNeg p1))))]) F.1 F.2.1 (dd D_X9_bone 116 rfl) hl (k := 11) rfl (congrArg (fun z => w10_L63 + z) ki_1) (Nat.le_of_ble_eq_true rfl) rfl (fun ls hl => ?_)
                            refine lv_goto (tgt := 98) F.1 F.2.1 (dd D_X9_bone 117 rfl) rfl ?_
                            exact ih_L63 (w6_L63 + (0 : Int32)) (0 : Int32) (0 : Int32) (w9_L63 + (1 : Int32)) (w10_L63 + (1 : Int32)) _ _ ls hP hD hS (lv_sub hl [6, 7, 8, 9, 10, 11, 4, 3, 2, 1, 0] rfl) h
                    · refine lv_iload F.1 F.2.1 (dd D_X9_bone 75 rfl) (lv_at hl 8 rfl) ?_
                      refine lv_iconst (v := (1 : Int32)) F.1 F.2.1 (dd D_X9_bone 76 rfl) ki_1 ?_
                      refine lv_iadd F.1 F.2.1 (dd D_X9_bone 77 rfl) ?_
                      refine lv_goto (tgt := 148) F.1 F.2.1 (dd D_X9_bone 78 rfl) rfl ?_
                      refine lv_istore (lv' := [(7, .int (w7_L63 + (1 : Int32))), (6, .int (w6_L63 + (0 : Int32))), (11, .int (bI (F_X9_in ((m_rows r5.2 (Int32.toNatClampNeg p1)) (Int32.toNatClampNeg w10_L63)) (29 : Int64) (30 : Int64)))), (0, .ref (am 0)), (1, .int p1), (2, .int p2), (3, .int p3), (4, .int r5.1), (5, .ref (am (5+(Int32.toNatClampNeg p1)))), (8, .int w8_L63), (9, .int w9_L63), (10, .int w10_L63)]) F.1 F.2.1 (dd D_X9_bone 80 rfl) hl (Nat.le_of_ble_eq_true rfl) rfl (fun ls hl => ?_)
                      refine lv_iload F.1 F.2.1 (dd D_X9_bone 81 rfl) (lv_at hl 0 rfl) ?_
                      refine lv_iload F.1 F.2.1 (dd D_X9_bone 82 rfl) (lv_at hl 9 rfl) ?_
                      refine x_icmp_le (tgt := 162) F.1 F.2.1 (dd D_X9_bone 83 rfl) rfl h (fun c79 h => ?_) (fun c79 h => ?_)
                      · refine lv_iload F.1 F.2.1 (dd D_X9_bone 86 rfl) (lv_at hl 9 rfl) ?_
                        refine lv_istore (lv' := [(8, .int w8_L63), (7, .int (w7_L63 + (1 : Int32))), (6, .int (w6_L63 + (0 : Int32))), (11, .int (bI (F_X9_in ((m_rows r5.2 (Int32.toNatClampNeg p1)) (Int32.toNatClampNeg w10_L63)) (29 : Int64) (30 : Int64)))), (0, .ref (am 0)), (1, .int p1), (2, .int p2), (3, .int p3), (4, .int r5.1), (5, .ref (am (5+(Int32.toNatClampNeg p1)))), (9, .int w9_L63), (10, .int w10_L63)]) F.1 F.2.1 (dd D_X9_bone 87 rfl) hl (Nat.le_of_ble_eq_true rfl) rfl (fun ls hl => ?_)
                        refine lv_iload F.1 F.2.1 (dd D_X9_bone 88 rfl) (lv_at hl 10 rfl) ?_
                        refine lv_iload F.1 F.2.1 (dd D_X9_bone 89 rfl) (lv_at hl 11 rfl) ?_
                        refine lv_iconst (v := (2 : Int32)) F.1 F.2.1 (dd D_X9_bone 90 rfl) ki_2 ?_
                        refine x_icmp_lt (tgt := 211) F.1 F.2.1 (dd D_X9_bone 91 rfl) rfl h (fun c80 h => ?_) (fun c80 h => ?_)
                        · refine lv_iconst (v := (0 : Int32)) F.1 F.2.1 (dd D_X9_bone 113 rfl) ki_0 ?_
                          refine lv_iadd F.1 F.2.1 (dd D_X9_bone 114 rfl) ?_
                          refine lv_istore (lv' := [(9, .int (w9_L63 + (0 : Int32))), (8, .int w8_L63), (7, .int (w7_L63 + (1 : Int32))), (6, .int (w6_L63 + (0 : Int32))), (11, .int (bI (F_X9_in ((m_rows r5.2 (Int32.toNatClampNeg p1)) (Int32.toNatClampNeg w10_L63)) (29 : Int64) (30 : Int64)))), (0, .ref (am 0)), (1, .int p1), (2, .int p2), (3, .int p3), (4, .int r5.1), (5, .ref (am (5+(Int32.toNatClampNeg p1)))), (10, .int w10_L63)]) F.1 F.2.1 (dd D_X9_bone 115 rfl) hl (Nat.le_of_ble_eq_true rfl) rfl (fun ls hl => ?_)
                          refine lv_iinc (v := (w10_L63 + (1 : Int32))) (lv' := [(10, .int (w10_L63 + (1 : Int32))), (9, .int (w9_L63 + (0 : Int32))), (8, .int w8_L63), (7, .int (w7_L63 + (1 : Int32))), (6, .int (w6_L63 + (0 : Int32))), (11, .int (bI (F_X9_in ((m_rows r5.2 (Int32.toNatClampNeg p1)) (Int32.toNatClampNeg w10_L63)) (29 : Int64) (30 : Int64)))), (0, .ref (am 0)), (1, .int p1), (2, .int p2), (3, .int p3), (4, .int r5.1), (5, .ref (am (5+(Int32.toNatClampNeg p1))))]) F.1 F.2.1 (dd D_X9_bone 116 rfl) hl (k := 11) rfl (congrArg (fun z => w10_L63 + z) ki_1) (Nat.le_of_ble_eq_true rfl) rfl (fun ls hl => ?_)
                          refine lv_goto (tgt := 98) F.1 F.2.1 (dd D_X9_bone 117 rfl) rfl ?_
                          exact ih_L63 (w6_L63 + (0 : Int32)) (w7_L63 + (1 : Int32)) w8_L63 (w9_L63 + (0 : Int32)) (w10_L63 + (1 : Int32)) _ _ ls hP hD hS (lv_sub hl [6, 7, 8, 9, 10, 11, 4, 3, 2, 1, 0] rfl) h
                        · refine lv_aload F.1 F.2.1 (dd D_X9_bone 92 rfl) (lv_at hl 9 rfl) ?_
                          refine lv_iload F.1 F.2.1 (dd D_X9_bone 93 rfl) (lv_at hl 11 rfl) ?_
                          refine aldL F hK hP (5+(Int32.toNatClampNeg p1)) (mp_row cA am r5.2 (Int32.toNatClampNeg p1) hk11) h (dd D_X9_bone 94 rfl) (fun z81 h => ?_)
                          refine lv_aload F.1 F.2.1 (dd D_X9_bone 95 rfl) (lv_at hl 9 rfl) ?_
                          refine lv_iload F.1 F.2.1 (dd D_X9_bone 96 rfl) (lv_at hl 11 rfl) ?_
                          refine lv_iconst (v := (1 : Int32)) F.1 F.2.1 (dd D_X9_bone 97 rfl) ki_1 ?_
                          refine lv_isub F.1 F.2.1 (dd D_X9_bone 98 rfl) ?_
                          refine aldL F hK hP (5+(Int32.toNatClampNeg p1)) (mp_row cA am r5.2 (Int32.toNatClampNeg p1) hk11) h (dd D_X9_bone 99 rfl) (fun z82 h => ?_)
                          refine lv_ladd F.1 F.2.1 (dd D_X9_bone 100 rfl) ?_
                          refine lv_aload F.1 F.2.1 (dd D_X9_bone 101 rfl) (lv_at hl 9 rfl) ?_
                          refine lv_iload F.1 F.2.1 (dd D_X9_bone 102 rfl) (lv_at hl 11 rfl) ?_
                          refine lv_iconst (v := (2 : Int32)) F.1 F.2.1 (dd D_X9_bone 103 rfl) ki_2 ?_
                          refine lv_isub F.1 F.2.1 (dd D_X9_bone 104 rfl) ?_
                          refine aldL F hK hP (5+(Int32.toNatClampNeg p1)) (mp_row cA am r5.2 (Int32.toNatClampNeg p1) hk11) h (dd D_X9_bone 105 rfl) (fun z83 h => ?_)
                          refine lv_ladd F.1 F.2.1 (dd D_X9_bone 106 rfl) ?_
                          refine lv_ldc2 (own := RX9) (v := (88 : Int64)) F.1 F.2.1 F.2.2.2.1 (F.2.2.2.2 _ (kL_X9_314)) (dd D_X9_bone 107 rfl) ?_
                          refine lv_ldc2 (own := RX9) (v := (89 : Int64)) F.1 F.2.1 F.2.2.2.1 (F.2.2.2.2 _ (kL_X9_316)) (dd D_X9_bone 108 rfl) ?_
                          refine ro_go (st' := [.int (bI (F_X9_in ((((m_rows r5.2 (Int32.toNatClampNeg p1)) (Int32.toNatClampNeg w10_L63)) + ((m_rows r5.2 (Int32.toNatClampNeg p1)) (Int32.toNatClampNeg (w10_L63 - (1 : Int32))))) + ((m_rows r5.2 (Int32.toNatClampNeg p1)) (Int32.toNatClampNeg (w10_L63 - (2 : Int32))))) (88 : Int64) (89 : Int64))), .int w9_L63]) (rS (rest := [.int w9_L63]) F (c_X9_in D cA ((((m_rows r5.2 (Int32.toNatClampNeg p1)) (Int32.toNatClampNeg w10_L63)) + ((m_rows r5.2 (Int32.toNatClampNeg p1)) (Int32.toNatClampNeg (w10_L63 - (1 : Int32))))) + ((m_rows r5.2 (Int32.toNatClampNeg p1)) (Int32.toNatClampNeg (w10_L63 - (2 : Int32))))) (88 : Int64) (89 : Int64) l) lk_X9_63 (Nat.le_of_ble_eq_true rfl) (preRO hK hS hAb (emP)) rfl hl rfl (Nat.le_of_ble_eq_true rfl) (dd D_X9_bone 109 rfl) ⟨Nat.le_of_ble_eq_true rfl, Nat.le_of_ble_eq_true rfl⟩) rfl ?_
                          refine x_bif_eq (tgt := 211) F.1 F.2.1 (dd D_X9_bone 110 rfl) rfl h (fun c84 h => ?_) (fun c84 h => ?_)
                          · refine lv_iconst (v := (0 : Int32)) F.1 F.2.1 (dd D_X9_bone 113 rfl) ki_0 ?_
                            refine lv_iadd F.1 F.2.1 (dd D_X9_bone 114 rfl) ?_
                            refine lv_istore (lv' := [(9, .int (w9_L63 + (0 : Int32))), (8, .int w8_L63), (7, .int (w7_L63 + (1 : Int32))), (6, .int (w6_L63 + (0 : Int32))), (11, .int (bI (F_X9_in ((m_rows r5.2 (Int32.toNatClampNeg p1)) (Int32.toNatClampNeg w10_L63)) (29 : Int64) (30 : Int64)))), (0, .ref (am 0)), (1, .int p1), (2, .int p2), (3, .int p3), (4, .int r5.1), (5, .ref (am (5+(Int32.toNatClampNeg p1)))), (10, .int w10_L63)]) F.1 F.2.1 (dd D_X9_bone 115 rfl) hl (Nat.le_of_ble_eq_true rfl) rfl (fun ls hl => ?_)
                            refine lv_iinc (v := (w10_L63 + (1 : Int32))) (lv' := [(10, .int (w10_L63 + (1 : Int32))), (9, .int (w9_L63 + (0 : Int32))), (8, .int w8_L63), (7, .int (w7_L63 + (1 : Int32))), (6, .int (w6_L63 + (0 : Int32))), (11, .int (bI (F_X9_in ((m_rows r5.2 (Int32.toNatClampNeg p1)) (Int32.toNatClampNeg w10_L63)) (29 : Int64) (30 : Int64)))), (0, .ref (am 0)), (1, .int p1), (2, .int p2), (3, .int p3), (4, .int r5.1), (5, .ref (am (5+(Int32.toNatClampNeg p1))))]) F.1 F.2.1 (dd D_X9_bone 116 rfl) hl (k := 11) rfl (congrArg (fun z => w10_L63 + z) ki_1) (Nat.le_of_ble_eq_true rfl) rfl (fun ls hl => ?_)
                            refine lv_goto (tgt := 98) F.1 F.2.1 (dd D_X9_bone 117 rfl) rfl ?_
                            exact ih_L63 (w6_L63 + (0 : Int32)) (w7_L63 + (1 : Int32)) w8_L63 (w9_L63 + (0 : Int32)) (w10_L63 + (1 : Int32)) _ _ ls hP hD hS (lv_sub hl [6, 7, 8, 9, 10, 11, 4, 3, 2, 1, 0] rfl) h
                          · refine lv_iconst (v := (1 : Int32)) F.1 F.2.1 (dd D_X9_bone 111 rfl) ki_1 ?_
                            refine lv_goto (tgt := 212) F.1 F.2.1 (dd D_X9_bone 112 rfl) rfl ?_
                            refine lv_iadd F.1 F.2.1 (dd D_X9_bone 114 rfl) ?_
                            refine lv_istore (lv' := [(9, .int (w9_L63 + (1 : Int32))), (8, .int w8_L63), (7, .int (w7_L63 + (1 : Int32))), (6, .int (w6_L63 + (0 : Int32))), (11, .int (bI (F_X9_in ((m_rows r5.2 (Int32.toNatClampNeg p1)) (Int32.toNatClampNeg w10_L63)) (29 : Int64) (30 : Int64)))), (0, .ref (am 0)), (1, .int p1), (2, .int p2), (3, .int p3), (4, .int r5.1), (5, .ref (am (5+(Int32.toNatClampNeg p1)))), (10, .int w10_L63)]) F.1 F.2.1 (dd D_X9_bone 115 rfl) hl (Nat.le_of_ble_eq_true rfl) rfl (fun ls hl => ?_)
                            refine lv_iinc (v := (w10_L63 + (1 : Int32))) (lv' := [(10, .int (w10_L63 + (1 : Int32))), (9, .int (w9_L63 + (1 : Int32))), (8, .int w8_L63), (7, .int (w7_L63 + (1 : Int32))), (6, .int (w6_L63 + (0 : Int32))), (11, .int (bI (F_X9_in ((m_rows r5.2 (Int32.toNatClampNeg p1)) (Int32.toNatClampNeg w10_L63)) (29 : Int64) (30 : Int64)))), (0, .ref (am 0)), (1, .int p1), (2, .int p2), (3, .int p3), (4, .int r5.1), (5, .ref (am (5+(Int32.toNatClampNeg p1))))]) F.1 F.2.1 (dd D_X9_bone 116 rfl) hl (k := 11) rfl (congrArg (fun z => w10_L63 + z) ki_1) (Nat.le_of_ble_eq_true rfl) rfl (fun ls hl => ?_)
                            refine lv_goto (tgt := 98) F.1 F.2.1 (dd D_X9_bone 117 rfl) rfl ?_
                            exact ih_L63 (w6_L63 + (0 : Int32)) (w7_L63 + (1 : Int32)) w8_L63 (w9_L63 + (1 : Int32)) (w10_L63 + (1 : Int32)) _ _ ls hP hD hS (lv_sub hl [6, 7, 8, 9, 10, 11, 4, 3, 2, 1, 0] rfl) h
                      · refine lv_iload F.1 F.2.1 (dd D_X9_bone 84 rfl) (lv_at hl 0 rfl) ?_
                        refine lv_goto (tgt := 164) F.1 F.2.1 (dd D_X9_bone 85 rfl) rfl ?_
                        refine lv_istore (lv' := [(8, .int (w7_L63 + (1 : Int32))), (7, .int (w7_L63 + (1 : Int32))), (6, .int (w6_L63 + (0 : Int32))), (11, .int (bI (F_X9_in ((m_rows r5.2 (Int32.toNatClampNeg p1)) (Int32.toNatClampNeg w10_L63)) (29 : Int64) (30 : Int64)))), (0, .ref (am 0)), (1, .int p1), (2, .int p2), (3, .int p3), (4, .int r5.1), (5, .ref (am (5+(Int32.toNatClampNeg p1)))), (9, .int w9_L63), (10, .int w10_L63)]) F.1 F.2.1 (dd D_X9_bone 87 rfl) hl (Nat.le_of_ble_eq_true rfl) rfl (fun ls hl => ?_)
                        refine lv_iload F.1 F.2.1 (dd D_X9_bone 88 rfl) (lv_at hl 10 rfl) ?_
                        refine lv_iload F.1 F.2.1 (dd D_X9_bone 89 rfl) (lv_at hl 11 rfl) ?_
                        refine lv_iconst (v := (2 : Int32)) F.1 F.2.1 (dd D_X9_bone 90 rfl) ki_2 ?_
                        refine x_icmp_lt (tgt := 211) F.1 F.2.1 (dd D_X9_bone 91 rfl) rfl h (fun c85 h => ?_) (fun c85 h => ?_)
                        · refine lv_iconst (v := (0 : Int32)) F.1 F.2.1 (dd D_X9_bone 113 rfl) ki_0 ?_
                          refine lv_iadd F.1 F.2.1 (dd D_X9_bone 114 rfl) ?_
                          refine lv_istore (lv' := [(9, .int (w9_L63 + (0 : Int32))), (8, .int (w7_L63 + (1 : Int32))), (7, .int (w7_L63 + (1 : Int32))), (6, .int (w6_L63 + (0 : Int32))), (11, .int (bI (F_X9_in ((m_rows r5.2 (Int32.toNatClampNeg p1)) (Int32.toNatClampNeg w10_L63)) (29 : Int64) (30 : Int64)))), (0, .ref (am 0)), (1, .int p1), (2, .int p2), (3, .int p3), (4, .int r5.1), (5, .ref (am (5+(Int32.toNatClampNeg p1)))), (10, .int w10_L63)]) F.1 F.2.1 (dd D_X9_bone 115 rfl) hl (Nat.le_of_ble_eq_true rfl) rfl (fun ls hl => ?_)
                          refine lv_iinc (v := (w10_L63 + (1 : Int32))) (lv' := [(10, .int (w10_L63 + (1 : Int32))), (9, .int (w9_L63 + (0 : Int32))), (8, .int (w7_L63 + (1 : Int32))), (7, .int (w7_L63 + (1 : Int32))), (6, .int (w6_L63 + (0 : Int32))), (11, .int (bI (F_X9_in ((m_rows r5.2 (Int32.toNatClampNeg p1)) (Int32.toNatClampNeg w10_L63)) (29 : Int64) (30 : Int64)))), (0, .ref (am 0)), (1, .int p1), (2, .int p2), (3, .int p3), (4, .int r5.1), (5, .ref (am (5+(Int32.toNatClampNeg p1))))]) F.1 F.2.1 (dd D_X9_bone 116 rfl) hl (k := 11) rfl (congrArg (fun z => w10_L63 + z) ki_1) (Nat.le_of_ble_eq_true rfl) rfl (fun ls hl => ?_)
                          refine lv_goto (tgt := 98) F.1 F.2.1 (dd D_X9_bone 117 rfl) rfl ?_
                          exact ih_L63 (w6_L63 + (0 : Int32)) (w7_L63 + (1 : Int32)) (w7_L63 + (1 : Int32)) (w9_L63 + (0 : Int32)) (w10_L63 + (1 : Int32)) _ _ ls hP hD hS (lv_sub hl [6, 7, 8, 9, 10, 11, 4, 3, 2, 1, 0] rfl) h
                        · refine lv_aload F.1 F.2.1 (dd D_X9_bone 92 rfl) (lv_at hl 9 rfl) ?_
                          refine lv_iload F.1 F.2.1 (dd D_X9_bone 93 rfl) (lv_at hl 11 rfl) ?_
                          refine aldL F hK hP (5+(Int32.toNatClampNeg p1)) (mp_row cA am r5.2 (Int32.toNatClampNeg p1) hk11) h (dd D_X9_bone 94 rfl) (fun z86 h => ?_)
                          refine lv_aload F.1 F.2.1 (dd D_X9_bone 95 rfl) (lv_at hl 9 rfl) ?_
                          refine lv_iload F.1 F.2.1 (dd D_X9_bone 96 rfl) (lv_at hl 11 rfl) ?_
                          refine lv_iconst (v := (1 : Int32)) F.1 F.2.1 (dd D_X9_bone 97 rfl) ki_1 ?_
                          refine lv_isub F.1 F.2.1 (dd D_X9_bone 98 rfl) ?_
                          refine aldL F hK hP (5+(Int32.toNatClampNeg p1)) (mp_row cA am r5.2 (Int32.toNatClampNeg p1) hk11) h (dd D_X9_bone 99 rfl) (fun z87 h => ?_)
                          refine lv_ladd F.1 F.2.1 (dd D_X9_bone 100 rfl) ?_
                          refine lv_aload F.1 F.2.1 (dd D_X9_bone 101 rfl) (lv_at hl 9 rfl) ?_
                          refine lv_iload F.1 F.2.1 (dd D_X9_bone 102 rfl) (lv_at hl 11 rfl) ?_
                          refine lv_iconst (v := (2 : Int32)) F.1 F.2.1 (dd D_X9_bone 103 rfl) ki_2 ?_
                          refine lv_isub F.1 F.2.1 (dd D_X9_bone 104 rfl) ?_
                          refine aldL F hK hP (5+(Int32.toNatClampNeg p1)) (mp_row cA am r5.2 (Int32.toNatClampNeg p1) hk11) h (dd D_X9_bone 105 rfl) (fun z88 h => ?_)
                          refine lv_ladd F.1 F.2.1 (dd D_X9_bone 106 rfl) ?_
                          refine lv_ldc2 (own := RX9) (v := (88 : Int64)) F.1 F.2.1 F.2.2.2.1 (F.2.2.2.2 _ (kL_X9_314)) (dd D_X9_bone 107 rfl) ?_
                          refine lv_ldc2 (own := RX9) (v := (89 : Int64)) F.1 F.2.1 F.2.2.2.1 (F.2.2.2.2 _ (kL_X9_316)) (dd D_X9_bone 108 rfl) ?_
                          refine ro_go (st' := [.int (bI (F_X9_in ((((m_rows r5.2 (Int32.toNatClampNeg p1)) (Int32.toNatClampNeg w10_L63)) + ((m_rows r5.2 (Int32.toNatClampNeg p1)) (Int32.toNatClampNeg (w10_L63 - (1 : Int32))))) + ((m_rows r5.2 (Int32.toNatClampNeg p1)) (Int32.toNatClampNeg (w10_L63 - (2 : Int32))))) (88 : Int64) (89 : Int64))), .int w9_L63]) (rS (rest := [.int w9_L63]) F (c_X9_in D cA ((((m_rows r5.2 (Int32.toNatClampNeg p1)) (Int32.toNatClampNeg w10_L63)) + ((m_rows r5.2 (Int32.toNatClampNeg p1)) (Int32.toNatClampNeg (w10_L63 - (1 : Int32))))) + ((m_rows r5.2 (Int32.toNatClampNeg p1)) (Int32.toNatClampNeg (w10_L63 - (2 : Int32))))) (88 : Int64) (89 : Int64) l) lk_X9_63 (Nat.le_of_ble_eq_true rfl) (preRO hK hS hAb (emP)) rfl hl rfl (Nat.le_of_ble_eq_true rfl) (dd D_X9_bone 109 rfl) ⟨Nat.le_of_ble_eq_true rfl, Nat.le_of_ble_eq_true rfl⟩) rfl ?_
                          refine x_bif_eq (tgt := 211) F.1 F.2.1 (dd D_X9_bone 110 rfl) rfl h (fun c89 h => ?_) (fun c89 h => ?_)
                          · refine lv_iconst (v := (0 : Int32)) F.1 F.2.1 (dd D_X9_bone 113 rfl) ki_0 ?_
                            refine lv_iadd F.1 F.2.1 (dd D_X9_bone 114 rfl) ?_
                            refine lv_istore (lv' := [(9, .int (w9_L63 + (0 : Int32))), (8, .int (w7_L63 + (1 : Int32))), (7, .int (w7_L63 + (1 : Int32))), (6, .int (w6_L63 + (0 : Int32))), (11, .int (bI (F_X9_in ((m_rows r5.2 (Int32.toNatClampNeg p1)) (Int32.toNatClampNeg w10_L63)) (29 : Int64) (30 : Int64)))), (0, .ref (am 0)), (1, .int p1), (2, .int p2), (3, .int p3), (4, .int r5.1), (5, .ref (am (5+(Int32.toNatClampNeg p1)))), (10, .int w10_L63)]) F.1 F.2.1 (dd D_X9_bone 115 rfl) hl (Nat.le_of_ble_eq_true rfl) rfl (fun ls hl => ?_)
                            refine lv_iinc (v := (w10_L63 + (1 : Int32))) (lv' := [(10, .int (w10_L63 + (1 : Int32))), (9, .int (w9_L63 + (0 : Int32))), (8, .int (w7_L63 + (1 : Int32))), (7, .int (w7_L63 + (1 : Int32))), (6, .int (w6_L63 + (0 : Int32))), (11, .int (bI (F_X9_in ((m_rows r5.2 (Int32.toNatClampNeg p1)) (Int32.toNatClampNeg w10_L63)) (29 : Int64) (30 : Int64)))), (0, .ref (am 0)), (1, .int p1), (2, .int p2), (3, .int p3), (4, .int r5.1), (5, .ref (am (5+(Int32.toNatClampNeg p1))))]) F.1 F.2.1 (dd D_X9_bone 116 rfl) hl (k := 11) rfl (congrArg (fun z => w10_L63 + z) ki_1) (Nat.le_of_ble_eq_true rfl) rfl (fun ls hl => ?_)
                            refine lv_goto (tgt := 98) F.1 F.2.1 (dd D_X9_bone 117 rfl) rfl ?_
                            exact ih_L63 (w6_L63 + (0 : Int32)) (w7_L63 + (1 : Int32)) (w7_L63 + (1 : Int32)) (w9_L63 + (0 : Int32)) (w10_L63 + (1 : Int32)) _ _ ls hP hD hS (lv_sub hl [6, 7, 8, 9, 10, 11, 4, 3, 2, 1, 0] rfl) h
                          · refine lv_iconst (v := (1 : Int32)) F.1 F.2.1 (dd D_X9_bone 111 rfl) ki_1 ?_
                            refine lv_goto (tgt := 212) F.1 F.2.1 (dd D_X9_bone 112 rfl) rfl ?_
                            refine lv_iadd F.1 F.2.1 (dd D_X9_bone 114 rfl) ?_
                            refine lv_istore (lv' := [(9, .int (w9_L63 + (1 : Int32))), (8, .int (w7_L63 + (1 : Int32))), (7, .int (w7_L63 + (1 : Int32))), (6, .int (w6_L63 + (0 : Int32))), (11, .int (bI (F_X9_in ((m_rows r5.2 (Int32.toNatClampNeg p1)) (Int32.toNatClampNeg w10_L63)) (29 : Int64) (30 : Int64)))), (0, .ref (am 0)), (1, .int p1), (2, .int p2), (3, .int p3), (4, .int r5.1), (5, .ref (am (5+(Int32.toNatClampNeg p1)))), (10, .int w10_L63)]) F.1 F.2.1 (dd D_X9_bone 115 rfl) hl (Nat.le_of_ble_eq_true rfl) rfl (fun ls hl => ?_)
                            refine lv_iinc (v := (w10_L63 + (1 : Int32))) (lv' := [(10, .int (w10_L63 + (1 : Int32))), (9, .int (w9_L63 + (1 : Int32))), (8, .int (w7_L63 + (1 : Int32))), (7, .int (w7_L63 + (1 : Int32))), (6, .int (w6_L63 + (0 : Int32))), (11, .int (bI (F_X9_in ((m_rows r5.2 (Int32.toNatClampNeg p1)) (Int32.toNatClampNeg w10_L63)) (29 : Int64) (30 : Int64)))), (0, .ref (am 0)), (1, .int p1), (2, .int p2), (3, .int p3), (4, .int r5.1), (5, .ref (am (5+(Int32.toNatClampNeg p1))))]) F.1 F.2.1 (dd D_X9_bone 116 rfl) hl (k := 11) rfl (congrArg (fun z => w10_L63 + z) ki_1) (Nat.le_of_ble_eq_true rfl) rfl (fun ls hl => ?_)
                            refine lv_goto (tgt := 98) F.1 F.2.1 (dd D_X9_bone 117 rfl) rfl ?_
                            exact ih_L63 (w6_L63 + (0 : Int32)) (w7_L63 + (1 : Int32)) (w7_L63 + (1 : Int32)) (w9_L63 + (1 : Int32)) (w10_L63 + (1 : Int32)) _ _ ls hP hD hS (lv_sub hl [6, 7, 8, 9, 10, 11, 4, 3, 2, 1, 0] rfl) h
                  · refine lv_iconst (v := (1 : Int32)) F.1 F.2.1 (dd D_X9_bone 68 rfl) ki_1 ?_
                    refine lv_goto (tgt := 132) F.1 F.2.1 (dd D_X9_bone 69 rfl) rfl ?_
                    refine lv_iadd F.1 F.2.1 (dd D_X9_bone 71 rfl) ?_
                    refine lv_istore (lv' := [(6, .int (w6_L63 + (1 : Int32))), (11, .int (bI (F_X9_in ((m_rows r5.2 (Int32.toNatClampNeg p1)) (Int32.toNatClampNeg w10_L63)) (29 : Int64) (30 : Int64)))), (0, .ref (am 0)), (1, .int p1), (2, .int p2), (3, .int p3), (4, .int r5.1), (5, .ref (am (5+(Int32.toNatClampNeg p1)))), (7, .int w7_L63), (8, .int w8_L63), (9, .int w9_L63), (10, .int w10_L63)]) F.1 F.2.1 (dd D_X9_bone 72 rfl) hl (Nat.le_of_ble_eq_true rfl) rfl (fun ls hl => ?_)
                    refine lv_iload F.1 F.2.1 (dd D_X9_bone 73 rfl) (lv_at hl 1 rfl) ?_
                    refine x_bif_eq (tgt := 147) F.1 F.2.1 (dd D_X9_bone 74 rfl) rfl h (fun c113 h => ?_) (fun c113 h => ?_)
                    · refine lv_iconst (v := (0 : Int32)) F.1 F.2.1 (dd D_X9_bone 79 rfl) ki_0 ?_
                      refine lv_istore (lv' := [(7, .int (0 : Int32)), (6, .int (w6_L63 + (1 : Int32))), (11, .int (bI (F_X9_in ((m_rows r5.2 (Int32.toNatClampNeg p1)) (Int32.toNatClampNeg w10_L63)) (29 : Int64) (30 : Int64)))), (0, .ref (am 0)), (1, .int p1), (2, .int p2), (3, .int p3), (4, .int r5.1), (5, .ref (am (5+(Int32.toNatClampNeg p1)))), (8, .int w8_L63), (9, .int w9_L63), (10, .int w10_L63)]) F.1 F.2.1 (dd D_X9_bone 80 rfl) hl (Nat.le_of_ble_eq_true rfl) rfl (fun ls hl => ?_)
                      refine lv_iload F.1 F.2.1 (dd D_X9_bone 81 rfl) (lv_at hl 0 rfl) ?_
                      refine lv_iload F.1 F.2.1 (dd D_X9_bone 82 rfl) (lv_at hl 9 rfl) ?_
                      refine x_icmp_le (tgt := 162) F.1 F.2.1 (dd D_X9_bone 83 rfl) rfl h (fun c91 h => ?_) (fun c91 h => ?_)
                      · refine lv_iload F.1 F.2.1 (dd D_X9_bone 86 rfl) (lv_at hl 9 rfl) ?_
                        refine lv_istore (lv' := [(8, .int w8_L63), (7, .int (0 : Int32)), (6, .int (w6_L63 + (1 : Int32))), (11, .int (bI (F_X9_in ((m_rows r5.2 (Int32.toNatClampNeg p1)) (Int32.toNatClampNeg w10_L63)) (29 : Int64) (30 : Int64)))), (0, .ref (am 0)), (1, .int p1), (2, .int p2), (3, .int p3), (4, .int r5.1), (5, .ref (am (5+(Int32.toNatClampNeg p1)))), (9, .int w9_L63), (10, .int w10_L63)]) F.1 F.2.1 (dd D_X9_bone 87 rfl) hl (Nat.le_of_ble_eq_true rfl) rfl (fun ls hl => ?_)
                        refine lv_iload F.1 F.2.1 (dd D_X9_bone 88 rfl) (lv_at hl 10 rfl) ?_
                        refine lv_iload F.1 F.2.1 (dd D_X9_bone 89 rfl) (lv_at hl 11 rfl) ?_
                        refine lv_iconst (v := (2 : Int32)) F.1 F.2.1 (dd D_X9_bone 90 rfl) ki_2 ?_
                        refine x_icmp_lt (tgt := 211) F.1 F.2.1 (dd D_X9_bone 91 rfl) rfl h (fun c92 h => ?_) (fun c92 h => ?_)
                        · refine lv_iconst (v := (0 : Int32)) F.1 F.2.1 (dd D_X9_bone 113 rfl) ki_0 ?_
                          refine lv_iadd F.1 F.2.1 (dd D_X9_bone 114 rfl) ?_
                          refine lv_istore (lv' := [(9, .int (w9_L63 + (0 : Int32))), (8, .int w8_L63), (7, .int (0 : Int32)), (6, .int (w6_L63 + (1 : Int32))), (11, .int (bI (F_X9_in ((m_rows r5.2 (Int32.toNatClampNeg p1)) (Int32.toNatClampNeg w10_L63)) (29 : Int64) (30 : Int64)))), (0, .ref (am 0)), (1, .int p1), (2, .int p2), (3, .int p3), (4, .int r5.1), (5, .ref (am (5+(Int32.toNatClampNeg p1)))), (10, .int w10_L63)]) F.1 F.2.1 (dd D_X9_bone 115 rfl) hl (Nat.le_of_ble_eq_true rfl) rfl (fun ls hl => ?_)
                          refine lv_iinc (v := (w10_L63 + (1 : Int32))) (lv' := [(10, .int (w10_L63 + (1 : Int32))), (9, .int (w9_L63 + (0 : Int32))), (8, .int w8_L63), (7, .int (0 : Int32)), (6, .int (w6_L63 + (1 : Int32))), (11, .int (bI (F_X9_in ((m_rows r5.2 (Int32.toNatClampNeg p1)) (Int32.toNatClampNeg w10_L63)) (29 : Int64) (30 : Int64)))), (0, .ref (am 0)), (1, .int p1), (2, .int p2), (3, .int p3), (4, .int r5.1), (5, .ref (am (5+(Int32.toNatClampNeg p1))))]) F.1 F.2.1 (dd D_X9_bone 116 rfl) hl (k := 11) rfl (congrArg (fun z => w10_L63 + z) ki_1) (Nat.le_of_ble_eq_true rfl) rfl (fun ls hl => ?_)
                          refine lv_goto (tgt := 98) F.1 F.2.1 (dd D_X9_bone 117 rfl) rfl ?_
                          exact ih_L63 (w6_L63 + (1 : Int32)) (0 : Int32) w8_L63 (w9_L63 + (0 : Int32)) (w10_L63 + (1 : Int32)) _ _ ls hP hD hS (lv_sub hl [6, 7, 8, 9, 10, 11, 4, 3, 2, 1, 0] rfl) h
                        · refine lv_aload F.1 F.2.1 (dd D_X9_bone 92 rfl) (lv_at hl 9 rfl) ?_
                          refine lv_iload F.1 F.2.1 (dd D_X9_bone 93 rfl) (lv_at hl 11 rfl) ?_
                          refine aldL F hK hP (5+(Int32.toNatClampNeg p1)) (mp_row cA am r5.2 (Int32.toNatClampNeg p1) hk11) h (dd D_X9_bone 94 rfl) (fun z93 h => ?_)
                          refine lv_aload F.1 F.2.1 (dd D_X9_bone 95 rfl) (lv_at hl 9 rfl) ?_
                          refine lv_iload F.1 F.2.1 (dd D_X9_bone 96 rfl) (lv_at hl 11 rfl) ?_
                          refine lv_iconst (v := (1 : Int32)) F.1 F.2.1 (dd D_X9_bone 97 rfl) ki_1 ?_
                          refine lv_isub F.1 F.2.1 (dd D_X9_bone 98 rfl) ?_
                          refine aldL F hK hP (5+(Int32.toNatClampNeg p1)) (mp_row cA am r5.2 (Int32.toNatClampNeg p1) hk11) h (dd D_X9_bone 99 rfl) (fun z94 h => ?_)
                          refine lv_ladd F.1 F.2.1 (dd D_X9_bone 100 rfl) ?_
                          refine lv_aload F.1 F.2.1 (dd D_X9_bone 101 rfl) (lv_at hl 9 rfl) ?_
                          refine lv_iload F.1 F.2.1 (dd D_X9_bone 102 rfl) (lv_at hl 11 rfl) ?_
                          refine lv_iconst (v := (2 : Int32)) F.1 F.2.1 (dd D_X9_bone 103 rfl) ki_2 ?_
                          refine lv_isub F.1 F.2.1 (dd D_X9_bone 104 rfl) ?_
                          refine aldL F hK hP (5+(Int32.toNatClampNeg p1)) (mp_row cA am r5.2 (Int32.toNatClampNeg p1) hk11) h (dd D_X9_bone 105 rfl) (fun z95 h => ?_)
                          refine lv_ladd F.1 F.2.1 (dd D_X9_bone 106 rfl) ?_
                          refine lv_ldc2 (own := RX9) (v := (88 : Int64)) F.1 F.2.1 F.2.2.2.1 (F.2.2.2.2 _ (kL_X9_314)) (dd D_X9_bone 107 rfl) ?_
                          refine lv_ldc2 (own := RX9) (v := (89 : Int64)) F.1 F.2.1 F.2.2.2.1 (F.2.2.2.2 _ (kL_X9_316)) (dd D_X9_bone 108 rfl) ?_
                          refine ro_go (st' := [.int (bI (F_X9_in ((((m_rows r5.2 (Int32.toNatClampNeg p1)) (Int32.toNatClampNeg w10_L63)) + ((m_rows r5.2 (Int32.toNatClampNeg p1)) (Int32.toNatClampNeg (w10_L63 - (1 : Int32))))) + ((m_rows r5.2 (Int32.toNatClampNeg p1)) (Int32.toNatClampNeg (w10_L63 - (2 : Int32))))) (88 : Int64) (89 : Int64))), .int w9_L63]) (rS (rest := [.int w9_L63]) F (c_X9_in D cA ((((m_rows r5.2 (Int32.toNatClampNeg p1)) (Int32.toNatClampNeg w10_L63)) + ((m_rows r5.2 (Int32.toNatClampNeg p1)) (Int32.toNatClampNeg (w10_L63 - (1 : Int32))))) + ((m_rows r5.2 (Int32.toNatClampNeg p1)) (Int32.toNatClampNeg (w10_L63 - (2 : Int32))))) (88 : Int64) (89 : Int64) l) lk_X9_63 (Nat.le_of_ble_eq_true rfl) (preRO hK hS hAb (emP)) rfl hl rfl (Nat.le_of_ble_eq_true rfl) (dd D_X9_bone 109 rfl) ⟨Nat.le_of_ble_eq_true rfl, Nat.le_of_ble_eq_true rfl⟩) rfl ?_
                          refine x_bif_eq (tgt := 211) F.1 F.2.1 (dd D_X9_bone 110 rfl) rfl h (fun c96 h => ?_) (fun c96 h => ?_)
                          · refine lv_iconst (v := (0 : Int32)) F.1 F.2.1 (dd D_X9_bone 113 rfl) ki_0 ?_
                            refine lv_iadd F.1 F.2.1 (dd D_X9_bone 114 rfl) ?_
                            refine lv_istore (lv' := [(9, .int (w9_L63 + (0 : Int32))), (8, .int w8_L63), (7, .int (0 : Int32)), (6, .int (w6_L63 + (1 : Int32))), (11, .int (bI (F_X9_in ((m_rows r5.2 (Int32.toNatClampNeg p1)) (Int32.toNatClampNeg w10_L63)) (29 : Int64) (30 : Int64)))), (0, .ref (am 0)), (1, .int p1), (2, .int p2), (3, .int p3), (4, .int r5.1), (5, .ref (am (5+(Int32.toNatClampNeg p1)))), (10, .int w10_L63)]) F.1 F.2.1 (dd D_X9_bone 115 rfl) hl (Nat.le_of_ble_eq_true rfl) rfl (fun ls hl => ?_)
                            refine lv_iinc (v := (w10_L63 + (1 : Int32))) (lv' := [(10, .int (w10_L63 + (1 : Int32))), (9, .int (w9_L63 + (0 : Int32))), (8, .int w8_L63), (7, .int (0 : Int32)), (6, .int (w6_L63 + (1 : Int32))), (11, .int (bI (F_X9_in ((m_rows r5.2 (Int32.toNatClampNeg p1)) (Int32.toNatClampNeg w10_L63)) (29 : Int64) (30 : Int64)))), (0, .ref (am 0)), (1, .int p1), (2, .int p2), (3, .int p3), (4, .int r5.1), (5, .ref (am (5+(Int32.toNatClampNeg p1))))]) F.1 F.2.1 (dd D_X9_bone 116 rfl) hl (k := 11) rfl (congrArg (fun z => w10_L63 + z) ki_1) (Nat.le_of_ble_eq_true rfl) rfl (fun ls hl => ?_)
                            refine lv_goto (tgt := 98) F.1 F.2.1 (dd D_X9_bone 117 rfl) rfl ?_
                            exact ih_L63 (w6_L63 + (1 : Int32)) (0 : Int32) w8_L63 (w9_L63 + (0 : Int32)) (w10_L63 + (1 : Int32)) _ _ ls hP hD hS (lv_sub hl [6, 7, 8, 9, 10, 11, 4, 3, 2, 1, 0] rfl) h
                          · refine lv_iconst (v := (1 : Int32)) F.1 F.2.1 (dd D_X9_bone 111 rfl) ki_1 ?_
                            refine lv_goto (tgt := 212) F.1 F.2.1 (dd D_X9_bone 112 rfl) rfl ?_
                            refine lv_iadd F.1 F.2.1 (dd D_X9_bone 114 rfl) ?_
                            refine lv_istore (lv' := [(9, .int (w9_L63 + (1 : Int32))), (8, .int w8_L63), (7, .int (0 : Int32)), (6, .int (w6_L63 + (1 : Int32))), (11, .int (bI (F_X9_in ((m_rows r5.2 (Int32.toNatClampNeg p1)) (Int32.toNatClampNeg w10_L63)) (29 : Int64) (30 : Int64)))), (0, .ref (am 0)), (1, .int p1), (2, .int p2), (3, .int p3), (4, .int r5.1), (5, .ref (am (5+(Int32.toNatClampNeg p1)))), (10, .int w10_L63)]) F.1 F.2.1 (dd D_X9_bone 115 rfl) hl (Nat.le_of_ble_eq_true rfl) rfl (fun ls hl => ?_)
                            refine lv_iinc (v := (w10_L63 + (1 : Int32))) (lv' := [(10, .int (w10_L63 + (1 : Int32))), (9, .int (w9_L63 + (1 : Int32))), (8, .int w8_L63), (7, .int (0 : Int32)), (6, .int (w6_L63 + (1 : Int32))), (11, .int (bI (F_X9_in ((m_rows r5.2 (Int32.toNatClampNeg p1)) (Int32.toNatClampNeg w10_L63)) (29 : Int64) (30 : Int64)))), (0, .ref (am 0)), (1, .int p1), (2, .int p2), (3, .int p3), (4, .int r5.1), (5, .ref (am (5+(Int32.toNatClampNeg p1))))]) F.1 F.2.1 (dd D_X9_bone 116 rfl) hl (k := 11) rfl (congrArg (fun z => w10_L63 + z) ki_1) (Nat.le_of_ble_eq_true rfl) rfl (fun ls hl => ?_)
                            refine lv_goto (tgt := 98) F.1 F.2.1 (dd D_X9_bone 117 rfl) rfl ?_
                            exact ih_L63 (w6_L63 + (1 : Int32)) (0 : Int32) w8_L63 (w9_L63 + (1 : Int32)) (w10_L63 + (1 : Int32)) _ _ ls hP hD hS (lv_sub hl [6, 7, 8, 9, 10, 11, 4, 3, 2, 1, 0] rfl) h
                      · refine lv_iload F.1 F.2.1 (dd D_X9_bone 84 rfl) (lv_at hl 0 rfl) ?_
                        refine lv_goto (tgt := 164) F.1 F.2.1 (dd D_X9_bone 85 rfl) rfl ?_
                        refine lv_istore (lv' := [(8, .int (0 : Int32)), (7, .int (0 : Int32)), (6, .int (w6_L63 + (1 : Int32))), (11, .int (bI (F_X9_in ((m_rows r5.2 (Int32.toNatClampNeg p1)) (Int32.toNatClampNeg w10_L63)) (29 : Int64) (30 : Int64)))), (0, .ref (am 0)), (1, .int p1), (2, .int p2), (3, .int p3), (4, .int r5.1), (5, .ref (am (5+(Int32.toNatClampNeg p1)))), (9, .int w9_L63), (10, .int w10_L63)]) F.1 F.2.1 (dd D_X9_bone 87 rfl) hl (Nat.le_of_ble_eq_true rfl) rfl (fun ls hl => ?_)
                        refine lv_iload F.1 F.2.1 (dd D_X9_bone 88 rfl) (lv_at hl 10 rfl) ?_
                        refine lv_iload F.1 F.2.1 (dd D_X9_bone 89 rfl) (lv_at hl 11 rfl) ?_
                        refine lv_iconst (v := (2 : Int32)) F.1 F.2.1 (dd D_X9_bone 90 rfl) ki_2 ?_
                        refine x_icmp_lt (tgt := 211) F.1 F.2.1 (dd D_X9_bone 91 rfl) rfl h (fun c97 h => ?_) (fun c97 h => ?_)
                        · refine lv_iconst (v := (0 : Int32)) F.1 F.2.1 (dd D_X9_bone 113 rfl) ki_0 ?_
                          refine lv_iadd F.1 F.2.1 (dd D_X9_bone 114 rfl) ?_
                          refine lv_istore (lv' := [(9, .int (w9_L63 + (0 : Int32))), (8, .int (0 : Int32)), (7, .int (0 : Int32)), (6, .int (w6_L63 + (1 : Int32))), (11, .int (bI (F_X9_in ((m_rows r5.2 (Int32.toNatClampNeg p1)) (Int32.toNatClampNeg w10_L63)) (29 : Int64) (30 : Int64)))), (0, .ref (am 0)), (1, .int p1), (2, .int p2), (3, .int p3), (4, .int r5.1), (5, .ref (am (5+(Int32.toNatClampNeg p1)))), (10, .int w10_L63)]) F.1 F.2.1 (dd D_X9_bone 115 rfl) hl (Nat.le_of_ble_eq_true rfl) rfl (fun ls hl => ?_)
                          refine lv_iinc (v := (w10_L63 + (1 : Int32))) (lv' := [(10, .int (w10_L63 + (1 : Int32))), (9, .int (w9_L63 + (0 : Int32))), (8, .int (0 : Int32)), (7, .int (0 : Int32)), (6, .int (w6_L63 + (1 : Int32))), (11, .int (bI (F_X9_in ((m_rows r5.2 (Int32.toNatClampNeg p1)) (Int32.toNatClampNeg w10_L63)) (29 : Int64) (30 : Int64)))), (0, .ref (am 0)), (1, .int p1), (2, .int p2), (3, .int p3), (4, .int r5.1), (5, .ref (am (5+(Int32.toNatClampNeg p1))))]) F.1 F.2.1 (dd D_X9_bone 116 rfl) hl (k := 11) rfl (congrArg (fun z => w10_L63 + z) ki_1) (Nat.le_of_ble_eq_true rfl) rfl (fun ls hl => ?_)
                          refine lv_goto (tgt := 98) F.1 F.2.1 (dd D_X9_bone 117 rfl) rfl ?_
                          exact ih_L63 (w6_L63 + (1 : Int32)) (0 : Int32) (0 : Int32) (w9_L63 + (0 : Int32)) (w10_L63 + (1 : Int32)) _ _ ls hP hD hS (lv_sub hl [6, 7, 8, 9, 10, 11, 4, 3, 2, 1, 0] rfl) h
                        · refine lv_aload F.1 F.2.1 (dd D_X9_bone 92 rfl) (lv_at hl 9 rfl) ?_
                          refine lv_iload F.1 F.2.1 (dd D_X9_bone 93 rfl) (lv_at hl 11 rfl) ?_
                          refine aldL F hK hP (5+(Int32.toNatClampNeg p1)) (mp_row cA am r5.2 (Int32.toNatClampNeg p1) hk11) h (dd D_X9_bone 94 rfl) (fun z98 h => ?_)
                          refine lv_aload F.1 F.2.1 (dd D_X9_bone 95 rfl) (lv_at hl 9 rfl) ?_
                          refine lv_iload F.1 F.2.1 (dd D_X9_bone 96 rfl) (lv_at hl 11 rfl) ?_
                          refine lv_iconst (v := (1 : Int32)) F.1 F.2.1 (dd D_X9_bone 97 rfl) ki_1 ?_
                          refine lv_isub F.1 F.2.1 (dd D_X9_bone 98 rfl) ?_
                          refine aldL F hK hP (5+(Int32.toNatClampNeg p1)) (mp_row cA am r5.2 (Int32.toNatClampNeg p1) hk11) h (dd D_X9_bone 99 rfl) (fun z99 h => ?_)
                          refine lv_ladd F.1 F.2.1 (dd D_X9_bone 100 rfl) ?_
                          refine lv_aload F.1 F.2.1 (dd D_X9_bone 101 rfl) (lv_at hl 9 rfl) ?_
                          refine lv_iload F.1 F.2.1 (dd D_X9_bone 102 rfl) (lv_at hl 11 rfl) ?_
                          refine lv_iconst (v := (2 : Int32)) F.1 F.2.1 (dd D_X9_bone 103 rfl) ki_2 ?_
                          refine lv_isub F.1 F.2.1 (dd D_X9_bone 104 rfl) ?_
                          refine aldL F hK hP (5+(Int32.toNatClampNeg p1)) (mp_row cA am r5.2 (Int32.toNatClampNeg p1) hk11) h (dd D_X9_bone 105 rfl) (fun z100 h => ?_)
                          refine lv_ladd F.1 F.2.1 (dd D_X9_bone 106 rfl) ?_
                          refine lv_ldc2 (own := RX9) (v := (88 : Int64)) F.1 F.2.1 F.2.2.2.1 (F.2.2.2.2 _ (kL_X9_314)) (dd D_X9_bone 107 rfl) ?_
                          refine lv_ldc2 (own := RX9) (v := (89 : Int64)) F.1 F.2.1 F.2.2.2.1 (F.2.2.2.2 _ (kL_X9_316)) (dd D_X9_bone 108 rfl) ?_
                          refine ro_go (st' := [.int (bI (F_X9_in ((((m_rows r5.2 (Int32.toNatClampNeg p1)) (Int32.toNatClampNeg w10_L63)) + ((m_rows r5.2 (Int32.toNatClampNeg p1)) (Int32.toNatClampNeg (w10_L63 - (1 : Int32))))) + ((m_rows r5.2 (Int32.toNatClampNeg p1)) (Int32.toNatClampNeg (w10_L63 - (2 : Int32))))) (88 : Int64) (89 : Int64))), .int w9_L63]) (rS (rest := [.int w9_L63]) F (c_X9_in D cA ((((m_rows r5.2 (Int32.toNatClampNeg p1)) (Int32.toNatClampNeg w10_L63)) + ((m_rows r5.2 (Int32.toNatClampNeg p1)) (Int32.toNatClampNeg (w10_L63 - (1 : Int32))))) + ((m_rows r5.2 (Int32.toNatClampNeg p1)) (Int32.toNatClampNeg (w10_L63 - (2 : Int32))))) (88 : Int64) (89 : Int64) l) lk_X9_63 (Nat.le_of_ble_eq_true rfl) (preRO hK hS hAb (emP)) rfl hl rfl (Nat.le_of_ble_eq_true rfl) (dd D_X9_bone 109 rfl) ⟨Nat.le_of_ble_eq_true rfl, Nat.le_of_ble_eq_true rfl⟩) rfl ?_
                          refine x_bif_eq (tgt := 211) F.1 F.2.1 (dd D_X9_bone 110 rfl) rfl h (fun c101 h => ?_) (fun c101 h => ?_)
                          · refine lv_iconst (v := (0 : Int32)) F.1 F.2.1 (dd D_X9_bone 113 rfl) ki_0 ?_
                            refine lv_iadd F.1 F.2.1 (dd D_X9_bone 114 rfl) ?_
                            refine lv_istore (lv' := [(9, .int (w9_L63 + (0 : Int32))), (8, .int (0 : Int32)), (7, .int (0 : Int32)), (6, .int (w6_L63 + (1 : Int32))), (11, .int (bI (F_X9_in ((m_rows r5.2 (Int32.toNatClampNeg p1)) (Int32.toNatClampNeg w10_L63)) (29 : Int64) (30 : Int64)))), (0, .ref (am 0)), (1, .int p1), (2, .int p2), (3, .int p3), (4, .int r5.1), (5, .ref (am (5+(Int32.toNatClampNeg p1)))), (10, .int w10_L63)]) F.1 F.2.1 (dd D_X9_bone 115 rfl) hl (Nat.le_of_ble_eq_true rfl) rfl (fun ls hl => ?_)
                            refine lv_iinc (v := (w10_L63 + (1 : Int32))) (lv' := [(10, .int (w10_L63 + (1 : Int32))), (9, .int (w9_L63 + (0 : Int32))), (8, .int (0 : Int32)), (7, .int (0 : Int32)), (6, .int (w6_L63 + (1 : Int32))), (11, .int (bI (F_X9_in ((m_rows r5.2 (Int32.toNatClampNeg p1)) (Int32.toNatClampNeg w10_L63)) (29 : Int64) (30 : Int64)))), (0, .ref (am 0)), (1, .int p1), (2, .int p2), (3, .int p3), (4, .int r5.1), (5, .ref (am (5+(Int32.toNatClampNeg p1))))]) F.1 F.2.1 (dd D_X9_bone 116 rfl) hl (k := 11) rfl (congrArg (fun z => w10_L63 + z) ki_1) (Nat.le_of_ble_eq_true rfl) rfl (fun ls hl => ?_)
                            refine lv_goto (tgt := 98) F.1 F.2.1 (dd D_X9_bone 117 rfl) rfl ?_
                            exact ih_L63 (w6_L63 + (1 : Int32)) (0 : Int32) (0 : Int32) (w9_L63 + (0 : Int32)) (w10_L63 + (1 : Int32)) _ _ ls hP hD hS (lv_sub hl [6, 7, 8, 9, 10, 11, 4, 3, 2, 1, 0] rfl) h
                          · refine lv_iconst (v := (1 : Int32)) F.1 F.2.1 (dd D_X9_bone 111 rfl) ki_1 ?_
                            refine lv_goto (tgt := 212) F.1 F.2.1 (dd D_X9_bone 112 rfl) rfl ?_
                            refine lv_iadd F.1 F.2.1 (dd D_X9_bone 114 rfl) ?_
                            refine lv_istore (lv' := [(9, .int (w9_L63 + (1 : Int32))), (8, .int (0 : Int32)), (7, .int (0 : Int32)), (6, .int (w6_L63 + (1 : Int32))), (11, .int (bI (F_X9_in ((m_rows r5.2 (Int32.toNatClampNeg p1)) (Int32.toNatClampNeg w10_L63)) (29 : Int64) (30 : Int64)))), (0, .ref (am 0)), (1, .int p1), (2, .int p2), (3, .int p3), (4, .int r5.1), (5, .ref (am (5+(Int32.toNatClampNeg p1)))), (10, .int w10_L63)]) F.1 F.2.1 (dd D_X9_bone 115 rfl) hl (Nat.le_of_ble_eq_true rfl) rfl (fun ls hl => ?_)
                            refine lv_iinc (v := (w10_L63 + (1 : Int32))) (lv' := [(10, .int (w10_L63 + (1 : Int32))), (9, .int (w9_L63 + (1 : Int32))), (8, .int (0 : Int32)), (7, .int (0 : Int32)), (6, .int (w6_L63 + (1 : Int32))), (11, .int (bI (F_X9_in ((m_rows r5.2 (Int32.toNatClampNeg p1)) (Int32.toNatClampNeg w10_L63)) (29 : Int64) (30 : Int64)))), (0, .ref (am 0)), (1, .int p1), (2, .int p2), (3, .int p3), (4, .int r5.1), (5, .ref (am (5+(Int32.toNatClampNeg p1))))]) F.1 F.2.1 (dd D_X9_bone 116 rfl) hl (k := 11) rfl (congrArg (fun z => w10_L63 + z) ki_1) (Nat.le_of_ble_eq_true rfl) rfl (fun ls hl => ?_)
                            refine lv_goto (tgt := 98) F.1 F.2.1 (dd D_X9_bone 117 rfl) rfl ?_
                            exact ih_L63 (w6_L63 + (1 : Int32)) (0 : Int32) (0 : Int32) (w9_L63 + (1 : Int32)) (w10_L63 + (1 : Int32)) _ _ ls hP hD hS (lv_sub hl [6, 7, 8, 9, 10, 11, 4, 3, 2, 1, 0] rfl) h
                    · refine lv_iload F.1 F.2.1 (dd D_X9_bone 75 rfl) (lv_at hl 8 rfl) ?_
                      refine lv_iconst (v := (1 : Int32)) F.1 F.2.1 (dd D_X9_bone 76 rfl) ki_1 ?_
                      refine lv_iadd F.1 F.2.1 (dd D_X9_bone 77 rfl) ?_
                      refine lv_goto (tgt := 148) F.1 F.2.1 (dd D_X9_bone 78 rfl) rfl ?_
                      refine lv_istore (lv' := [(7, .int (w7_L63 + (1 : Int32))), (6, .int (w6_L63 + (1 : Int32))), (11, .int (bI (F_X9_in ((m_rows r5.2 (Int32.toNatClampNeg p1)) (Int32.toNatClampNeg w10_L63)) (29 : Int64) (30 : Int64)))), (0, .ref (am 0)), (1, .int p1), (2, .int p2), (3, .int p3), (4, .int r5.1), (5, .ref (am (5+(Int32.toNatClampNeg p1)))), (8, .int w8_L63), (9, .int w9_L63), (10, .int w10_L63)]) F.1 F.2.1 (dd D_X9_bone 80 rfl) hl (Nat.le_of_ble_eq_true rfl) rfl (fun ls hl => ?_)
                      refine lv_iload F.1 F.2.1 (dd D_X9_bone 81 rfl) (lv_at hl 0 rfl) ?_
                      refine lv_iload F.1 F.2.1 (dd D_X9_bone 82 rfl) (lv_at hl 9 rfl) ?_
                      refine x_icmp_le (tgt := 162) F.1 F.2.1 (dd D_X9_bone 83 rfl) rfl h (fun c102 h => ?_) (fun c102 h => ?_)
                      · refine lv_iload F.1 F.2.1 (dd D_X9_bone 86 rfl) (lv_at hl 9 rfl) ?_
                        refine lv_istore (lv' := [(8, .int w8_L63), (7, .int (w7_L63 + (1 : Int32))), (6, .int (w6_L63 + (1 : Int32))), (11, .int (bI (F_X9_in ((m_rows r5.2 (Int32.toNatClampNeg p1)) (Int32.toNatClampNeg w10_L63)) (29 : Int64) (30 : Int64)))), (0, .ref (am 0)), (1, .int p1), (2, .int p2), (3, .int p3), (4, .int r5.1), (5, .ref (am (5+(Int32.toNatClampNeg p1)))), (9, .int w9_L63), (10, .int w10_L63)]) F.1 F.2.1 (dd D_X9_bone 87 rfl) hl (Nat.le_of_ble_eq_true rfl) rfl (fun ls hl => ?_)
                        refine lv_iload F.1 F.2.1 (dd D_X9_bone 88 rfl) (lv_at hl 10 rfl) ?_
                        refine lv_iload F.1 F.2.1 (dd D_X9_bone 89 rfl) (lv_at hl 11 rfl) ?_
                        refine lv_iconst (v := (2 : Int32)) F.1 F.2.1 (dd D_X9_bone 90 rfl) ki_2 ?_
                        refine x_icmp_lt (tgt := 211) F.1 F.2.1 (dd D_X9_bone 91 rfl) rfl h (fun c103 h => ?_) (fun c103 h => ?_)
                        · refine lv_iconst (v := (0 : Int32)) F.1 F.2.1 (dd D_X9_bone 113 rfl) ki_0 ?_
                          refine lv_iadd F.1 F.2.1 (dd D_X9_bone 114 rfl) ?_
                          refine lv_istore (lv' := [(9, .int (w9_L63 + (0 : Int32))), (8, .int w8_L63), (7, .int (w7_L63 + (1 : Int32))), (6, .int (w6_L63 + (1 : Int32))), (11, .int (bI (F_X9_in ((m_rows r5.2 (Int32.toNatClampNeg p1)) (Int32.toNatClampNeg w10_L63)) (29 : Int64) (30 : Int64)))), (0, .ref (am 0)), (1, .int p1), (2, .int p2), (3, .int p3), (4, .int r5.1), (5, .ref (am (5+(Int32.toNatClampNeg p1)))), (10, .int w10_L63)]) F.1 F.2.1 (dd D_X9_bone 115 rfl) hl (Nat.le_of_ble_eq_true rfl) rfl (fun ls hl => ?_)
                          refine lv_iinc (v := (w10_L63 + (1 : Int32))) (lv' := [(10, .int (w10_L63 + (1 : Int32))), (9, .int (w9_L63 + (0 : Int32))), (8, .int w8_L63), (7, .int (w7_L63 + (1 : Int32))), (6, .int (w6_L63 + (1 : Int32))), (11, .int (bI (F_X9_in ((m_rows r5.2 (Int32.toNatClampNeg p1)) (Int32.toNatClampNeg w10_L63)) (29 : Int64) (30 : Int64)))), (0, .ref (am 0)), (1, .int p1), (2, .int p2), (3, .int p3), (4, .int r5.1), (5, .ref (am (5+(Int32.toNatClampNeg p1))))]) F.1 F.2.1 (dd D_X9_bone 116 rfl) hl (k := 11) rfl (congrArg (fun z => w10_L63 + z) ki_1) (Nat.le_of_ble_eq_true rfl) rfl (fun ls hl => ?_)
                          refine lv_goto (tgt := 98) F.1 F.2.1 (dd D_X9_bone 117 rfl) rfl ?_
                          exact ih_L63 (w6_L63 + (1 : Int32)) (w7_L63 + (1 : Int32)) w8_L63 (w9_L63 + (0 : Int32)) (w10_L63 + (1 : Int32)) _ _ ls hP hD hS (lv_sub hl [6, 7, 8, 9, 10, 11, 4, 3, 2, 1, 0] rfl) h
                        · refine lv_aload F.1 F.2.1 (dd D_X9_bone 92 rfl) (lv_at hl 9 rfl) ?_
                          refine lv_iload F.1 F.2.1 (dd D_X9_bone 93 rfl) (lv_at hl 11 rfl) ?_
                          refine aldL F hK hP (5+(Int32.toNatClampNeg p1)) (mp_row cA am r5.2 (Int32.toNatClampNeg p1) hk11) h (dd D_X9_bone 94 rfl) (fun z104 h => ?_)
                          refine lv_aload F.1 F.2.1 (dd D_X9_bone 95 rfl) (lv_at hl 9 rfl) ?_
                          refine lv_iload F.1 F.2.1 (dd D_X9_bone 96 rfl) (lv_at hl 11 rfl) ?_
                          refine lv_iconst (v := (1 : Int32)) F.1 F.2.1 (dd D_X9_bone 97 rfl) ki_1 ?_
                          refine lv_isub F.1 F.2.1 (dd D_X9_bone 98 rfl) ?_
                          refine aldL F hK hP (5+(Int32.toNatClampNeg p1)) (mp_row cA am r5.2 (Int32.toNatClampNeg p1) hk11) h (dd D_X9_bone 99 rfl) (fun z105 h => ?_)
                          refine lv_ladd F.1 F.2.1 (dd D_X9_bone 100 rfl) ?_
                          refine lv_aload F.1 F.2.1 (dd D_X9_bone 101 rfl) (lv_at hl 9 rfl) ?_
                          refine lv_iload F.1 F.2.1 (dd D_X9_bone 102 rfl) (lv_at hl 11 rfl) ?_
                          refine lv_iconst (v := (2 : Int32)) F.1 F.2.1 (dd D_X9_bone 103 rfl) ki_2 ?_
                          refine lv_isub F.1 F.2.1 (dd D_X9_bone 104 rfl) ?_
                          refine aldL F hK hP (5+(Int32.toNatClampNeg p1)) (mp_row cA am r5.2 (Int32.toNatClampNeg p1) hk11) h (dd D_X9_bone 105 rfl) (fun z106 h => ?_)
                          refine lv_ladd F.1 F.2.1 (dd D_X9_bone 106 rfl) ?_
                          refine lv_ldc2 (own := RX9) (v := (88 : Int64)) F.1 F.2.1 F.2.2.2.1 (F.2.2.2.2 _ (kL_X9_314)) (dd D_X9_bone 107 rfl) ?_
                          refine lv_ldc2 (own := RX9) (v := (89 : Int64)) F.1 F.2.1 F.2.2.2.1 (F.2.2.2.2 _ (kL_X9_316)) (dd D_X9_bone 108 rfl) ?_
                          refine ro_go (st' := [.int (bI (F_X9_in ((((m_rows r5.2 (Int32.toNatClampNeg p1)) (Int32.toNatClampNeg w10_L63)) + ((m_rows r5.2 (Int32.toNatClampNeg p1)) (Int32.toNatClampNeg (w10_L63 - (1 : Int32))))) + ((m_rows r5.2 (Int32.toNatClampNeg p1)) (Int32.toNatClampNeg (w10_L63 - (2 : Int32))))) (88 : Int64) (89 : Int64))), .int w9_L63]) (rS (rest := [.int w9_L63]) F (c_X9_in D cA ((((m_rows r5.2 (Int32.toNatClampNeg p1)) (Int32.toNatClampNeg w10_L63)) + ((m_rows r5.2 (Int32.toNatClampNeg p1)) (Int32.toNatClampNeg (w10_L63 - (1 : Int32))))) + ((m_rows r5.2 (Int32.toNatClampNeg p1)) (Int32.toNatClampNeg (w10_L63 - (2 : Int32))))) (88 : Int64) (89 : Int64) l) lk_X9_63 (Nat.le_of_ble_eq_true rfl) (preRO hK hS hAb (emP)) rfl hl rfl (Nat.le_of_ble_eq_true rfl) (dd D_X9_bone 109 rfl) ⟨Nat.le_of_ble_eq_true rfl, Nat.le_of_ble_eq_true rfl⟩) rfl ?_
                          refine x_bif_eq (tgt := 211) F.1 F.2.1 (dd D_X9_bone 110 rfl) rfl h (fun c107 h => ?_) (fun c107 h => ?_)
                          · refine lv_iconst (v := (0 : Int32)) F.1 F.2.1 (dd D_X9_bone 113 rfl) ki_0 ?_
                            refine lv_iadd F.1 F.2.1 (dd D_X9_bone 114 rfl) ?_
                            refine lv_istore (lv' := [(9, .int (w9_L63 + (0 : Int32))), (8, .int w8_L63), (7, .int (w7_L63 + (1 : Int32))), (6, .int (w6_L63 + (1 : Int32))), (11, .int (bI (F_X9_in ((m_rows r5.2 (Int32.toNatClampNeg p1)) (Int32.toNatClampNeg w10_L63)) (29 : Int64) (30 : Int64)))), (0, .ref (am 0)), (1, .int p1), (2, .int p2), (3, .int p3), (4, .int r5.1), (5, .ref (am (5+(Int32.toNatClampNeg p1)))), (10, .int w10_L63)]) F.1 F.2.1 (dd D_X9_bone 115 rfl) hl (Nat.le_of_ble_eq_true rfl) rfl (fun ls hl => ?_)
                            refine lv_iinc (v := (w10_L63 + (1 : Int32))) (lv' := [(10, .int (w10_L63 + (1 : Int32))), (9, .int (w9_L63 + (0 : Int32))), (8, .int w8_L63), (7, .int (w7_L63 + (1 : Int32))), (6, .int (w6_L63 + (1 : Int32))), (11, .int (bI (F_X9_in ((m_rows r5.2 (Int32.toNatClampNeg p1)) (Int32.toNatClampNeg w10_L63)) (29 : Int64) (30 : Int64)))), (0, .ref (am 0)), (1, .int p1), (2, .int p2), (3, .int p3), (4, .int r5.1), (5, .ref (am (5+(Int32.toNatClampNeg p1))))]) F.1 F.2.1 (dd D_X9_bone 116 rfl) hl (k := 11) rfl (congrArg (fun z => w10_L63 + z) ki_1) (Nat.le_of_ble_eq_true rfl) rfl (fun ls hl => ?_)
                            refine lv_goto (tgt := 98) F.1 F.2.1 (dd D_X9_bone 117 rfl) rfl ?_
                            exact ih_L63 (w6_L63 + (1 : Int32)) (w7_L63 + (1 : Int32)) w8_L63 (w9_L63 + (0 : Int32)) (w10_L63 + (1 : Int32)) _ _ ls hP hD hS (lv_sub hl [6, 7, 8, 9, 10, 11, 4, 3, 2, 1, 0] rfl) h
                          · refine lv_iconst (v := (1 : Int32)) F.1 F.2.1 (dd D_X9_bone 111 rfl) ki_1 ?_
                            refine lv_goto (tgt := 212) F.1 F.2.1 (dd D_X9_bone 112 rfl) rfl ?_
                            refine lv_iadd F.1 F.2.1 (dd D_X9_bone 114 rfl) ?_
                            refine lv_istore (lv' := [(9, .int (w9_L63 + (1 : Int32))), (8, .int w8_L63), (7, .int (w7_L63 + (1 : Int32))), (6, .int (w6_L63 + (1 : Int32))), (11, .int (bI (F_X9_in ((m_rows r5.2 (Int32.toNatClampNeg p1)) (Int32.toNatClampNeg w10_L63)) (29 : Int64) (30 : Int64)))), (0, .ref (am 0)), (1, .int p1), (2, .int p2), (3, .int p3), (4, .int r5.1), (5, .ref (am (5+(Int32.toNatClampNeg p1)))), (10, .int w10_L63)]) F.1 F.2.1 (dd D_X9_bone 115 rfl) hl (Nat.le_of_ble_eq_true rfl) rfl (fun ls hl => ?_)
                            refine lv_iinc (v := (w10_L63 + (1 : Int32))) (lv' := [(10, .int (w10_L63 + (1 : Int32))), (9, .int (w9_L63 + (1 : Int32))), (8, .int w8_L63), (7, .int (w7_L63 + (1 : Int32))), (6, .int (w6_L63 + (1 : Int32))), (11, .int (bI (F_X9_in ((m_rows r5.2 (Int32.toNatClampNeg p1)) (Int32.toNatClampNeg w10_L63)) (29 : Int64) (30 : Int64)))), (0, .ref (am 0)), (1, .int p1), (2, .int p2), (3, .int p3), (4, .int r5.1), (5, .ref (am (5+(Int32.toNatClampNeg p1))))]) F.1 F.2.1 (dd D_X9_bone 116 rfl) hl (k := 11) rfl (congrArg (fun z => w10_L63 + z) ki_1) (Nat.le_of_ble_eq_true rfl) rfl (fun ls hl => ?_)
                            refine lv_goto (tgt := 98) F.1 F.2.1 (dd D_X9_bone 117 rfl) rfl ?_
                            exact ih_L63 (w6_L63 + (1 : Int32)) (w7_L63 + (1 : Int32)) w8_L63 (w9_L63 + (1 : Int32)) (w10_L63 + (1 : Int32)) _ _ ls hP hD hS (lv_sub hl [6, 7, 8, 9, 10, 11, 4, 3, 2, 1, 0] rfl) h
                      · refine lv_iload F.1 F.2.1 (dd D_X9_bone 84 rfl) (lv_at hl 0 rfl) ?_
                        refine lv_goto (tgt := 164) F.1 F.2.1 (dd D_X9_bone 85 rfl) rfl ?_
                        refine lv_istore (lv' := [(8, .int (w7_L63 + (1 : Int32))), (7, .int (w7_L63 + (1 : Int32))), (6, .int (w6_L63 + (1 : Int32))), (11, .int (bI (F_X9_in ((m_rows r5.2 (Int32.toNatClampNeg p1)) (Int32.toNatClampNeg w10_L63)) (29 : Int64) (30 : Int64)))), (0, .ref (am 0)), (1, .int p1), (2, .int p2), (3, .int p3), (4, .int r5.1), (5, .ref (am (5+(Int32.toNatClampNeg p1)))), (9, .int w9_L63), (10, .int w10_L63)]) F.1 F.2.1 (dd D_X9_bone 87 rfl) hl (Nat.le_of_ble_eq_true rfl) rfl (fun ls hl => ?_)
                        refine lv_iload F.1 F.2.1 (dd D_X9_bone 88 rfl) (lv_at hl 10 rfl) ?_
                        refine lv_iload F.1 F.2.1 (dd D_X9_bone 89 rfl) (lv_at hl 11 rfl) ?_
                        refine lv_iconst (v := (2 : Int32)) F.1 F.2.1 (dd D_X9_bone 90 rfl) ki_2 ?_
                        refine x_icmp_lt (tgt := 211) F.1 F.2.1 (dd D_X9_bone 91 rfl) rfl h (fun c108 h => ?_) (fun c108 h => ?_)
                        · refine lv_iconst (v := (0 : Int32)) F.1 F.2.1 (dd D_X9_bone 113 rfl) ki_0 ?_
                          refine lv_iadd F.1 F.2.1 (dd D_X9_bone 114 rfl) ?_
                          refine lv_istore (lv' := [(9, .int (w9_L63 + (0 : Int32))), (8, .int (w7_L63 + (1 : Int32))), (7, .int (w7_L63 + (1 : Int32))), (6, .int (w6_L63 + (1 : Int32))), (11, .int (bI (F_X9_in ((m_rows r5.2 (Int32.toNatClampNeg p1)) (Int32.toNatClampNeg w10_L63)) (29 : Int64) (30 : Int64)))), (0, .ref (am 0)), (1, .int p1), (2, .int p2), (3, .int p3), (4, .int r5.1), (5, .ref (am (5+(Int32.toNatClampNeg p1)))), (10, .int w10_L63)]) F.1 F.2.1 (dd D_X9_bone 115 rfl) hl (Nat.le_of_ble_eq_true rfl) rfl (fun ls hl => ?_)
                          refine lv_iinc (v := (w10_L63 + (1 : Int32))) (lv' := [(10, .int (w10_L63 + (1 : Int32))), (9, .int (w9_L63 + (0 : Int32))), (8, .int (w7_L63 + (1 : Int32))), (7, .int (w7_L63 + (1 : Int32))), (6, .int (w6_L63 + (1 : Int32))), (11, .int (bI (F_X9_in ((m_rows r5.2 (Int32.toNatClampNeg p1)) (Int32.toNatClampNeg w10_L63)) (29 : Int64) (30 : Int64)))), (0, .ref (am 0)), (1, .int p1), (2, .int p2), (3, .int p3), (4, .int r5.1), (5, .ref (am (5+(Int32.toNatClampNeg p1))))]) F.1 F.2.1 (dd D_X9_bone 116 rfl) hl (k := 11) rfl (congrArg (fun z => w10_L63 + z) ki_1) (Nat.le_of_ble_eq_true rfl) rfl (fun ls hl => ?_)
                          refine lv_goto (tgt := 98) F.1 F.2.1 (dd D_X9_bone 117 rfl) rfl ?_
                          exact ih_L63 (w6_L63 + (1 : Int32)) (w7_L63 + (1 : Int32)) (w7_L63 + (1 : Int32)) (w9_L63 + (0 : Int32)) (w10_L63 + (1 : Int32)) _ _ ls hP hD hS (lv_sub hl [6, 7, 8, 9, 10, 11, 4, 3, 2, 1, 0] rfl) h
                        · refine lv_aload F.1 F.2.1 (dd D_X9_bone 92 rfl) (lv_at hl 9 rfl) ?_
                          refine lv_iload F.1 F.2.1 (dd D_X9_bone 93 rfl) (lv_at hl 11 rfl) ?_
                          refine aldL F hK hP (5+(Int32.toNatClampNeg p1)) (mp_row cA am r5.2 (Int32.toNatClampNeg p1) hk11) h (dd D_X9_bone 94 rfl) (fun z109 h => ?_)
                          refine lv_aload F.1 F.2.1 (dd D_X9_bone 95 rfl) (lv_at hl 9 rfl) ?_
                          refine lv_iload F.1 F.2.1 (dd D_X9_bone 96 rfl) (lv_at hl 11 rfl) ?_
                          refine lv_iconst (v := (1 : Int32)) F.1 F.2.1 (dd D_X9_bone 97 rfl) ki_1 ?_
                          refine lv_isub F.1 F.2.1 (dd D_X9_bone 98 rfl) ?_
                          refine aldL F hK hP (5+(Int32.toNatClampNeg p1)) (mp_row cA am r5.2 (Int32.toNatClampNeg p1) hk11) h (dd D_X9_bone 99 rfl) (fun z110 h => ?_)
                          refine lv_ladd F.1 F.2.1 (dd D_X9_bone 100 rfl) ?_
                          refine lv_aload F.1 F.2.1 (dd D_X9_bone 101 rfl) (lv_at hl 9 rfl) ?_
                          refine lv_iload F.1 F.2.1 (dd D_X9_bone 102 rfl) (lv_at hl 11 rfl) ?_
                          refine lv_iconst (v := (2 : Int32)) F.1 F.2.1 (dd D_X9_bone 103 rfl) ki_2 ?_
                          refine lv_isub F.1 F.2.1 (dd D_X9_bone 104 rfl) ?_
                          refine aldL F hK hP (5+(Int32.toNatClampNeg p1)) (mp_row cA am r5.2 (Int32.toNatClampNeg p1) hk11) h (dd D_X9_bone 105 rfl) (fun z111 h => ?_)
                          refine lv_ladd F.1 F.2.1 (dd D_X9_bone 106 rfl) ?_
                          refine lv_ldc2 (own := RX9) (v := (88 : Int64)) F.1 F.2.1 F.2.2.2.1 (F.2.2.2.2 _ (kL_X9_314)) (dd D_X9_bone 107 rfl) ?_
                          refine lv_ldc2 (own := RX9) (v := (89 : Int64)) F.1 F.2.1 F.2.2.2.1 (F.2.2.2.2 _ (kL_X9_316)) (dd D_X9_bone 108 rfl) ?_
                          refine ro_go (st' := [.int (bI (F_X9_in ((((m_rows r5.2 (Int32.toNatClampNeg p1)) (Int32.toNatClampNeg w10_L63)) + ((m_rows r5.2 (Int32.toNatClampNeg p1)) (Int32.toNatClampNeg (w10_L63 - (1 : Int32))))) + ((m_rows r5.2 (Int32.toNatClampNeg p1)) (Int32.toNatClampNeg (w10_L63 - (2 : Int32))))) (88 : Int64) (89 : Int64))), .int w9_L63]) (rS (rest := [.int w9_L63]) F (c_X9_in D cA ((((m_rows r5.2 (Int32.toNatClampNeg p1)) (Int32.toNatClampNeg w10_L63)) + ((m_rows r5.2 (Int32.toNatClampNeg p1)) (Int32.toNatClampNeg (w10_L63 - (1 : Int32))))) + ((m_rows r5.2 (Int32.toNatClampNeg p1)) (Int32.toNatClampNeg (w10_L63 - (2 : Int32))))) (88 : Int64) (89 : Int64) l) lk_X9_63 (Nat.le_of_ble_eq_true rfl) (preRO hK hS hAb (emP)) rfl hl rfl (Nat.le_of_ble_eq_true rfl) (dd D_X9_bone 109 rfl) ⟨Nat.le_of_ble_eq_true rfl, Nat.le_of_ble_eq_true rfl⟩) rfl ?_
                          refine x_bif_eq (tgt := 211) F.1 F.2.1 (dd D_X9_bone 110 rfl) rfl h (fun c112 h => ?_) (fun c112 h => ?_)
                          · refine lv_iconst (v := (0 : Int32)) F.1 F.2.1 (dd D_X9_bone 113 rfl) ki_0 ?_
                            refine lv_iadd F.1 F.2.1 (dd D_X9_bone 114 rfl) ?_
                            refine lv_istore (lv' := [(9, .int (w9_L63 + (0 : Int32))), (8, .int (w7_L63 + (1 : Int32))), (7, .int (w7_L63 + (1 : Int32))), (6, .int (w6_L63 + (1 : Int32))), (11, .int (bI (F_X9_in ((m_rows r5.2 (Int32.toNatClampNeg p1)) (Int32.toNatClampNeg w10_L63)) (29 : Int64) (30 : Int64)))), (0, .ref (am 0)), (1, .int p1), (2, .int p2), (3, .int p3), (4, .int r5.1), (5, .ref (am (5+(Int32.toNatClampNeg p1)))), (10, .int w10_L63)]) F.1 F.2.1 (dd D_X9_bone 115 rfl) hl (Nat.le_of_ble_eq_true rfl) rfl (fun ls hl => ?_)
                            refine lv_iinc (v := (w10_L63 + (1 : Int32))) (lv' := [(10, .int (w10_L63 + (1 : Int32))), (9, .int (w9_L63 + (0 : Int32))), (8, .int (w7_L63 + (1 : Int32))), (7, .int (w7_L63 + (1 : Int32))), (6, .int (w6_L63 + (1 : Int32))), (11, .int (bI (F_X9_in ((m_rows r5.2 (Int32.toNatClampNeg p1)) (Int32.toNatClampNeg w10_L63)) (29 : Int64) (30 : Int64)))), (0, .ref (am 0)), (1, .int p1), (2, .int p2), (3, .int p3), (4, .int r5.1), (5, .ref (am (5+(Int32.toNatClampNeg p1))))]) F.1 F.2.1 (dd D_X9_bone 116 rfl) hl (k := 11) rfl (congrArg (fun z => w10_L63 + z) ki_1) (Nat.le_of_ble_eq_true rfl) rfl (fun ls hl => ?_)
                            refine lv_goto (tgt := 98) F.1 F.2.1 (dd D_X9_bone 117 rfl) rfl ?_
                            exact ih_L63 (w6_L63 + (1 : Int32)) (w7_L63 + (1 : Int32)) (w7_L63 + (1 : Int32)) (w9_L63 + (0 : Int32)) (w10_L63 + (1 : Int32)) _ _ ls hP hD hS (lv_sub hl [6, 7, 8, 9, 10, 11, 4, 3, 2, 1, 0] rfl) h
                          · refine lv_iconst (v := (1 : Int32)) F.1 F.2.1 (dd D_X9_bone 111 rfl) ki_1 ?_
                            refine lv_goto (tgt := 212) F.1 F.2.1 (dd D_X9_bone 112 rfl) rfl ?_
                            refine lv_iadd F.1 F.2.1 (dd D_X9_bone 114 rfl) ?_
                            refine lv_istore (lv' := [(9, .int (w9_L63 + (1 : Int32))), (8, .int (w7_L63 + (1 : Int32))), (7, .int (w7_L63 + (1 : Int32))), (6, .int (w6_L63 + (1 : Int32))), (11, .int (bI (F_X9_in ((m_rows r5.2 (Int32.toNatClampNeg p1)) (Int32.toNatClampNeg w10_L63)) (29 : Int64) (30 : Int64)))), (0, .ref (am 0)), (1, .int p1), (2, .int p2), (3, .int p3), (4, .int r5.1), (5, .ref (am (5+(Int32.toNatClampNeg p1)))), (10, .int w10_L63)]) F.1 F.2.1 (dd D_X9_bone 115 rfl) hl (Nat.le_of_ble_eq_true rfl) rfl (fun ls hl => ?_)
                            refine lv_iinc (v := (w10_L63 + (1 : Int32))) (lv' := [(10, .int (w10_L63 + (1 : Int32))), (9, .int (w9_L63 + (1 : Int32))), (8, .int (w7_L63 + (1 : Int32))), (7, .int (w7_L63 + (1 : Int32))), (6, .int (w6_L63 + (1 : Int32))), (11, .int (bI (F_X9_in ((m_rows r5.2 (Int32.toNatClampNeg p1)) (Int32.toNatClampNeg w10_L63)) (29 : Int64) (30 : Int64)))), (0, .ref (am 0)), (1, .int p1), (2, .int p2), (3, .int p3), (4, .int r5.1), (5, .ref (am (5+(Int32.toNatClampNeg p1))))]) F.1 F.2.1 (dd D_X9_bone 116 rfl) hl (k := 11) rfl (congrArg (fun z => w10_L63 + z) ki_1) (Nat.le_of_ble_eq_true rfl) rfl (fun ls hl => ?_)
                            refine lv_goto (tgt := 98) F.1 F.2.1 (dd D_X9_bone 117 rfl) rfl ?_
                            exact ih_L63 (w6_L63 + (1 : Int32)) (w7_L63 + (1 : Int32)) (w7_L63 + (1 : Int32)) (w9_L63 + (1 : Int32)) (w10_L63 + (1 : Int32)) _ _ ls hP hD hS (lv_sub hl [6, 7, 8, 9, 10, 11, 4, 3, 2, 1, 0] rfl) h
            exact L63 n (0 : Int32) (0 : Int32) (0 : Int32) (0 : Int32) (0 : Int32) _ _ ls hP hD hS (lv_sub hl [7, 8, 9, 10, 6, 5, 4, 3, 2, 1, 0] rfl) h
          · refine lv_aload_n F.1 F.2.1 (dd D_X9_bone 36 rfl) rfl (lv_at hl 1 rfl) ?_
            refine lv_bipush (v := (-2 : Int32)) F.1 F.2.1 (dd D_X9_bone 37 rfl) kb_m2 ?_
            obtain ⟨r115, e116, h⟩ := Option.bind_eq_some_iff.mp h
            refine rwe_all (st' := [.int r115.1]) hD hS hA (rV (rest := []) F (c_X9_refuse D cA am r5.2 n (-2 : Int32) r115 e116 l H.size) lk_X9_79 (Nat.le_of_ble_eq_true rfl) (preRW hK hS hAb hP hD) (rcv_9 hK hP (q0 := (0)) (mp_0 cA am r5.2)) rfl hl rfl (Nat.le_of_ble_eq_true rfl) (dd D_X9_bone 38 rfl) ⟨Nat.le_of_ble_eq_true rfl, Nat.le_of_ble_eq_true rfl⟩) rfl (fun H locs hP hD hS => ?_)
            obtain rfl := Option.some.inj h
            exact rw_i (R := rmOf 2 0 0) F hP hD hS hr hlk ⟨Nat.le_of_ble_eq_true rfl, Nat.le_of_ble_eq_true rfl⟩ ⟨rfl, rfl⟩ (dd D_X9_bone 39 rfl)
        · refine lv_iload F.1 F.2.1 (dd D_X9_bone 28 rfl) (lv_at hl 0 rfl) ?_
          obtain rfl := Option.some.inj h
          exact rw_i (R := rmOf 2 0 0) F hP hD hS hr hlk ⟨Nat.le_of_ble_eq_true rfl, Nat.le_of_ble_eq_true rfl⟩ ⟨rfl, rfl⟩ (dd D_X9_bone 29 rfl)
      · refine lv_aload_n F.1 F.2.1 (dd D_X9_bone 18 rfl) rfl (lv_at hl 0 rfl) ?_
        refine lv_bipush (v := (-2 : Int32)) F.1 F.2.1 (dd D_X9_bone 19 rfl) kb_m2 ?_
        obtain ⟨r117, e118, h⟩ := Option.bind_eq_some_iff.mp h
        refine rwe_all (st' := [.int r117.1]) hD hS hA (rV (rest := []) F (c_X9_refuse D cA am s n (-2 : Int32) r117 e118 l H.size) lk_X9_79 (Nat.le_of_ble_eq_true rfl) (preRW hK hS hAb hP hD) (rcv_9 hK hP (q0 := (0)) (mp_0 cA am s)) rfl hl rfl (Nat.le_of_ble_eq_true rfl) (dd D_X9_bone 20 rfl) ⟨Nat.le_of_ble_eq_true rfl, Nat.le_of_ble_eq_true rfl⟩) rfl (fun H locs hP hD hS => ?_)
        obtain rfl := Option.some.inj h
        exact rw_i (R := rmOf 2 0 0) F hP hD hS hr hlk ⟨Nat.le_of_ble_eq_true rfl, Nat.le_of_ble_eq_true rfl⟩ ⟨rfl, rfl⟩ (dd D_X9_bone 21 rfl)
