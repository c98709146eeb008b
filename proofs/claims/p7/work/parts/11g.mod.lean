def F_X9_next_L29 (n : Nat) (u0 : MS) (v1 : Int32) (v2 : Int32) : Nat → Int32 → Option (Int32 × MS)
  | 0, _ => none
  | kf + 1, w3 => (if (F_X9_lastOf v1 (1000 : Int32)) < w3 then some ((-1 : Int32), u0) else (((F_X9_isOf n u0 w3 v2)).bind fun r4 => bf r4 (some (w3, u0)) (F_X9_next_L29 n u0 v1 v2 kf (w3 + (1 : Int32)))))
def F_X9_next (n : Nat) (s : MS) (p1 : Int32) (p2 : Int32) : Option (Int32 × MS) := bf (F_X9_isDay (Int32.toInt64 p1)) (bf (F_X9_in (Int32.toInt64 p2) (0 : Int64) (5 : Int64)) (F_X9_next_L29 n s p1 p2 n p1) ((((F_X9_refuse n s (-2 : Int32))).bind fun r12 => some (r12.1, r12.2)))) ((((F_X9_refuse n s (-2 : Int32))).bind fun r1 => some (r1.1, r1.2)))
set_option maxHeartbeats 4000000 in
set_option maxRecDepth 100000 in
theorem c_X9_next (D : va_G) (cA : Nat → ClassId) (am : Nat → Nat) (s : MS) (n : Nat) (p1 : Int32) (p2 : Int32) (r : (Int32 × MS)) (h : F_X9_next n s p1 p2 = some r) : RW m_X9_next 7 0 0 D cA [.ref (am 0), .int p1, .int p2] (mW cA am s) (exq (some (.int r.1)) (mW cA am r.2)) := by
  refine RW.ofW gy_X9_next.2.2 (Nat.le_of_ble_eq_true rfl) ?_
  intro l p e sM m below meth c A H locs F hr hlk hnm hK hP hD hS hA hAb ls hl
  have hl : lv_has ls 4 [(0, .ref (am 0)), (1, .int p1), (2, .int p2)] := hl
  unfold F_X9_next at h
  refine lv_iload_n F.1 F.2.1 (dd D_X9_next 0 rfl) rfl (lv_at hl 1 rfl) ?_
  refine lv_i2l (v := (Int32.toInt64 p1)) F.1 F.2.1 (dd D_X9_next 1 rfl) rfl ?_
  refine ro_go (st' := [.int (bI (F_X9_isDay (Int32.toInt64 p1)))]) (rS (rest := []) F (c_X9_isDay D cA (Int32.toInt64 p1) l) lk_X9_67 (Nat.le_of_ble_eq_true rfl) (preRO hK hS hAb (emP)) rfl hl rfl (Nat.le_of_ble_eq_true rfl) (dd D_X9_next 2 rfl) ⟨Nat.le_of_ble_eq_true rfl, Nat.le_of_ble_eq_true rfl⟩) rfl ?_
  refine x_bif_eq (tgt := 20) F.1 F.2.1 (dd D_X9_next 3 rfl) rfl h (fun c15 h => ?_) (fun c15 h => ?_)
  · refine lv_aload_n F.1 F.2.1 (dd D_X9_next 10 rfl) rfl (lv_at hl 0 rfl) ?_
    refine lv_bipush (v := (-2 : Int32)) F.1 F.2.1 (dd D_X9_next 11 rfl) kb_m2 ?_
    obtain ⟨r1, e2, h⟩ := Option.bind_eq_some_iff.mp h
    refine rwe_all (st' := [.int r1.1]) hD hS hA (rV (rest := []) F (c_X9_refuse D cA am s n (-2 : Int32) r1 e2 l H.size) lk_X9_79 (Nat.le_of_ble_eq_true rfl) (preRW hK hS hAb hP hD) (rcv_9 hK hP (q0 := (0)) (mp_0 cA am s)) rfl hl rfl (Nat.le_of_ble_eq_true rfl) (dd D_X9_next 12 rfl) ⟨Nat.le_of_ble_eq_true rfl, Nat.le_of_ble_eq_true rfl⟩) rfl (fun H locs hP hD hS => ?_)
    obtain rfl := Option.some.inj h
    exact rw_i (R := rmOf 7 0 0) F hP hD hS hr hlk ⟨Nat.le_of_ble_eq_true rfl, Nat.le_of_ble_eq_true rfl⟩ ⟨rfl, rfl⟩ (dd D_X9_next 13 rfl)
  · refine lv_iload_n F.1 F.2.1 (dd D_X9_next 4 rfl) rfl (lv_at hl 2 rfl) ?_
    refine lv_i2l (v := (Int32.toInt64 p2)) F.1 F.2.1 (dd D_X9_next 5 rfl) rfl ?_
    refine lv_lconst (v := (0 : Int64)) F.1 F.2.1 (dd D_X9_next 6 rfl) kl_0 ?_
    refine lv_ldc2 (own := RX9) (v := (5 : Int64)) F.1 F.2.1 F.2.2.2.1 (F.2.2.2.2 _ (kL_X9_90)) (dd D_X9_next 7 rfl) ?_
    refine ro_go (st' := [.int (bI (F_X9_in (Int32.toInt64 p2) (0 : Int64) (5 : Int64)))]) (rS (rest := []) F (c_X9_in D cA (Int32.toInt64 p2) (0 : Int64) (5 : Int64) l) lk_X9_63 (Nat.le_of_ble_eq_true rfl) (preRO hK hS hAb (emP)) rfl hl rfl (Nat.le_of_ble_eq_true rfl) (dd D_X9_next 8 rfl) ⟨Nat.le_of_ble_eq_true rfl, Nat.le_of_ble_eq_true rfl⟩) rfl ?_
    refine x_bif_ne (tgt := 27) F.1 F.2.1 (dd D_X9_next 9 rfl) rfl h (fun c14 h => ?_) (fun c14 h => ?_)
    · refine lv_iload_n F.1 F.2.1 (dd D_X9_next 14 rfl) rfl (lv_at hl 1 rfl) ?_
      refine lv_istore_n (lv' := [(3, .int p1), (0, .ref (am 0)), (1, .int p1), (2, .int p2)]) F.1 F.2.1 (dd D_X9_next 15 rfl) rfl hl (Nat.le_of_ble_eq_true rfl) rfl (fun ls hl => ?_)
      have L7 : ∀ (kf : Nat) (w3_L7 : Int32) (H : Heap) (locs : List Loc) (ls : Array Slot), va_P D vwCl (mW cA am s) H → va_D A (mW cA am s) → va_S A sM.heap H locs → lv_has ls 4 [(0, .ref (am 0)), (1, .int p1), (2, .int p2), (3, .int w3_L7)] → F_X9_next_L29 n s p1 p2 kf w3_L7 = some r → Wrw 7 0 0 D A (exq (some (.int r.1)) (mW cA am r.2)) p l e sM m ([.ref (am 0), .int p1, .int p2] : List Value).toArray below meth c H locs 0 0 29 ls [] := by
        intro kf
        induction kf with
        | zero =>
          intro w3_L7 H locs ls hP hD hS hl h
          cases (show none = some r from h)
        | succ k_L7 ih_L7 =>
          intro w3_L7 H locs ls hP hD hS hl h
          unfold F_X9_next_L29 at h
          refine lv_iload_n F.1 F.2.1 (dd D_X9_next 16 rfl) rfl (lv_at hl 3 rfl) ?_
          refine lv_iload_n F.1 F.2.1 (dd D_X9_next 17 rfl) rfl (lv_at hl 1 rfl) ?_
          refine lv_sipush (v := (1000 : Int32)) F.1 F.2.1 (dd D_X9_next 18 rfl) ks_1000 ?_
          refine ro_go (st' := [.int (F_X9_lastOf p1 (1000 : Int32)), .int w3_L7]) (rS (rest := [.int w3_L7]) F (c_X9_lastOf D cA p1 (1000 : Int32) l) lk_X9_273 (Nat.le_of_ble_eq_true rfl) (preRO hK hS hAb (emP)) rfl hl rfl (Nat.le_of_ble_eq_true rfl) (dd D_X9_next 19 rfl) ⟨Nat.le_of_ble_eq_true rfl, Nat.le_of_ble_eq_true rfl⟩) rfl ?_
          refine x_icmp_gt (tgt := 57) F.1 F.2.1 (dd D_X9_next 20 rfl) rfl h (fun c8 h => ?_) (fun c8 h => ?_)
          · refine lv_iconst (v := (-1 : Int32)) F.1 F.2.1 (dd D_X9_next 30 rfl) ki_m1 ?_
            obtain rfl := Option.some.inj h
            exact rw_i (R := rmOf 7 0 0) F hP hD hS hr hlk ⟨Nat.le_of_ble_eq_true rfl, Nat.le_of_ble_eq_true rfl⟩ ⟨rfl, rfl⟩ (dd D_X9_next 31 rfl)
          · refine lv_aload_n F.1 F.2.1 (dd D_X9_next 21 rfl) rfl (lv_at hl 0 rfl) ?_
            refine lv_iload_n F.1 F.2.1 (dd D_X9_next 22 rfl) rfl (lv_at hl 3 rfl) ?_
            refine lv_iload_n F.1 F.2.1 (dd D_X9_next 23 rfl) rfl (lv_at hl 2 rfl) ?_
            obtain ⟨r9, e10, h⟩ := Option.bind_eq_some_iff.mp h
            refine ro_go (st' := [.int (bI r9)]) (rV (rest := []) F (c_X9_isOf D cA am s n w3_L7 p2 r9 e10 l) lk_X9_109 (Nat.le_of_ble_eq_true rfl) (preRO hK hS hAb hP) (rcv_9 hK hP (q0 := (0)) (mp_0 cA am s)) rfl hl rfl (Nat.le_of_ble_eq_true rfl) (dd D_X9_next 24 rfl) ⟨Nat.le_of_ble_eq_true rfl, Nat.le_of_ble_eq_true rfl⟩) rfl ?_
            refine x_bif_eq (tgt := 51) F.1 F.2.1 (dd D_X9_next 25 rfl) rfl h (fun c11 h => ?_) (fun c11 h => ?_)
            · refine lv_iinc (v := (w3_L7 + (1 : Int32))) (lv' := [(3, .int (w3_L7 + (1 : Int32))), (0, .ref (am 0)), (1, .int p1), (2, .int p2)]) F.1 F.2.1 (dd D_X9_next 28 rfl) hl (k := 3) rfl (congrArg (fun z => w3_L7 + z) ki_1) (Nat.le_of_ble_eq_true rfl) rfl (fun ls hl => ?_)
              refine lv_goto (tgt := 29) F.1 F.2.1 (dd D_X9_next 29 rfl) rfl ?_
              exact ih_L7 (w3_L7 + (1 : Int32)) _ _ ls hP hD hS (lv_sub hl [1, 2, 3, 0] rfl) h
            · refine lv_iload_n F.1 F.2.1 (dd D_X9_next 26 rfl) rfl (lv_at hl 3 rfl) ?_
              obtain rfl := Option.some.inj h
              exact rw_i (R := rmOf 7 0 0) F hP hD hS hr hlk ⟨Nat.le_of_ble_eq_true rfl, Nat.le_of_ble_eq_true rfl⟩ ⟨rfl, rfl⟩ (dd D_X9_next 27 rfl)
      exact L7 n p1 _ _ ls hP hD hS (lv_sub hl [1, 2, 3, 0] rfl) h
    · refine lv_aload_n F.1 F.2.1 (dd D_X9_next 10 rfl) rfl (lv_at hl 0 rfl) ?_
      refine lv_bipush (v := (-2 : Int32)) F.1 F.2.1 (dd D_X9_next 11 rfl) kb_m2 ?_
      obtain ⟨r12, e13, h⟩ := Option.bind_eq_some_iff.mp h
      refine rwe_all (st' := [.int r12.1]) hD hS hA (rV (rest := []) F (c_X9_refuse D cA am s n (-2 : Int32) r12 e13 l H.size) lk_X9_79 (Nat.le_of_ble_eq_true rfl) (preRW hK hS hAb hP hD) (rcv_9 hK hP (q0 := (0)) (mp_0 cA am s)) rfl hl rfl (Nat.le_of_ble_eq_true rfl) (dd D_X9_next 12 rfl) ⟨Nat.le_of_ble_eq_true rfl, Nat.le_of_ble_eq_true rfl⟩) rfl (fun H locs hP hD hS => ?_)
      obtain rfl := Option.some.inj h
      exact rw_i (R := rmOf 7 0 0) F hP hD hS hr hlk ⟨Nat.le_of_ble_eq_true rfl, Nat.le_of_ble_eq_true rfl⟩ ⟨rfl, rfl⟩ (dd D_X9_next 13 rfl)
def F_X9_many_L33 (n : Nat) (u0 : MS) (v1 : Int32) (v2 : Int32) (v3 : Int32) : Nat → Int32 → Int32 → Option (Int32 × MS)
  | 0, _, _ => none
  | kf + 1, w4, w5 => (if (F_X9_lastOf v1 v2) < w5 then some (w4, u0) else (((F_X9_isOf n u0 w5 v3)).bind fun r4 => bf r4 (F_X9_many_L33 n u0 v1 v2 v3 kf (w4 + (1 : Int32)) (w5 + (1 : Int32))) (F_X9_many_L33 n u0 v1 v2 v3 kf (w4 + (0 : Int32)) (w5 + (1 : Int32)))))
def F_X9_many (n : Nat) (s : MS) (p1 : Int32) (p2 : Int32) (p3 : Int32) : Option (Int32 × MS) := bf (F_X9_areDays p1 p2) (bf (F_X9_in (Int32.toInt64 p3) (0 : Int64) (5 : Int64)) (F_X9_many_L33 n s p1 p2 p3 n (0 : Int32) p1) ((((F_X9_refuse n s (-2 : Int32))).bind fun r12 => some (r12.1, r12.2)))) ((((F_X9_refuse n s (-2 : Int32))).bind fun r1 => some (r1.1, r1.2)))
set_option maxHeartbeats 4000000 in
set_option maxRecDepth 100000 in
theorem c_X9_many (D : va_G) (cA : Nat → ClassId) (am : Nat → Nat) (s : MS) (n : Nat) (p1 : Int32) (p2 : Int32) (p3 : Int32) (r : (Int32 × MS)) (h : F_X9_many n s p1 p2 p3 = some r) : RW m_X9_many 7 0 0 D cA [.ref (am 0), .int p1, .int p2, .int p3] (mW cA am s) (exq (some (.int r.1)) (mW cA am r.2)) := by
  refine RW.ofW gy_X9_many.2.2 (Nat.le_of_ble_eq_true rfl) ?_
  intro l p e sM m below meth c A H locs F hr hlk hnm hK hP hD hS hA hAb ls hl
  have hl : lv_has ls 6 [(0, .ref (am 0)), (1, .int p1), (2, .int p2), (3, .int p3)] := hl
  unfold F_X9_many at h
  refine lv_iload_n F.1 F.2.1 (dd D_X9_many 0 rfl) rfl (lv_at hl 1 rfl) ?_
  refine lv_iload_n F.1 F.2.1 (dd D_X9_many 1 rfl) rfl (lv_at hl 2 rfl) ?_
  refine ro_go (st' := [.int (bI (F_X9_areDays p1 p2))]) (rS (rest := []) F (c_X9_areDays D cA p1 p2 l) lk_X9_276 (Nat.le_of_ble_eq_true rfl) (preRO hK hS hAb (emP)) rfl hl rfl (Nat.le_of_ble_eq_true rfl) (dd D_X9_many 2 rfl) ⟨Nat.le_of_ble_eq_true rfl, Nat.le_of_ble_eq_true rfl⟩) rfl ?_
  refine x_bif_eq (tgt := 20) F.1 F.2.1 (dd D_X9_many 3 rfl) rfl h (fun c15 h => ?_) (fun c15 h => ?_)
  · refine lv_aload_n F.1 F.2.1 (dd D_X9_many 10 rfl) rfl (lv_at hl 0 rfl) ?_
    refine lv_bipush (v := (-2 : Int32)) F.1 F.2.1 (dd D_X9_many 11 rfl) kb_m2 ?_
    obtain ⟨r1, e2, h⟩ := Option.bind_eq_some_iff.mp h
    refine rwe_all (st' := [.int r1.1]) hD hS hA (rV (rest := []) F (c_X9_refuse D cA am s n (-2 : Int32) r1 e2 l H.size) lk_X9_79 (Nat.le_of_ble_eq_true rfl) (preRW hK hS hAb hP hD) (rcv_9 hK hP (q0 := (0)) (mp_0 cA am s)) rfl hl rfl (Nat.le_of_ble_eq_true rfl) (dd D_X9_many 12 rfl) ⟨Nat.le_of_ble_eq_true rfl, Nat.le_of_ble_eq_true rfl⟩) rfl (fun H locs hP hD hS => ?_)
    obtain rfl := Option.some.inj h
    exact rw_i (R := rmOf 7 0 0) F hP hD hS hr hlk ⟨Nat.le_of_ble_eq_true rfl, Nat.le_of_ble_eq_true rfl⟩ ⟨rfl, rfl⟩ (dd D_X9_many 13 rfl)
  · refine lv_iload_n F.1 F.2.1 (dd D_X9_many 4 rfl) rfl (lv_at hl 3 rfl) ?_
    refine lv_i2l (v := (Int32.toInt64 p3)) F.1 F.2.1 (dd D_X9_many 5 rfl) rfl ?_
    refine lv_lconst (v := (0 : Int64)) F.1 F.2.1 (dd D_X9_many 6 rfl) kl_0 ?_
    refine lv_ldc2 (own := RX9) (v := (5 : Int64)) F.1 F.2.1 F.2.2.2.1 (F.2.2.2.2 _ (kL_X9_90)) (dd D_X9_many 7 rfl) ?_
    refine ro_go (st' := [.int (bI (F_X9_in (Int32.toInt64 p3) (0 : Int64) (5 : Int64)))]) (rS (rest := []) F (c_X9_in D cA (Int32.toInt64 p3) (0 : Int64) (5 : Int64) l) lk_X9_63 (Nat.le_of_ble_eq_true rfl) (preRO hK hS hAb (emP)) rfl hl rfl (Nat.le_of_ble_eq_true rfl) (dd D_X9_many 8 rfl) ⟨Nat.le_of_ble_eq_true rfl, Nat.le_of_ble_eq_true rfl⟩) rfl ?_
    refine x_bif_ne (tgt := 27) F.1 F.2.1 (dd D_X9_many 9 rfl) rfl h (fun c14 h => ?_) (fun c14 h => ?_)
    · refine lv_iconst (v := (0 : Int32)) F.1 F.2.1 (dd D_X9_many 14 rfl) ki_0 ?_
      refine lv_istore (lv' := [(4, .int (0 : Int32)), (0, .ref (am 0)), (1, .int p1), (2, .int p2), (3, .int p3)]) F.1 F.2.1 (dd D_X9_many 15 rfl) hl (Nat.le_of_ble_eq_true rfl) rfl (fun ls hl => ?_)
      refine lv_iload_n F.1 F.2.1 (dd D_X9_many 16 rfl) rfl (lv_at hl 2 rfl) ?_
      refine lv_istore (lv' := [(5, .int p1), (4, .int (0 : Int32)), (0, .ref (am 0)), (1, .int p1), (2, .int p2), (3, .int p3)]) F.1 F.2.1 (dd D_X9_many 17 rfl) hl (Nat.le_of_ble_eq_true rfl) rfl (fun ls hl => ?_)
      have L7 : ∀ (kf : Nat) (w4_L7 : Int32) (w5_L7 : Int32) (H : Heap) (locs : List Loc) (ls : Array Slot), va_P D vwCl (mW cA am s) H → va_D A (mW cA am s) → va_S A sM.heap H locs → lv_has ls 6 [(0, .ref (am 0)), (1, .int p1), (2, .int p2), (3, .int p3), (4, .int w4_L7), (5, .int w5_L7)] → F_X9_many_L33 n s p1 p2 p3 kf w4_L7 w5_L7 = some r → Wrw 7 0 0 D A (exq (some (.int r.1)) (mW cA am r.2)) p l e sM m ([.ref (am 0), .int p1, .int p2, .int p3] : List Value).toArray below meth c H locs 0 0 33 ls [] := by
        intro kf
        induction kf with
        | zero =>
          intro w4_L7 w5_L7 H locs ls hP hD hS hl h
          cases (show none = some r from h)
        | succ k_L7 ih_L7 =>
          intro w4_L7 w5_L7 H locs ls hP hD hS hl h
          unfold F_X9_many_L33 at h
          refine lv_iload F.1 F.2.1 (dd D_X9_many 18 rfl) (lv_at hl 5 rfl) ?_
          refine lv_iload_n F.1 F.2.1 (dd D_X9_many 19 rfl) rfl (lv_at hl 1 rfl) ?_
          refine lv_iload_n F.1 F.2.1 (dd D_X9_many 20 rfl) rfl (lv_at hl 2 rfl) ?_
          refine ro_go (st' := [.int (F_X9_lastOf p1 p2), .int w5_L7]) (rS (rest := [.int w5_L7]) F (c_X9_lastOf D cA p1 p2 l) lk_X9_273 (Nat.le_of_ble_eq_true rfl) (preRO hK hS hAb (emP)) rfl hl rfl (Nat.le_of_ble_eq_true rfl) (dd D_X9_many 21 rfl) ⟨Nat.le_of_ble_eq_true rfl, Nat.le_of_ble_eq_true rfl⟩) rfl ?_
          refine x_icmp_gt (tgt := 69) F.1 F.2.1 (dd D_X9_many 22 rfl) rfl h (fun c8 h => ?_) (fun c8 h => ?_)
          · refine lv_iload F.1 F.2.1 (dd D_X9_many 36 rfl) (lv_at hl 4 rfl) ?_
            obtain rfl := Option.some.inj h
            exact rw_i (R := rmOf 7 0 0) F hP hD hS hr hlk ⟨Nat.le_of_ble_eq_true rfl, Nat.le_of_ble_eq_true rfl⟩ ⟨rfl, rfl⟩ (dd D_X9_many 37 rfl)
          · refine lv_iload F.1 F.2.1 (dd D_X9_many 23 rfl) (lv_at hl 4 rfl) ?_
            refine lv_aload_n F.1 F.2.1 (dd D_X9_many 24 rfl) rfl (lv_at hl 0 rfl) ?_
            refine lv_iload F.1 F.2.1 (dd D_X9_many 25 rfl) (lv_at hl 5 rfl) ?_
            refine lv_iload_n F.1 F.2.1 (dd D_X9_many 26 rfl) rfl (lv_at hl 3 rfl) ?_
            obtain ⟨r9, e10, h⟩ := Option.bind_eq_some_iff.mp h
            refine ro_go (st' := [.int (bI r9), .int w4_L7]) (rV (rest := [.int w4_L7]) F (c_X9_isOf D cA am s n w5_L7 p3 r9 e10 l) lk_X9_109 (Nat.le_of_ble_eq_true rfl) (preRO hK hS hAb hP) (rcv_9 hK hP (q0 := (0)) (mp_0 cA am s)) rfl hl rfl (Nat.le_of_ble_eq_true rfl) (dd D_X9_many 27 rfl) ⟨Nat.le_of_ble_eq_true rfl, Nat.le_of_ble_eq_true rfl⟩) rfl ?_
            refine x_bif_eq (tgt := 59) F.1 F.2.1 (dd D_X9_many 28 rfl) rfl h (fun c11 h => ?_) (fun c11 h => ?_)
            · refine lv_iconst (v := (0 : Int32)) F.1 F.2.1 (dd D_X9_many 31 rfl) ki_0 ?_
              refine lv_iadd F.1 F.2.1 (dd D_X9_many 32 rfl) ?_
              refine lv_istore (lv' := [(4, .int (w4_L7 + (0 : Int32))), (0, .ref (am 0)), (1, .int p1), (2, .int p2), (3, .int p3), (5, .int w5_L7)]) F.1 F.2.1 (dd D_X9_many 33 rfl) hl (Nat.le_of_ble_eq_true rfl) rfl (fun ls hl => ?_)
              refine lv_iinc (v := (w5_L7 + (1 : Int32))) (lv' := [(5, .int (w5_L7 + (1 : Int32))), (4, .int (w4_L7 + (0 : Int32))), (0, .ref (am 0)), (1, .int p1), (2, .int p2), (3, .int p3)]) F.1 F.2.1 (dd D_X9_many 34 rfl) hl (k := 5) rfl (congrArg (fun z => w5_L7 + z) ki_1) (Nat.le_of_ble_eq_true rfl) rfl (fun ls hl => ?_)
              refine lv_goto (tgt := 33) F.1 F.2.1 (dd D_X9_many 35 rfl) rfl ?_
              exact ih_L7 (w4_L7 + (0 : Int32)) (w5_L7 + (1 : Int32)) _ _ ls hP hD hS (lv_sub hl [2, 3, 4, 5, 1, 0] rfl) h
            · refine lv_iconst (v := (1 : Int32)) F.1 F.2.1 (dd D_X9_many 29 rfl) ki_1 ?_
              refine lv_goto (tgt := 60) F.1 F.2.1 (dd D_X9_many 30 rfl) rfl ?_
              refine lv_iadd F.1 F.2.1 (dd D_X9_many 32 rfl) ?_
              refine lv_istore (lv' := [(4, .int (w4_L7 + (1 : Int32))), (0, .ref (am 0)), (1, .int p1), (2, .int p2), (3, .int p3), (5, .int w5_L7)]) F.1 F.2.1 (dd D_X9_many 33 rfl) hl (Nat.le_of_ble_eq_true rfl) rfl (fun ls hl => ?_)
              refine lv_iinc (v := (w5_L7 + (1 : Int32))) (lv' := [(5, .int (w5_L7 + (1 : Int32))), (4, .int (w4_L7 + (1 : Int32))), (0, .ref (am 0)), (1, .int p1), (2, .int p2), (3, .int p3)]) F.1 F.2.1 (dd D_X9_many 34 rfl) hl (k := 5) rfl (congrArg (fun z => w5_L7 + z) ki_1) (Nat.le_of_ble_eq_true rfl) rfl (fun ls hl => ?_)
              refine lv_goto (tgt := 33) F.1 F.2.1 (dd D_X9_many 35 rfl) rfl ?_
              exact ih_L7 (w4_L7 + (1 : Int32)) (w5_L7 + (1 : Int32)) _ _ ls hP hD hS (lv_sub hl [2, 3, 4, 5, 1, 0] rfl) h
      exact L7 n (0 : Int32) p1 _ _ ls hP hD hS (lv_sub hl [2, 3, 4, 5, 1, 0] rfl) h
    · refine lv_aload_n F.1 F.2.1 (dd D_X9_many 10 rfl) rfl (lv_at hl 0 rfl) ?_
      refine lv_bipush (v := (-2 : Int32)) F.1 F.2.1 (dd D_X9_many 11 rfl) kb_m2 ?_
      obtain ⟨r12, e13, h⟩ := Option.bind_eq_some_iff.mp h
      refine rwe_all (st' := [.int r12.1]) hD hS hA (rV (rest := []) F (c_X9_refuse D cA am s n (-2 : Int32) r12 e13 l H.size) lk_X9_79 (Nat.le_of_ble_eq_true rfl) (preRW hK hS hAb hP hD) (rcv_9 hK hP (q0 := (0)) (mp_0 cA am s)) rfl hl rfl (Nat.le_of_ble_eq_true rfl) (dd D_X9_many 12 rfl) ⟨Nat.le_of_ble_eq_true rfl, Nat.le_of_ble_eq_true rfl⟩) rfl (fun H locs hP hD hS => ?_)
      obtain rfl := Option.some.inj h
      exact rw_i (R := rmOf 7 0 0) F hP hD hS hr hlk ⟨Nat.le_of_ble_eq_true rfl, Nat.le_of_ble_eq_true rfl⟩ ⟨rfl, rfl⟩ (dd D_X9_many 13 rfl)
def F_X9_tellsOf (n : Nat) (s : MS) (p1 : Int32) (p2 : Int32) (p3 : Int32) : Option (Int32 × MS) := (if p3 = (-1 : Int32) then some (p1, s) else (if p2 = (-1 : Int32) then (((F_X9_refuse n s (-5 : Int32))).bind fun r3 => some (r3.1, r3.2)) else some (p2, s)))
set_option maxHeartbeats 4000000 in
set_option maxRecDepth 100000 in
theorem c_X9_tellsOf (D : va_G) (cA : Nat → ClassId) (am : Nat → Nat) (s : MS) (n : Nat) (p1 : Int32) (p2 : Int32) (p3 : Int32) (r : (Int32 × MS)) (h : F_X9_tellsOf n s p1 p2 p3 = some r) : RW m_X9_tellsOf 1 0 0 D cA [.ref (am 0), .int p1, .int p2, .int p3] (mW cA am s) (exq (some (.int r.1)) (mW cA am r.2)) := by
  refine RW.ofW gy_X9_tellsOf.2.2 (Nat.le_of_ble_eq_true rfl) ?_
  intro l p e sM m below meth c A H locs F hr hlk hnm hK hP hD hS hA hAb ls hl
  have hl : lv_has ls 4 [(0, .ref (am 0)), (1, .int p1), (2, .int p2), (3, .int p3)] := hl
  unfold F_X9_tellsOf at h
  refine lv_iload_n F.1 F.2.1 (dd D_X9_tellsOf 0 rfl) rfl (lv_at hl 3 rfl) ?_
  refine lv_iconst (v := (-1 : Int32)) F.1 F.2.1 (dd D_X9_tellsOf 1 rfl) ki_m1 ?_
  refine x_icmp_ne (tgt := 7) F.1 F.2.1 (dd D_X9_tellsOf 2 rfl) rfl h (fun c1 h => ?_) (fun c1 h => ?_)
  · refine lv_iload_n F.1 F.2.1 (dd D_X9_tellsOf 5 rfl) rfl (lv_at hl 2 rfl) ?_
    refine lv_iconst (v := (-1 : Int32)) F.1 F.2.1 (dd D_X9_tellsOf 6 rfl) ki_m1 ?_
    refine x_icmp_ne (tgt := 21) F.1 F.2.1 (dd D_X9_tellsOf 7 rfl) rfl h (fun c2 h => ?_) (fun c2 h => ?_)
    · refine lv_iload_n F.1 F.2.1 (dd D_X9_tellsOf 12 rfl) rfl (lv_at hl 2 rfl) ?_
      obtain rfl := Option.some.inj h
      exact rw_i (R := rmOf 1 0 0) F hP hD hS hr hlk ⟨Nat.le_of_ble_eq_true rfl, Nat.le_of_ble_eq_true rfl⟩ ⟨rfl, rfl⟩ (dd D_X9_tellsOf 13 rfl)
    · refine lv_aload_n F.1 F.2.1 (dd D_X9_tellsOf 8 rfl) rfl (lv_at hl 0 rfl) ?_
      refine lv_bipush (v := (-5 : Int32)) F.1 F.2.1 (dd D_X9_tellsOf 9 rfl) kb_m5 ?_
      obtain ⟨r3, e4, h⟩ := Option.bind_eq_some_iff.mp h
      refine rwe_all (st' := [.int r3.1]) hD hS hA (rV (rest := []) F (c_X9_refuse D cA am s n (-5 : Int32) r3 e4 l H.size) lk_X9_79 (Nat.le_of_ble_eq_true rfl) (preRW hK hS hAb hP hD) (rcv_9 hK hP (q0 := (0)) (mp_0 cA am s)) rfl hl rfl (Nat.le_of_ble_eq_true rfl) (dd D_X9_tellsOf 10 rfl) ⟨Nat.le_of_ble_eq_true rfl, Nat.le_of_ble_eq_true rfl⟩) rfl (fun H locs hP hD hS => ?_)
      refine lv_goto (tgt := 22) F.1 F.2.1 (dd D_X9_tellsOf 11 rfl) rfl ?_
      obtain rfl := Option.some.inj h
      exact rw_i (R := rmOf 1 0 0) F hP hD hS hr hlk ⟨Nat.le_of_ble_eq_true rfl, Nat.le_of_ble_eq_true rfl⟩ ⟨rfl, rfl⟩ (dd D_X9_tellsOf 13 rfl)
  · refine lv_iload_n F.1 F.2.1 (dd D_X9_tellsOf 3 rfl) rfl (lv_at hl 1 rfl) ?_
    obtain rfl := Option.some.inj h
    exact rw_i (R := rmOf 1 0 0) F hP hD hS hr hlk ⟨Nat.le_of_ble_eq_true rfl, Nat.le_of_ble_eq_true rfl⟩ ⟨rfl, rfl⟩ (dd D_X9_tellsOf 4 rfl)
def F_X9_between_L56 (n : Nat) (u0 : MS) (v1 : Int32) (v2 : Int32) (v3 : Int32) (v4 : Int32) (v5 : Int32) : Nat → Int32 → Int32 → Int32 → Option (Int32 × MS)
  | 0, _, _, _ => none
  | kf + 1, w6, w7, w8 => (if (F_X9_lastOf v1 v2) < w8 then (((F_X9_tellsOf n u0 w6 w7 v5)).bind fun r9 => some (r9.1, r9.2)) else (((F_X9_degreeUp n u0 w8)).bind fun r11 => bf (F_X9_in (Int32.toInt64 r11) (Int32.toInt64 v3) (Int32.toInt64 v4)) ((if w6 = v5 then F_X9_between_L56 n u0 v1 v2 v3 v4 v5 kf (w6 + (1 : Int32)) w8 (w8 + (1 : Int32)) else F_X9_between_L56 n u0 v1 v2 v3 v4 v5 kf (w6 + (1 : Int32)) w7 (w8 + (1 : Int32)))) (F_X9_between_L56 n u0 v1 v2 v3 v4 v5 kf w6 w7 (w8 + (1 : Int32)))))
def F_X9_between (n : Nat) (s : MS) (p1 : Int32) (p2 : Int32) (p3 : Int32) (p4 : Int32) (p5 : Int32) : Option (Int32 × MS) := bf (F_X9_areDays p1 p2) (bf (F_X9_in (Int32.toInt64 p3) (0 : Int64) (999 : Int64)) (bf (F_X9_in (Int32.toInt64 p4) (Int32.toInt64 p3) (999 : Int64)) ((if (-1 : Int32) ≤ p5 then F_X9_between_L56 n s p1 p2 p3 p4 p5 n (0 : Int32) (-1 : Int32) p1 else (((F_X9_refuse n s (-2 : Int32))).bind fun r23 => some (r23.1, r23.2)))) ((((F_X9_refuse n s (-2 : Int32))).bind fun r5 => some (r5.1, r5.2)))) ((((F_X9_refuse n s (-2 : Int32))).bind fun r3 => some (r3.1, r3.2)))) ((((F_X9_refuse n s (-2 : Int32))).bind fun r1 => some (r1.1, r1.2)))
set_option maxHeartbeats 4000000 in
set_option maxRecDepth 100000 in
theorem c_X9_between (D : va_G) (cA : Nat → ClassId) (am : Nat → Nat) (s : MS) (n : Nat) (p1 : Int32) (p2 : Int32) (p3 : Int32) (p4 : Int32) (p5 : Int32) (r : (Int32 × MS)) (h : F_X9_between n s p1 p2 p3 p4 p5 = some r) : RW m_X9_between 5 0 0 D cA [.ref (am 0), .int p1, .int p2, .int p3, .int p4, .int p5] (mW cA am s) (exq (some (.int r.1)) (mW cA am r.2)) := by
  refine RW.ofW gy_X9_between.2.2 (Nat.le_of_ble_eq_true rfl) ?_
  intro l p e sM m below meth c A H locs F hr hlk hnm hK hP hD hS hA hAb ls hl
  have hl : lv_has ls 9 [(0, .ref (am 0)), (1, .int p1), (2, .int p2), (3, .int p3), (4, .int p4), (5, .int p5)] := hl
  unfold F_X9_between at h
  refine lv_iload_n F.1 F.2.1 (dd D_X9_between 0 rfl) rfl (lv_at hl 1 rfl) ?_
  refine lv_iload_n F.1 F.2.1 (dd D_X9_between 1 rfl) rfl (lv_at hl 2 rfl) ?_
  refine ro_go (st' := [.int (bI (F_X9_areDays p1 p2))]) (rS (rest := []) F (c_X9_areDays D cA p1 p2 l) lk_X9_276 (Nat.le_of_ble_eq_true rfl) (preRO hK hS hAb (emP)) rfl hl rfl (Nat.le_of_ble_eq_true rfl) (dd D_X9_between 2 rfl) ⟨Nat.le_of_ble_eq_true rfl, Nat.le_of_ble_eq_true rfl⟩) rfl ?_
  refine x_bif_eq (tgt := 40) F.1 F.2.1 (dd D_X9_between 3 rfl) rfl h (fun c27 h => ?_) (fun c27 h => ?_)
  · refine lv_aload_n F.1 F.2.1 (dd D_X9_between 20 rfl) rfl (lv_at hl 0 rfl) ?_
    refine lv_bipush (v := (-2 : Int32)) F.1 F.2.1 (dd D_X9_between 21 rfl) kb_m2 ?_
    obtain ⟨r1, e2, h⟩ := Option.bind_eq_some_iff.mp h
    refine rwe_all (st' := [.int r1.1]) hD hS hA (rV (rest := []) F (c_X9_refuse D cA am s n (-2 : Int32) r1 e2 l H.size) lk_X9_79 (Nat.le_of_ble_eq_true rfl) (preRW hK hS hAb hP hD) (rcv_9 hK hP (q0 := (0)) (mp_0 cA am s)) rfl hl rfl (Nat.le_of_ble_eq_true rfl) (dd D_X9_between 22 rfl) ⟨Nat.le_of_ble_eq_true rfl, Nat.le_of_ble_eq_true rfl⟩) rfl (fun H locs hP hD hS => ?_)
    obtain rfl := Option.some.inj h
    exact rw_i (R := rmOf 5 0 0) F hP hD hS hr hlk ⟨Nat.le_of_ble_eq_true rfl, Nat.le_of_ble_eq_true rfl⟩ ⟨rfl, rfl⟩ (dd D_X9_between 23 rfl)
  · refine lv_iload_n F.1 F.2.1 (dd D_X9_between 4 rfl) rfl (lv_at hl 3 rfl) ?_
    refine lv_i2l (v := (Int32.toInt64 p3)) F.1 F.2.1 (dd D_X9_between 5 rfl) rfl ?_
    refine lv_lconst (v := (0 : Int64)) F.1 F.2.1 (dd D_X9_between 6 rfl) kl_0 ?_
    refine lv_ldc2 (own := RX9) (v := (999 : Int64)) F.1 F.2.1 F.2.2.2.1 (F.2.2.2.2 _ (kL_X9_234)) (dd D_X9_between 7 rfl) ?_
    refine ro_go (st' := [.int (bI (F_X9_in (Int32.toInt64 p3) (0 : Int64) (999 : Int64)))]) (rS (rest := []) F (c_X9_in D cA (Int32.toInt64 p3) (0 : Int64) (999 : Int64) l) lk_X9_63 (Nat.le_of_ble_eq_true rfl) (preRO hK hS hAb (emP)) rfl hl rfl (Nat.le_of_ble_eq_true rfl) (dd D_X9_between 8 rfl) ⟨Nat.le_of_ble_eq_true rfl, Nat.le_of_ble_eq_true rfl⟩) rfl ?_
    refine x_bif_eq (tgt := 40) F.1 F.2.1 (dd D_X9_between 9 rfl) rfl h (fun c26 h => ?_) (fun c26 h => ?_)
    · refine lv_aload_n F.1 F.2.1 (dd D_X9_between 20 rfl) rfl (lv_at hl 0 rfl) ?_
      refine lv_bipush (v := (-2 : Int32)) F.1 F.2.1 (dd D_X9_between 21 rfl) kb_m2 ?_
      obtain ⟨r3, e4, h⟩ := Option.bind_eq_some_iff.mp h
      refine rwe_all (st' := [.int r3.1]) hD hS hA (rV (rest := []) F (c_X9_refuse D cA am s n (-2 : Int32) r3 e4 l H.size) lk_X9_79 (Nat.le_of_ble_eq_true rfl) (preRW hK hS hAb hP hD) (rcv_9 hK hP (q0 := (0)) (mp_0 cA am s)) rfl hl rfl (Nat.le_of_ble_eq_true rfl) (dd D_X9_between 22 rfl) ⟨Nat.le_of_ble_eq_true rfl, Nat.le_of_ble_eq_true rfl⟩) rfl (fun H locs hP hD hS => ?_)
      obtain rfl := Option.some.inj h
      exact rw_i (R := rmOf 5 0 0) F hP hD hS hr hlk ⟨Nat.le_of_ble_eq_true rfl, Nat.le_of_ble_eq_true rfl⟩ ⟨rfl, rfl⟩ (dd D_X9_between 23 rfl)
    · refine lv_iload F.1 F.2.1 (dd D_X9_between 10 rfl) (lv_at hl 4 rfl) ?_
      refine lv_i2l (v := (Int32.toInt64 p4)) F.1 F.2.1 (dd D_X9_between 11 rfl) rfl ?_
      refine lv_iload_n F.1 F.2.1 (dd D_X9_between 12 rfl) rfl (lv_at hl 3 rfl) ?_
      refine lv_i2l (v := (Int32.toInt64 p3)) F.1 F.2.1 (dd D_X9_between 13 rfl) rfl ?_
      refine lv_ldc2 (own := RX9) (v := (999 : Int64)) F.1 F.2.1 F.2.2.2.1 (F.2.2.2.2 _ (kL_X9_234)) (dd D_X9_between 14 rfl) ?_
      refine ro_go (st' := [.int (bI (F_X9_in (Int32.toInt64 p4) (Int32.toInt64 p3) (999 : Int64)))]) (rS (rest := []) F (c_X9_in D cA (Int32.toInt64 p4) (Int32.toInt64 p3) (999 : Int64) l) lk_X9_63 (Nat.le_of_ble_eq_true rfl) (preRO hK hS hAb (emP)) rfl hl rfl (Nat.le_of_ble_eq_true rfl) (dd D_X9_between 15 rfl) ⟨Nat.le_of_ble_eq_true rfl, Nat.le_of_ble_eq_true rfl⟩) rfl ?_
      refine x_bif_eq (tgt := 40) F.1 F.2.1 (dd D_X9_between 16 rfl) rfl h (fun c25 h => ?_) (fun c25 h => ?_)
      · refine lv_aload_n F.1 F.2.1 (dd D_X9_between 20 rfl) rfl (lv_at hl 0 rfl) ?_
        refine lv_bipush (v := (-2 : Int32)) F.1 F.2.1 (dd D_X9_between 21 rfl) kb_m2 ?_
        obtain ⟨r5, e6, h⟩ := Option.bind_eq_some_iff.mp h
        refine rwe_all (st' := [.int r5.1]) hD hS hA (rV (rest := []) F (c_X9_refuse D cA am s n (-2 : Int32) r5 e6 l H.size) lk_X9_79 (Nat.le_of_ble_eq_true rfl) (preRW hK hS hAb hP hD) (rcv_9 hK hP (q0 := (0)) (mp_0 cA am s)) rfl hl rfl (Nat.le_of_ble_eq_true rfl) (dd D_X9_between 22 rfl) ⟨Nat.le_of_ble_eq_true rfl, Nat.le_of_ble_eq_true rfl⟩) rfl (fun H locs hP hD hS => ?_)
        obtain rfl := Option.some.inj h
        exact rw_i (R := rmOf 5 0 0) F hP hD hS hr hlk ⟨Nat.le_of_ble_eq_true rfl, Nat.le_of_ble_eq_true rfl⟩ ⟨rfl, rfl⟩ (dd D_X9_between 23 rfl)
      · refine lv_iload F.1 F.2.1 (dd D_X9_between 17 rfl) (lv_at hl 5 rfl) ?_
        refine lv_iconst (v := (-1 : Int32)) F.1 F.2.1 (dd D_X9_between 18 rfl) ki_m1 ?_
        refine x_icmp_ge (tgt := 47) F.1 F.2.1 (dd D_X9_between 19 rfl) rfl h (fun c7 h => ?_) (fun c7 h => ?_)
        · refine lv_iconst (v := (0 : Int32)) F.1 F.2.1 (dd D_X9_between 24 rfl) ki_0 ?_
          refine lv_istore (lv' := [(6, .int (0 : Int32)), (0, .ref (am 0)), (1, .int p1), (2, .int p2), (3, .int p3), (4, .int p4), (5, .int p5)]) F.1 F.2.1 (dd D_X9_between 25 rfl) hl (Nat.le_of_ble_eq_true rfl) rfl (fun ls hl => ?_)
          refine lv_iconst (v := (-1 : Int32)) F.1 F.2.1 (dd D_X9_between 26 rfl) ki_m1 ?_
          refine lv_istore (lv' := [(7, .int (-1 : Int32)), (6, .int (0 : Int32)), (0, .ref (am 0)), (1, .int p1), (2, .int p2), (3, .int p3), (4, .int p4), (5, .int p5)]) F.1 F.2.1 (dd D_X9_between 27 rfl) hl (Nat.le_of_ble_eq_true rfl) rfl (fun ls hl => ?_)
          refine lv_iload_n F.1 F.2.1 (dd D_X9_between 28 rfl) rfl (lv_at hl 3 rfl) ?_
          refine lv_istore (lv' := [(8, .int p1), (7, .int (-1 : Int32)), (6, .int (0 : Int32)), (0, .ref (am 0)), (1, .int p1), (2, .int p2), (3, .int p3), (4, .int p4), (5, .int p5)]) F.1 F.2.1 (dd D_X9_between 29 rfl) hl (Nat.le_of_ble_eq_true rfl) rfl (fun ls hl => ?_)
          have L15 : ∀ (kf : Nat) (w6_L15 : Int32) (w7_L15 : Int32) (w8_L15 : Int32) (H : Heap) (locs : List Loc) (ls : Array Slot), va_P D vwCl (mW cA am s) H → va_D A (mW cA am s) → va_S A sM.heap H locs → lv_has ls 9 [(0, .ref (am 0)), (1, .int p1), (2, .int p2), (3, .int p3), (4, .int p4), (5, .int p5), (6, .int w6_L15), (7, .int w7_L15), (8, .int w8_L15)] → F_X9_between_L56 n s p1 p2 p3 p4 p5 kf w6_L15 w7_L15 w8_L15 = some r → Wrw 5 0 0 D A (exq (some (.int r.1)) (mW cA am r.2)) p l e sM m ([.ref (am 0), .int p1, .int p2, .int p3, .int p4, .int p5] : List Value).toArray below meth c H locs 0 0 56 ls [] := by
            intro kf
            induction kf with
            | zero =>
              intro w6_L15 w7_L15 w8_L15 H locs ls hP hD hS hl h
              cases (show none = some r from h)
            | succ k_L15 ih_L15 =>
              intro w6_L15 w7_L15 w8_L15 H locs ls hP hD hS hl h
              unfold F_X9_between_L56 at h
              refine lv_iload F.1 F.2.1 (dd D_X9_between 30 rfl) (lv_at hl 8 rfl) ?_
              refine lv_iload_n F.1 F.2.1 (dd D_X9_between 31 rfl) rfl (lv_at hl 1 rfl) ?_
              refine lv_iload_n F.1 F.2.1 (dd D_X9_between 32 rfl) rfl (lv_at hl 2 rfl) ?_
              refine ro_go (st' := [.int (F_X9_lastOf p1 p2), .int w8_L15]) (rS (rest := [.int w8_L15]) F (c_X9_lastOf D cA p1 p2 l) lk_X9_273 (Nat.le_of_ble_eq_true rfl) (preRO hK hS hAb (emP)) rfl hl rfl (Nat.le_of_ble_eq_true rfl) (dd D_X9_between 33 rfl) ⟨Nat.le_of_ble_eq_true rfl, Nat.le_of_ble_eq_true rfl⟩) rfl ?_
              refine x_icmp_gt (tgt := 109) F.1 F.2.1 (dd D_X9_between 34 rfl) rfl h (fun c16 h => ?_) (fun c16 h => ?_)
              · refine lv_aload_n F.1 F.2.1 (dd D_X9_between 55 rfl) rfl (lv_at hl 0 rfl) ?_
                refine lv_iload F.1 F.2.1 (dd D_X9_between 56 rfl) (lv_at hl 6 rfl) ?_
                refine lv_iload F.1 F.2.1 (dd D_X9_between 57 rfl) (lv_at hl 7 rfl) ?_
                refine lv_iload F.1 F.2.1 (dd D_X9_between 58 rfl) (lv_at hl 5 rfl) ?_
                obtain ⟨r17, e18, h⟩ := Option.bind_eq_some_iff.mp h
                refine rwe_all (st' := [.int r17.1]) hD hS hA (rV (rest := []) F (c_X9_tellsOf D cA am s n w6_L15 w7_L15 p5 r17 e18 l H.size) lk_X9_279 (Nat.le_of_ble_eq_true rfl) (preRW hK hS hAb hP hD) (rcv_9 hK hP (q0 := (0)) (mp_0 cA am s)) rfl hl rfl (Nat.le_of_ble_eq_true rfl) (dd D_X9_between 59 rfl) ⟨Nat.le_of_ble_eq_true rfl, Nat.le_of_ble_eq_true rfl⟩) rfl (fun H locs hP hD hS => ?_)
                obtain rfl := Option.some.inj h
                exact rw_i (R := rmOf 5 0 0) F hP hD hS hr hlk ⟨Nat.le_of_ble_eq_true rfl, Nat.le_of_ble_eq_true rfl⟩ ⟨rfl, rfl⟩ (dd D_X9_between 60 rfl)
              · refine lv_aload_n F.1 F.2.1 (dd D_X9_between 35 rfl) rfl (lv_at hl 0 rfl) ?_
                refine lv_iload F.1 F.2.1 (dd D_X9_between 36 rfl) (lv_at hl 8 rfl) ?_
                obtain ⟨r19, e20, h⟩ := Option.bind_eq_some_iff.mp h
                refine ro_go (st' := [.int r19]) (rV (rest := []) F (c_X9_degreeUp D cA am s n w8_L15 r19 e20 l) lk_X9_256 (Nat.le_of_ble_eq_true rfl) (preRO hK hS hAb hP) (rcv_9 hK hP (q0 := (0)) (mp_0 cA am s)) rfl hl rfl (Nat.le_of_ble_eq_true rfl) (dd D_X9_between 37 rfl) ⟨Nat.le_of_ble_eq_true rfl, Nat.le_of_ble_eq_true rfl⟩) rfl ?_
                refine lv_i2l (v := (Int32.toInt64 r19)) F.1 F.2.1 (dd D_X9_between 38 rfl) rfl ?_
                refine lv_iload_n F.1 F.2.1 (dd D_X9_between 39 rfl) rfl (lv_at hl 3 rfl) ?_
                refine lv_i2l (v := (Int32.toInt64 p3)) F.1 F.2.1 (dd D_X9_between 40 rfl) rfl ?_
                refine lv_iload F.1 F.2.1 (dd D_X9_between 41 rfl) (lv_at hl 4 rfl) ?_
                refine lv_i2l (v := (Int32.toInt64 p4)) F.1 F.2.1 (dd D_X9_between 42 rfl) rfl ?_
                refine ro_go (st' := [.int (bI (F_X9_in (Int32.toInt64 r19) (Int32.toInt64 p3) (Int32.toInt64 p4)))]) (rS (rest := []) F (c_X9_in D cA (Int32.toInt64 r19) (Int32.toInt64 p3) (Int32.toInt64 p4) l) lk_X9_63 (Nat.le_of_ble_eq_true rfl) (preRO hK hS hAb (emP)) rfl hl rfl (Nat.le_of_ble_eq_true rfl) (dd D_X9_between 43 rfl) ⟨Nat.le_of_ble_eq_true rfl, Nat.le_of_ble_eq_true rfl⟩) rfl ?_
                refine x_bif_eq (tgt := 103) F.1 F.2.1 (dd D_X9_between 44 rfl) rfl h (fun c22 h => ?_) (fun c22 h => ?_)
                · refine lv_iinc (v := (w8_L15 + (1 : Int32))) (lv' := [(8, .int (w8_L15 + (1 : Int32))), (0, .ref (am 0)), (1, .int p1), (2, .int p2), (3, .int p3), (4, .int p4), (5, .int p5), (6, .int w6_L15), (7, .int w7_L15)]) F.1 F.2.1 (dd D_X9_between 53 rfl) hl (k := 8) rfl (congrArg (fun z => w8_L15 + z) ki_1) (Nat.le_of_ble_eq_true rfl) rfl (fun ls hl => ?_)
                  refine lv_goto (tgt := 56) F.1 F.2.1 (dd D_X9_between 54 rfl) rfl ?_
                  exact ih_L15 w6_L15 w7_L15 (w8_L15 + (1 : Int32)) _ _ ls hP hD hS (lv_sub hl [1, 2, 3, 4, 5, 6, 7, 8, 0] rfl) h
                · refine lv_iload F.1 F.2.1 (dd D_X9_between 45 rfl) (lv_at hl 6 rfl) ?_
                  refine lv_iload F.1 F.2.1 (dd D_X9_between 46 rfl) (lv_at hl 5 rfl) ?_
                  refine x_icmp_ne (tgt := 96) F.1 F.2.1 (dd D_X9_between 47 rfl) rfl h (fun c21 h => ?_) (fun c21 h => ?_)
                  · refine lv_iload F.1 F.2.1 (dd D_X9_between 50 rfl) (lv_at hl 7 rfl) ?_
                    refine lv_istore (lv' := [(7, .int w7_L15), (0, .ref (am 0)), (1, .int p1), (2, .int p2), (3, .int p3), (4, .int p4), (5, .int p5), (6, .int w6_L15), (8, .int w8_L15)]) F.1 F.2.1 (dd D_X9_between 51 rfl) hl (Nat.le_of_ble_eq_true rfl) rfl (fun ls hl => ?_)
                    refine lv_iinc (v := (w6_L15 + (1 : Int32))) (lv' := [(6, .int (w6_L15 + (1 : Int32))), (7, .int w7_L15), (0, .ref (am 0)), (1, .int p1), (2, .int p2), (3, .int p3), (4, .int p4), (5, .int p5), (8, .int w8_L15)]) F.1 F.2.1 (dd D_X9_between 52 rfl) hl (k := 7) rfl (congrArg (fun z => w6_L15 + z) ki_1) (Nat.le_of_ble_eq_true rfl) rfl (fun ls hl => ?_)
                    refine lv_iinc (v := (w8_L15 + (1 : Int32))) (lv' := [(8, .int (w8_L15 + (1 : Int32))), (6, .int (w6_L15 + (1 : Int32))), (7, .int w7_L15), (0, .ref (am 0)), (1, .int p1), (2, .int p2), (3, .int p3), (4, .int p4), (5, .int p5)]) F.1 F.2.1 (dd D_X9_between 53 rfl) hl (k := 8) rfl (congrArg (fun z => w8_L15 + z) ki_1) (Nat.le_of_ble_eq_true rfl) rfl (fun ls hl => ?_)
                    refine lv_goto (tgt := 56) F.1 F.2.1 (dd D_X9_between 54 rfl) rfl ?_
                    exact ih_L15 (w6_L15 + (1 : Int32)) w7_L15 (w8_L15 + (1 : Int32)) _ _ ls hP hD hS (lv_sub hl [3, 4, 5, 6, 7, 8, 1, 2, 0] rfl) h
                  · refine lv_iload F.1 F.2.1 (dd D_X9_between 48 rfl) (lv_at hl 8 rfl) ?_
                    refine lv_goto (tgt := 98) F.1 F.2.1 (dd D_X9_between 49 rfl) rfl ?_
                    refine lv_istore (lv' := [(7, .int w8_L15), (0, .ref (am 0)), (1, .int p1), (2, .int p2), (3, .int p3), (4, .int p4), (5, .int p5), (6, .int w6_L15), (8, .int w8_L15)]) F.1 F.2.1 (dd D_X9_between 51 rfl) hl (Nat.le_of_ble_eq_true rfl) rfl (fun ls hl => ?_)
                    refine lv_iinc (v := (w6_L15 + (1 : Int32))) (lv' := [(6, .int (w6_L15 + (1 : Int32))), (7, .int w8_L15), (0, .ref (am 0)), (1, .int p1), (2, .int p2), (3, .int p3), (4, .int p4), (5, .int p5), (8, .int w8_L15)]) F.1 F.2.1 (dd D_X9_between 52 rfl) hl (k := 7) rfl (congrArg (fun z => w6_L15 + z) ki_1) (Nat.le_of_ble_eq_true rfl) rfl (fun ls hl => ?_)
                    refine lv_iinc (v := (w8_L15 + (1 : Int32))) (lv' := [(8, .int (w8_L15 + (1 : Int32))), (6, .int (w6_L15 + (1 : Int32))), (7, .int w8_L15), (0, .ref (am 0)), (1, .int p1), (2, .int p2), (3, .int p3), (4, .int p4), (5, .int p5)]) F.1 F.2.1 (dd D_X9_between 53 rfl) hl (k := 8) rfl (congrArg (fun z => w8_L15 + z) ki_1) (Nat.le_of_ble_eq_true rfl) rfl (fun ls hl => ?_)
                    refine lv_goto (tgt := 56) F.1 F.2.1 (dd D_X9_between 54 rfl) rfl ?_
                    exact ih_L15 (w6_L15 + (1 : Int32)) w8_L15 (w8_L15 + (1 : Int32)) _ _ ls hP hD hS (lv_sub hl [3, 4, 5, 6, 7, 8, 1, 2, 0] rfl) h
          exact L15 n (0 : Int32) (-1 : Int32) p1 _ _ ls hP hD hS (lv_sub hl [3, 4, 5, 6, 7, 8, 2, 1, 0] rfl) h
        · refine lv_aload_n F.1 F.2.1 (dd D_X9_between 20 rfl) rfl (lv_at hl 0 rfl) ?_
          refine lv_bipush (v := (-2 : Int32)) F.1 F.2.1 (dd D_X9_between 21 rfl) kb_m2 ?_
          obtain ⟨r23, e24, h⟩ := Option.bind_eq_some_iff.mp h
          refine rwe_all (st' := [.int r23.1]) hD hS hA (rV (rest := []) F (c_X9_refuse D cA am s n (-2 : Int32) r23 e24 l H.size) lk_X9_79 (Nat.le_of_ble_eq_true rfl) (preRW hK hS hAb hP hD) (rcv_9 hK hP (q0 := (0)) (mp_0 cA am s)) rfl hl rfl (Nat.le_of_ble_eq_true rfl) (dd D_X9_between 22 rfl) ⟨Nat.le_of_ble_eq_true rfl, Nat.le_of_ble_eq_true rfl⟩) rfl (fun H locs hP hD hS => ?_)
          obtain rfl := Option.some.inj h
          exact rw_i (R := rmOf 5 0 0) F hP hD hS hr hlk ⟨Nat.le_of_ble_eq_true rfl, Nat.le_of_ble_eq_true rfl⟩ ⟨rfl, rfl⟩ (dd D_X9_between 23 rfl)
def F_X9_walks_L52 (n : Nat) (u0 : MS) (v1 : Int32) (v2 : Int32) (v3 : Int32) (v4 : Int32) (v5 : Int32) (v6 : Int32) : Nat → Int32 → Int32 → Int32 → Option (Int32 × MS)
  | 0, _, _, _ => none
  | kf + 1, w7, w8, w9 => (if (F_X9_lastOf v1 v2) < w9 then (((F_X9_tellsOf n u0 w7 w8 v6)).bind fun r9 => some (r9.1, r9.2)) else (((F_X9_shinesIn n u0 w9 v3 v4)).bind fun r11 => (if r11 < v5 then F_X9_walks_L52 n u0 v1 v2 v3 v4 v5 v6 kf w7 w8 (w9 + (1 : Int32)) else (if w7 = v6 then F_X9_walks_L52 n u0 v1 v2 v3 v4 v5 v6 kf (w7 + (1 : Int32)) w9 (w9 + (1 : Int32)) else F_X9_walks_L52 n u0 v1 v2 v3 v4 v5 v6 kf (w7 + (1 : Int32)) w8 (w9 + (1 : Int32))))))
def F_X9_walks (n : Nat) (s : MS) (p1 : Int32) (p2 : Int32) (p3 : Int32) (p4 : Int32) (p5 : Int32) (p6 : Int32) : Option (Int32 × MS) := bf (F_X9_areDays p1 p2) (bf (F_X9_areMinutes p3 p4) (bf (F_X9_in (Int32.toInt64 p5) (0 : Int64) (1440 : Int64)) ((if (-1 : Int32) ≤ p6 then F_X9_walks_L52 n s p1 p2 p3 p4 p5 p6 n (0 : Int32) (-1 : Int32) p1 else (((F_X9_refuse n s (-2 : Int32))).bind fun r23 => some (r23.1, r23.2)))) ((((F_X9_refuse n s (-2 : Int32))).bind fun r5 => some (r5.1, r5.2)))) ((((F_X9_refuse n s (-2 : Int32))).bind fun r3 => some (r3.1, r3.2)))) ((((F_X9_refuse n s (-2 : Int32))).bind fun r1 => some (r1.1, r1.2)))
set_option maxHeartbeats 4000000 in
set_option maxRecDepth 100000 in
theorem c_X9_walks (D : va_G) (cA : Nat → ClassId) (am : Nat → Nat) (s : MS) (n : Nat) (p1 : Int32) (p2 : Int32) (p3 : Int32) (p4 : Int32) (p5 : Int32) (p6 : Int32) (r : (Int32 × MS)) (h : F_X9_walks n s p1 p2 p3 p4 p5 p6 = some r) : RW m_X9_walks 6 0 0 D cA [.ref (am 0), .int p1, .int p2, .int p3, .int p4, .int p5, .int p6] (mW cA am s) (exq (some (.int r.1)) (mW cA am r.2)) := by
  refine RW.ofW gy_X9_walks.2.2 (Nat.le_of_ble_eq_true rfl) ?_
  intro l p e sM m below meth c A H locs F hr hlk hnm hK hP hD hS hA hAb ls hl
  have hl : lv_has ls 10 [(0, .ref (am 0)), (1, .int p1), (2, .int p2), (3, .int p3), (4, .int p4), (5, .int p5), (6, .int p6)] := hl
  unfold F_X9_walks at h
  refine lv_iload_n F.1 F.2.1 (dd D_X9_walks 0 rfl) rfl (lv_at hl 1 rfl) ?_
  refine lv_iload_n F.1 F.2.1 (dd D_X9_walks 1 rfl) rfl (lv_at hl 2 rfl) ?_
  refine ro_go (st' := [.int (bI (F_X9_areDays p1 p2))]) (rS (rest := []) F (c_X9_areDays D cA p1 p2 l) lk_X9_276 (Nat.le_of_ble_eq_true rfl) (preRO hK hS hAb (emP)) rfl hl rfl (Nat.le_of_ble_eq_true rfl) (dd D_X9_walks 2 rfl) ⟨Nat.le_of_ble_eq_true rfl, Nat.le_of_ble_eq_true rfl⟩) rfl ?_
  refine x_bif_eq (tgt := 36) F.1 F.2.1 (dd D_X9_walks 3 rfl) rfl h (fun c27 h => ?_) (fun c27 h => ?_)
  · refine lv_aload_n F.1 F.2.1 (dd D_X9_walks 17 rfl) rfl (lv_at hl 0 rfl) ?_
    refine lv_bipush (v := (-2 : Int32)) F.1 F.2.1 (dd D_X9_walks 18 rfl) kb_m2 ?_
    obtain ⟨r1, e2, h⟩ := Option.bind_eq_some_iff.mp h
    refine rwe_all (st' := [.int r1.1]) hD hS hA (rV (rest := []) F (c_X9_refuse D cA am s n (-2 : Int32) r1 e2 l H.size) lk_X9_79 (Nat.le_of_ble_eq_true rfl) (preRW hK hS hAb hP hD) (rcv_9 hK hP (q0 := (0)) (mp_0 cA am s)) rfl hl rfl (Nat.le_of_ble_eq_true rfl) (dd D_X9_walks 19 rfl) ⟨Nat.le_of_ble_eq_true rfl, Nat.le_of_ble_eq_true rfl⟩) rfl (fun H locs hP hD hS => ?_)
    obtain rfl := Option.some.inj h
    exact rw_i (R := rmOf 6 0 0) F hP hD hS hr hlk ⟨Nat.le_of_ble_eq_true rfl, Nat.le_of_ble_eq_true rfl⟩ ⟨rfl, rfl⟩ (dd D_X9_walks 20 rfl)
  · refine lv_iload_n F.1 F.2.1 (dd D_X9_walks 4 rfl) rfl (lv_at hl 3 rfl) ?_
    refine lv_iload F.1 F.2.1 (dd D_X9_walks 5 rfl) (lv_at hl 4 rfl) ?_
    refine ro_go (st' := [.int (bI (F_X9_areMinutes p3 p4))]) (rS (rest := []) F (c_X9_areMinutes D cA p3 p4 l) lk_X9_267 (Nat.le_of_ble_eq_true rfl) (preRO hK hS hAb (emP)) rfl hl rfl (Nat.le_of_ble_eq_true rfl) (dd D_X9_walks 6 rfl) ⟨Nat.le_of_ble_eq_true rfl, Nat.le_of_ble_eq_true rfl⟩) rfl ?_
    refine x_bif_eq (tgt := 36) F.1 F.2.1 (dd D_X9_walks 7 rfl) rfl h (fun c26 h => ?_) (fun c26 h => ?_)
    · refine lv_aload_n F.1 F.2.1 (dd D_X9_walks 17 rfl) rfl (lv_at hl 0 rfl) ?_
      refine lv_bipush (v := (-2 : Int32)) F.1 F.2.1 (dd D_X9_walks 18 rfl) kb_m2 ?_
      obtain ⟨r3, e4, h⟩ := Option.bind_eq_some_iff.mp h
      refine rwe_all (st' := [.int r3.1]) hD hS hA (rV (rest := []) F (c_X9_refuse D cA am s n (-2 : Int32) r3 e4 l H.size) lk_X9_79 (Nat.le_of_ble_eq_true rfl) (preRW hK hS hAb hP hD) (rcv_9 hK hP (q0 := (0)) (mp_0 cA am s)) rfl hl rfl (Nat.le_of_ble_eq_true rfl) (dd D_X9_walks 19 rfl) ⟨Nat.le_of_ble_eq_true rfl, Nat.le_of_ble_eq_true rfl⟩) rfl (fun H locs hP hD hS => ?_)
      obtain rfl := Option.some.inj h
      exact rw_i (R := rmOf 6 0 0) F hP hD hS hr hlk ⟨Nat.le_of_ble_eq_true rfl, Nat.le_of_ble_eq_true rfl⟩ ⟨rfl, rfl⟩ (dd D_X9_walks 20 rfl)
    · refine lv_iload F.1 F.2.1 (dd D_X9_walks 8 rfl) (lv_at hl 5 rfl) ?_
      refine lv_i2l (v := (Int32.toInt64 p5)) F.1 F.2.1 (dd D_X9_walks 9 rfl) rfl ?_
      refine lv_lconst (v := (0 : Int64)) F.1 F.2.1 (dd D_X9_walks 10 rfl) kl_0 ?_
      refine lv_ldc2 (own := RX9) (v := (1440 : Int64)) F.1 F.2.1 F.2.2.2.1 (F.2.2.2.2 _ (kL_X9_282)) (dd D_X9_walks 11 rfl) ?_
      refine ro_go (st' := [.int (bI (F_X9_in (Int32.toInt64 p5) (0 : Int64) (1440 : Int64)))]) (rS (rest := []) F (c_X9_in D cA (Int32.toInt64 p5) (0 : Int64) (1440 : Int64) l) lk_X9_63 (Nat.le_of_ble_eq_true rfl) (preRO hK hS hAb (emP)) rfl hl rfl (Nat.le_of_ble_eq_true rfl) (dd D_X9_walks 12 rfl) ⟨Nat.le_of_ble_eq_true rfl, Nat.le_of_ble_eq_true rfl⟩) rfl ?_
      refine x_bif_eq (tgt := 36) F.1 F.2.1 (dd D_X9_walks 13 rfl) rfl h (fun c25 h => ?_) (fun c25 h => ?_)
      · refine lv_aload_n F.1 F.2.1 (dd D_X9_walks 17 rfl) rfl (lv_at hl 0 rfl) ?_
        refine lv_bipush (v := (-2 : Int32)) F.1 F.2.1 (dd D_X9_walks 18 rfl) kb_m2 ?_
        obtain ⟨r5, e6, h⟩ := Option.bind_eq_some_iff.mp h
        refine rwe_all (st' := [.int r5.1]) hD hS hA (rV (rest := []) F (c_X9_refuse D cA am s n (-2 : Int32) r5 e6 l H.size) lk_X9_79 (Nat.le_of_ble_eq_true rfl) (preRW hK hS hAb hP hD) (rcv_9 hK hP (q0 := (0)) (mp_0 cA am s)) rfl hl rfl (Nat.le_of_ble_eq_true rfl) (dd D_X9_walks 19 rfl) ⟨Nat.le_of_ble_eq_true rfl, Nat.le_of_ble_eq_true rfl⟩) rfl (fun H locs hP hD hS => ?_)
        obtain rfl := Option.some.inj h
        exact rw_i (R := rmOf 6 0 0) F hP hD hS hr hlk ⟨Nat.le_of_ble_eq_true rfl, Nat.le_of_ble_eq_true rfl⟩ ⟨rfl, rfl⟩ (dd D_X9_walks 20 rfl)
      · refine lv_iload F.1 F.2.1 (dd D_X9_walks 14 rfl) (lv_at hl 6 rfl) ?_
        refine lv_iconst (v := (-1 : Int32)) F.1 F.2.1 (dd D_X9_walks 15 rfl) ki_m1 ?_
        refine x_icmp_ge (tgt := 43) F.1 F.2.1 (dd D_X9_walks 16 rfl) rfl h (fun c7 h => ?_) (fun c7 h => ?_)
        · refine lv_iconst (v := (0 : Int32)) F.1 F.2.1 (dd D_X9_walks 21 rfl) ki_0 ?_
          refine lv_istore (lv' := [(7, .int (0 : Int32)), (0, .ref (am 0)), (1, .int p1), (2, .int p2), (3, .int p3), (4, .int p4), (5, .int p5), (6, .int p6)]) F.1 F.2.1 (dd D_X9_walks 22 rfl) hl (Nat.le_of_ble_eq_true rfl) rfl (fun ls hl => ?_)
          refine lv_iconst (v := (-1 : Int32)) F.1 F.2.1 (dd D_X9_walks 23 rfl) ki_m1 ?_
          refine lv_istore (lv' := [(8, .int (-1 : Int32)), (7, .int (0 : Int32)), (0, .ref (am 0)), (1, .int p1), (2, .int p2), (3, .int p3), (4, .int p4), (5, .int p5), (6, .int p6)]) F.1 F.2.1 (dd D_X9_walks 24 rfl) hl (Nat.le_of_ble_eq_true rfl) rfl (fun ls hl => ?_)
          refine lv_iload_n F.1 F.2.1 (dd D_X9_walks 25 rfl) rfl (lv_at hl 3 rfl) ?_
          refine lv_istore (lv' := [(9, .int p1), (8, .int (-1 : Int32)), (7, .int (0 : Int32)), (0, .ref (am 0)), (1, .int p1), (2, .int p2), (3, .int p3), (4, .int p4), (5, .int p5), (6, .int p6)]) F.1 F.2.1 (dd D_X9_walks 26 rfl) hl (Nat.le_of_ble_eq_true rfl) rfl (fun ls hl => ?_)
          have L15 : ∀ (kf : Nat) (w7_L15 : Int32) (w8_L15 : Int32) (w9_L15 : Int32) (H : Heap) (locs : List Loc) (ls : Array Slot), va_P D vwCl (mW cA am s) H → va_D A (mW cA am s) → va_S A sM.heap H locs → lv_has ls 10 [(0, .ref (am 0)), (1, .int p1), (2, .int p2), (3, .int p3), (4, .int p4), (5, .int p5), (6, .int p6), (7, .int w7_L15), (8, .int w8_L15), (9, .int w9_L15)] → F_X9_walks_L52 n s p1 p2 p3 p4 p5 p6 kf w7_L15 w8_L15 w9_L15 = some r → Wrw 6 0 0 D A (exq (some (.int r.1)) (mW cA am r.2)) p l e sM m ([.ref (am 0), .int p1, .int p2, .int p3, .int p4, .int p5, .int p6] : List Value).toArray below meth c H locs 0 0 52 ls [] := by
            intro kf
            induction kf with
            | zero =>
              intro w7_L15 w8_L15 w9_L15 H locs ls hP hD hS hl h
              cases (show none = some r from h)
            | succ k_L15 ih_L15 =>
              intro w7_L15 w8_L15 w9_L15 H locs ls hP hD hS hl h
              unfold F_X9_walks_L52 at h
              refine lv_iload F.1 F.2.1 (dd D_X9_walks 27 rfl) (lv_at hl 9 rfl) ?_
              refine lv_iload_n F.1 F.2.1 (dd D_X9_walks 28 rfl) rfl (lv_at hl 1 rfl) ?_
              refine lv_iload_n F.1 F.2.1 (dd D_X9_walks 29 rfl) rfl (lv_at hl 2 rfl) ?_
              refine ro_go (st' := [.int (F_X9_lastOf p1 p2), .int w9_L15]) (rS (rest := [.int w9_L15]) F (c_X9_lastOf D cA p1 p2 l) lk_X9_273 (Nat.le_of_ble_eq_true rfl) (preRO hK hS hAb (emP)) rfl hl rfl (Nat.le_of_ble_eq_true rfl) (dd D_X9_walks 30 rfl) ⟨Nat.le_of_ble_eq_true rfl, Nat.le_of_ble_eq_true rfl⟩) rfl ?_
              refine x_icmp_gt (tgt := 101) F.1 F.2.1 (dd D_X9_walks 31 rfl) rfl h (fun c16 h => ?_) (fun c16 h => ?_)
              · refine lv_aload_n F.1 F.2.1 (dd D_X9_walks 49 rfl) rfl (lv_at hl 0 rfl) ?_
                refine lv_iload F.1 F.2.1 (dd D_X9_walks 50 rfl) (lv_at hl 7 rfl) ?_
                refine lv_iload F.1 F.2.1 (dd D_X9_walks 51 rfl) (lv_at hl 8 rfl) ?_
                refine lv_iload F.1 F.2.1 (dd D_X9_walks 52 rfl) (lv_at hl 6 rfl) ?_
                obtain ⟨r17, e18, h⟩ := Option.bind_eq_some_iff.mp h
                refine rwe_all (st' := [.int r17.1]) hD hS hA (rV (rest := []) F (c_X9_tellsOf D cA am s n w7_L15 w8_L15 p6 r17 e18 l H.size) lk_X9_279 (Nat.le_of_ble_eq_true rfl) (preRW hK hS hAb hP hD) (rcv_9 hK hP (q0 := (0)) (mp_0 cA am s)) rfl hl rfl (Nat.le_of_ble_eq_true rfl) (dd D_X9_walks 53 rfl) ⟨Nat.le_of_ble_eq_true rfl, Nat.le_of_ble_eq_true rfl⟩) rfl (fun H locs hP hD hS => ?_)
                obtain rfl := Option.some.inj h
                exact rw_i (R := rmOf 6 0 0) F hP hD hS hr hlk ⟨Nat.le_of_ble_eq_true rfl, Nat.le_of_ble_eq_true rfl⟩ ⟨rfl, rfl⟩ (dd D_X9_walks 54 rfl)
              · refine lv_aload_n F.1 F.2.1 (dd D_X9_walks 32 rfl) rfl (lv_at hl 0 rfl) ?_
                refine lv_iload F.1 F.2.1 (dd D_X9_walks 33 rfl) (lv_at hl 9 rfl) ?_
                refine lv_iload_n F.1 F.2.1 (dd D_X9_walks 34 rfl) rfl (lv_at hl 3 rfl) ?_
                refine lv_iload F.1 F.2.1 (dd D_X9_walks 35 rfl) (lv_at hl 4 rfl) ?_
                obtain ⟨r19, e20, h⟩ := Option.bind_eq_some_iff.mp h
                refine ro_go (st' := [.int r19]) (rV (rest := []) F (c_X9_shinesIn D cA am s n w9_L15 p3 p4 r19 e20 l) lk_X9_105 (Nat.le_of_ble_eq_true rfl) (preRO hK hS hAb hP) (rcv_9 hK hP (q0 := (0)) (mp_0 cA am s)) rfl hl rfl (Nat.le_of_ble_eq_true rfl) (dd D_X9_walks 36 rfl) ⟨Nat.le_of_ble_eq_true rfl, Nat.le_of_ble_eq_true rfl⟩) rfl ?_
                refine lv_iload F.1 F.2.1 (dd D_X9_walks 37 rfl) (lv_at hl 5 rfl) ?_
                refine x_icmp_lt (tgt := 95) F.1 F.2.1 (dd D_X9_walks 38 rfl) rfl h (fun c21 h => ?_) (fun c21 h => ?_)
                · refine lv_iinc (v := (w9_L15 + (1 : Int32))) (lv' := [(9, .int (w9_L15 + (1 : Int32))), (0, .ref (am 0)), (1, .int p1), (2, .int p2), (3, .int p3), (4, .int p4), (5, .int p5), (6, .int p6), (7, .int w7_L15), (8, .int w8_L15)]) F.1 F.2.1 (dd D_X9_walks 47 rfl) hl (k := 9) rfl (congrArg (fun z => w9_L15 + z) ki_1) (Nat.le_of_ble_eq_true rfl) rfl (fun ls hl => ?_)
                  refine lv_goto (tgt := 52) F.1 F.2.1 (dd D_X9_walks 48 rfl) rfl ?_
                  exact ih_L15 w7_L15 w8_L15 (w9_L15 + (1 : Int32)) _ _ ls hP hD hS (lv_sub hl [1, 2, 3, 4, 5, 6, 7, 8, 9, 0] rfl) h
                · refine lv_iload F.1 F.2.1 (dd D_X9_walks 39 rfl) (lv_at hl 7 rfl) ?_
                  refine lv_iload F.1 F.2.1 (dd D_X9_walks 40 rfl) (lv_at hl 6 rfl) ?_
                  refine x_icmp_ne (tgt := 88) F.1 F.2.1 (dd D_X9_walks 41 rfl) rfl h (fun c22 h => ?_) (fun c22 h => ?_)
                  · refine lv_iload F.1 F.2.1 (dd D_X9_walks 44 rfl) (lv_at hl 8 rfl) ?_
                    refine lv_istore (lv' := [(8, .int w8_L15), (0, .ref (am 0)), (1, .int p1), (2, .int p2), (3, .int p3), (4, .int p4), (5, .int p5), (6, .int p6), (7, .int w7_L15), (9, .int w9_L15)]) F.1 F.2.1 (dd D_X9_walks 45 rfl) hl (Nat.le_of_ble_eq_true rfl) rfl (fun ls hl => ?_)
                    refine lv_iinc (v := (w7_L15 + (1 : Int32))) (lv' := [(7, .int (w7_L15 + (1 : Int32))), (8, .int w8_L15), (0, .ref (am 0)), (1, .int p1), (2, .int p2), (3, .int p3), (4, .int p4), (5, .int p5), (6, .int p6), (9, .int w9_L15)]) F.1 F.2.1 (dd D_X9_walks 46 rfl) hl (k := 8) rfl (congrArg (fun z => w7_L15 + z) ki_1) (Nat.le_of_ble_eq_true rfl) rfl (fun ls hl => ?_)
                    refine lv_iinc (v := (w9_L15 + (1 : Int32))) (lv' := [(9, .int (w9_L15 + (1 : Int32))), (7, .int (w7_L15 + (1 : Int32))), (8, .int w8_L15), (0, .ref (am 0)), (1, .int p1), (2, .int p2), (3, .int p3), (4, .int p4), (5, .int p5), (6, .int p6)]) F.1 F.2.1 (dd D_X9_walks 47 rfl) hl (k := 9) rfl (congrArg (fun z => w9_L15 + z) ki_1) (Nat.le_of_ble_eq_true rfl) rfl (fun ls hl => ?_)
                    refine lv_goto (tgt := 52) F.1 F.2.1 (dd D_X9_walks 48 rfl) rfl ?_
                    exact ih_L15 (w7_L15 + (1 : Int32)) w8_L15 (w9_L15 + (1 : Int32)) _ _ ls hP hD hS (lv_sub hl [3, 4, 5, 6, 7, 8, 9, 1, 2, 0] rfl) h
                  · refine lv_iload F.1 F.2.1 (dd D_X9_walks 42 rfl) (lv_at hl 9 rfl) ?_
                    refine lv_goto (tgt := 90) F.1 F.2.1 (dd D_X9_walks 43 rfl) rfl ?_
                    refine lv_istore (lv' := [(8, .int w9_L15), (0, .ref (am 0)), (1, .int p1), (2, .int p2), (3, .int p3), (4, .int p4), (5, .int p5), (6, .int p6), (7, .int w7_L15), (9, .int w9_L15)]) F.1 F.2.1 (dd D_X9_walks 45 rfl) hl (Nat.le_of_ble_eq_true rfl) rfl (fun ls hl => ?_)
                    refine lv_iinc (v := (w7_L15 + (1 : Int32))) (lv' := [(7, .int (w7_L15 + (1 : Int32))), (8, .int w9_L15), (0, .ref (am 0)), (1, .int p1), (2, .int p2), (3, .int p3), (4, .int p4), (5, .int p5), (6, .int p6), (9, .int w9_L15)]) F.1 F.2.1 (dd D_X9_walks 46 rfl) hl (k := 8) rfl (congrArg (fun z => w7_L15 + z) ki_1) (Nat.le_of_ble_eq_true rfl) rfl (fun ls hl => ?_)
                    refine lv_iinc (v := (w9_L15 + (1 : Int32))) (lv' := [(9, .int (w9_L15 + (1 : Int32))), (7, .int (w7_L15 + (1 : Int32))), (8, .int w9_L15), (0, .ref (am 0)), (1, .int p1), (2, .int p2), (3, .int p3), (4, .int p4), (5, .int p5), (6, .int p6)]) F.1 F.2.1 (dd D_X9_walks 47 rfl) hl (k := 9) rfl (congrArg (fun z => w9_L15 + z) ki_1) (Nat.le_of_ble_eq_true rfl) rfl (fun ls hl => ?_)
                    refine lv_goto (tgt := 52) F.1 F.2.1 (dd D_X9_walks 48 rfl) rfl ?_
                    exact ih_L15 (w7_L15 + (1 : Int32)) w9_L15 (w9_L15 + (1 : Int32)) _ _ ls hP hD hS (lv_sub hl [3, 4, 5, 6, 7, 8, 9, 1, 2, 0] rfl) h
          exact L15 n (0 : Int32) (-1 : Int32) p1 _ _ ls hP hD hS (lv_sub hl [3, 4, 5, 6, 7, 8, 9, 2, 1, 0] rfl) h
        · refine lv_aload_n F.1 F.2.1 (dd D_X9_walks 17 rfl) rfl (lv_at hl 0 rfl) ?_
          refine lv_bipush (v := (-2 : Int32)) F.1 F.2.1 (dd D_X9_walks 18 rfl) kb_m2 ?_
          obtain ⟨r23, e24, h⟩ := Option.bind_eq_some_iff.mp h
          refine rwe_all (st' := [.int r23.1]) hD hS hA (rV (rest := []) F (c_X9_refuse D cA am s n (-2 : Int32) r23 e24 l H.size) lk_X9_79 (Nat.le_of_ble_eq_true rfl) (preRW hK hS hAb hP hD) (rcv_9 hK hP (q0 := (0)) (mp_0 cA am s)) rfl hl rfl (Nat.le_of_ble_eq_true rfl) (dd D_X9_walks 19 rfl) ⟨Nat.le_of_ble_eq_true rfl, Nat.le_of_ble_eq_true rfl⟩) rfl (fun H locs hP hD hS => ?_)
          obtain rfl := Option.some.inj h
          exact rw_i (R := rmOf 6 0 0) F hP hD hS hr hlk ⟨Nat.le_of_ble_eq_true rfl, Nat.le_of_ble_eq_true rfl⟩ ⟨rfl, rfl⟩ (dd D_X9_walks 20 rfl)
def F_X9_overs_L46 (n : Nat) (u0 : MS) (v1 : Int32) (v2 : Int32) (v3 : Int32) (v4 : Int32) : Nat → Int32 → Int32 → Int32 → Option (Int32 × MS)
  | 0, _, _, _ => none
  | kf + 1, w5, w6, w7 => (if (F_X9_lastOf v1 v2) < w7 then (((F_X9_tellsOf n u0 w5 w6 v4)).bind fun r7 => some (r7.1, r7.2)) else (((F_X9_behindOf n u0 w7)).bind fun r9 => (if r9 = v3 then (if w5 = v4 then F_X9_overs_L46 n u0 v1 v2 v3 v4 kf (w5 + (1 : Int32)) w7 (w7 + (1 : Int32)) else F_X9_overs_L46 n u0 v1 v2 v3 v4 kf (w5 + (1 : Int32)) w6 (w7 + (1 : Int32))) else F_X9_overs_L46 n u0 v1 v2 v3 v4 kf w5 w6 (w7 + (1 : Int32)))))
def F_X9_overs (n : Nat) (s : MS) (p1 : Int32) (p2 : Int32) (p3 : Int32) (p4 : Int32) : Option (Int32 × MS) := bf (F_X9_areDays p1 p2) (bf (F_X9_in (Int32.toInt64 p3) (0 : Int64) (Int32.toInt64 ((m_notches s) - (1 : Int32)))) ((if (-1 : Int32) ≤ p4 then F_X9_overs_L46 n s p1 p2 p3 p4 n (0 : Int32) (-1 : Int32) p1 else (((F_X9_refuse n s (-2 : Int32))).bind fun r21 => some (r21.1, r21.2)))) ((((F_X9_refuse n s (-2 : Int32))).bind fun r3 => some (r3.1, r3.2)))) ((((F_X9_refuse n s (-2 : Int32))).bind fun r1 => some (r1.1, r1.2)))
set_option maxHeartbeats 4000000 in
set_option maxRecDepth 100000 in
theorem c_X9_overs (D : va_G) (cA : Nat → ClassId) (am : Nat → Nat) (s : MS) (n : Nat) (p1 : Int32) (p2 : Int32) (p3 : Int32) (p4 : Int32) (r : (Int32 × MS)) (h : F_X9_overs n s p1 p2 p3 p4 = some r) : RW m_X9_overs 5 0 0 D cA [.ref (am 0), .int p1, .int p2, .int p3, .int p4] (mW cA am s) (exq (some (.int r.1)) (mW cA am r.2)) := by
  refine RW.ofW gy_X9_overs.2.2 (Nat.le_of_ble_eq_true rfl) ?_
  intro l p e sM m below meth c A H locs F hr hlk hnm hK hP hD hS hA hAb ls hl
  have hl : lv_has ls 8 [(0, .ref (am 0)), (1, .int p1), (2, .int p2), (3, .int p3), (4, .int p4)] := hl
  unfold F_X9_overs at h
  refine lv_iload_n F.1 F.2.1 (dd D_X9_overs 0 rfl) rfl (lv_at hl 1 rfl) ?_
  refine lv_iload_n F.1 F.2.1 (dd D_X9_overs 1 rfl) rfl (lv_at hl 2 rfl) ?_
  refine ro_go (st' := [.int (bI (F_X9_areDays p1 p2))]) (rS (rest := []) F (c_X9_areDays D cA p1 p2 l) lk_X9_276 (Nat.le_of_ble_eq_true rfl) (preRO hK hS hAb (emP)) rfl hl rfl (Nat.le_of_ble_eq_true rfl) (dd D_X9_overs 2 rfl) ⟨Nat.le_of_ble_eq_true rfl, Nat.le_of_ble_eq_true rfl⟩) rfl ?_
  refine x_bif_eq (tgt := 30) F.1 F.2.1 (dd D_X9_overs 3 rfl) rfl h (fun c24 h => ?_) (fun c24 h => ?_)
  · refine lv_aload_n F.1 F.2.1 (dd D_X9_overs 17 rfl) rfl (lv_at hl 0 rfl) ?_
    refine lv_bipush (v := (-2 : Int32)) F.1 F.2.1 (dd D_X9_overs 18 rfl) kb_m2 ?_
    obtain ⟨r1, e2, h⟩ := Option.bind_eq_some_iff.mp h
    refine rwe_all (st' := [.int r1.1]) hD hS hA (rV (rest := []) F (c_X9_refuse D cA am s n (-2 : Int32) r1 e2 l H.size) lk_X9_79 (Nat.le_of_ble_eq_true rfl) (preRW hK hS hAb hP hD) (rcv_9 hK hP (q0 := (0)) (mp_0 cA am s)) rfl hl rfl (Nat.le_of_ble_eq_true rfl) (dd D_X9_overs 19 rfl) ⟨Nat.le_of_ble_eq_true rfl, Nat.le_of_ble_eq_true rfl⟩) rfl (fun H locs hP hD hS => ?_)
    obtain rfl := Option.some.inj h
    exact rw_i (R := rmOf 5 0 0) F hP hD hS hr hlk ⟨Nat.le_of_ble_eq_true rfl, Nat.le_of_ble_eq_true rfl⟩ ⟨rfl, rfl⟩ (dd D_X9_overs 20 rfl)
  · refine lv_iload_n F.1 F.2.1 (dd D_X9_overs 4 rfl) rfl (lv_at hl 3 rfl) ?_
    refine lv_i2l (v := (Int32.toInt64 p3)) F.1 F.2.1 (dd D_X9_overs 5 rfl) rfl ?_
    refine lv_lconst (v := (0 : Int64)) F.1 F.2.1 (dd D_X9_overs 6 rfl) kl_0 ?_
    refine lv_aload_n F.1 F.2.1 (dd D_X9_overs 7 rfl) rfl (lv_at hl 0 rfl) ?_
    refine getF F hK hP lf_X9_116 (0) (mp_0 cA am s) rfl (dd D_X9_overs 8 rfl) ?_
    refine lv_iconst (v := (1 : Int32)) F.1 F.2.1 (dd D_X9_overs 9 rfl) ki_1 ?_
    refine lv_isub F.1 F.2.1 (dd D_X9_overs 10 rfl) ?_
    refine lv_i2l (v := (Int32.toInt64 ((m_notches s) - (1 : Int32)))) F.1 F.2.1 (dd D_X9_overs 11 rfl) rfl ?_
    refine ro_go (st' := [.int (bI (F_X9_in (Int32.toInt64 p3) (0 : Int64) (Int32.toInt64 ((m_notches s) - (1 : Int32)))))]) (rS (rest := []) F (c_X9_in D cA (Int32.toInt64 p3) (0 : Int64) (Int32.toInt64 ((m_notches s) - (1 : Int32))) l) lk_X9_63 (Nat.le_of_ble_eq_true rfl) (preRO hK hS hAb (emP)) rfl hl rfl (Nat.le_of_ble_eq_true rfl) (dd D_X9_overs 12 rfl) ⟨Nat.le_of_ble_eq_true rfl, Nat.le_of_ble_eq_true rfl⟩) rfl ?_
    refine x_bif_eq (tgt := 30) F.1 F.2.1 (dd D_X9_overs 13 rfl) rfl h (fun c23 h => ?_) (fun c23 h => ?_)
    · refine lv_aload_n F.1 F.2.1 (dd D_X9_overs 17 rfl) rfl (lv_at hl 0 rfl) ?_
      refine lv_bipush (v := (-2 : Int32)) F.1 F.2.1 (dd D_X9_overs 18 rfl) kb_m2 ?_
      obtain ⟨r3, e4, h⟩ := Option.bind_eq_some_iff.mp h
      refine rwe_all (st' := [.int r3.1]) hD hS hA (rV (rest := []) F (c_X9_refuse D cA am s n (-2 : Int32) r3 e4 l H.size) lk_X9_79 (Nat.le_of_ble_eq_true rfl) (preRW hK hS hAb hP hD) (rcv_9 hK hP (q0 := (0)) (mp_0 cA am s)) rfl hl rfl (Nat.le_of_ble_eq_true rfl) (dd D_X9_overs 19 rfl) ⟨Nat.le_of_ble_eq_true rfl, Nat.le_of_ble_eq_true rfl⟩) rfl (fun H locs hP hD hS => ?_)
      obtain rfl := Option.some.inj h
      exact rw_i (R := rmOf 5 0 0) F hP hD hS hr hlk ⟨Nat.le_of_ble_eq_true rfl, Nat.le_of_ble_eq_true rfl⟩ ⟨rfl, rfl⟩ (dd D_X9_overs 20 rfl)
    · refine lv_iload F.1 F.2.1 (dd D_X9_overs 14 rfl) (lv_at hl 4 rfl) ?_
      refine lv_iconst (v := (-1 : Int32)) F.1 F.2.1 (dd D_X9_overs 15 rfl) ki_m1 ?_
      refine x_icmp_ge (tgt := 37) F.1 F.2.1 (dd D_X9_overs 16 rfl) rfl h (fun c5 h => ?_) (fun c5 h => ?_)
      · refine lv_iconst (v := (0 : Int32)) F.1 F.2.1 (dd D_X9_overs 21 rfl) ki_0 ?_
        refine lv_istore (lv' := [(5, .int (0 : Int32)), (0, .ref (am 0)), (1, .int p1), (2, .int p2), (3, .int p3), (4, .int p4)]) F.1 F.2.1 (dd D_X9_overs 22 rfl) hl (Nat.le_of_ble_eq_true rfl) rfl (fun ls hl => ?_)
        refine lv_iconst (v := (-1 : Int32)) F.1 F.2.1 (dd D_X9_overs 23 rfl) ki_m1 ?_
        refine lv_istore (lv' := [(6, .int (-1 : Int32)), (5, .int (0 : Int32)), (0, .ref (am 0)), (1, .int p1), (2, .int p2), (3, .int p3), (4, .int p4)]) F.1 F.2.1 (dd D_X9_overs 24 rfl) hl (Nat.le_of_ble_eq_true rfl) rfl (fun ls hl => ?_)
        refine lv_iload_n F.1 F.2.1 (dd D_X9_overs 25 rfl) rfl (lv_at hl 3 rfl) ?_
        refine lv_istore (lv' := [(7, .int p1), (6, .int (-1 : Int32)), (5, .int (0 : Int32)), (0, .ref (am 0)), (1, .int p1), (2, .int p2), (3, .int p3), (4, .int p4)]) F.1 F.2.1 (dd D_X9_overs 26 rfl) hl (Nat.le_of_ble_eq_true rfl) rfl (fun ls hl => ?_)
        have L13 : ∀ (kf : Nat) (w5_L13 : Int32) (w6_L13 : Int32) (w7_L13 : Int32) (H : Heap) (locs : List Loc) (ls : Array Slot), va_P D vwCl (mW cA am s) H → va_D A (mW cA am s) → va_S A sM.heap H locs → lv_has ls 8 [(0, .ref (am 0)), (1, .int p1), (2, .int p2), (3, .int p3), (4, .int p4), (5, .int w5_L13), (6, .int w6_L13), (7, .int w7_L13)] → F_X9_overs_L46 n s p1 p2 p3 p4 kf w5_L13 w6_L13 w7_L13 = some r → Wrw 5 0 0 D A (exq (some (.int r.1)) (mW cA am r.2)) p l e sM m ([.ref (am 0), .int p1, .int p2, .int p3, .int p4] : List Value).toArray below meth c H locs 0 0 46 ls [] := by
          intro kf
          induction kf with
          | zero =>
            intro w5_L13 w6_L13 w7_L13 H locs ls hP hD hS hl h
            cases (show none = some r from h)
          | succ k_L13 ih_L13 =>
            intro w5_L13 w6_L13 w7_L13 H locs ls hP hD hS hl h
            unfold F_X9_overs_L46 at h
            refine lv_iload F.1 F.2.1 (dd D_X9_overs 27 rfl) (lv_at hl 7 rfl) ?_
            refine lv_iload_n F.1 F.2.1 (dd D_X9_overs 28 rfl) rfl (lv_at hl 1 rfl) ?_
            refine lv_iload_n F.1 F.2.1 (dd D_X9_overs 29 rfl) rfl (lv_at hl 2 rfl) ?_
            refine ro_go (st' := [.int (F_X9_lastOf p1 p2), .int w7_L13]) (rS (rest := [.int w7_L13]) F (c_X9_lastOf D cA p1 p2 l) lk_X9_273 (Nat.le_of_ble_eq_true rfl) (preRO hK hS hAb (emP)) rfl hl rfl (Nat.le_of_ble_eq_true rfl) (dd D_X9_overs 30 rfl) ⟨Nat.le_of_ble_eq_true rfl, Nat.le_of_ble_eq_true rfl⟩) rfl ?_
            refine x_icmp_gt (tgt := 91) F.1 F.2.1 (dd D_X9_overs 31 rfl) rfl h (fun c14 h => ?_) (fun c14 h => ?_)
            · refine lv_aload_n F.1 F.2.1 (dd D_X9_overs 47 rfl) rfl (lv_at hl 0 rfl) ?_
              refine lv_iload F.1 F.2.1 (dd D_X9_overs 48 rfl) (lv_at hl 5 rfl) ?_
              refine lv_iload F.1 F.2.1 (dd D_X9_overs 49 rfl) (lv_at hl 6 rfl) ?_
              refine lv_iload F.1 F.2.1 (dd D_X9_overs 50 rfl) (lv_at hl 4 rfl) ?_
              obtain ⟨r15, e16, h⟩ := Option.bind_eq_some_iff.mp h
              refine rwe_all (st' := [.int r15.1]) hD hS hA (rV (rest := []) F (c_X9_tellsOf D cA am s n w5_L13 w6_L13 p4 r15 e16 l H.size) lk_X9_279 (Nat.le_of_ble_eq_true rfl) (preRW hK hS hAb hP hD) (rcv_9 hK hP (q0 := (0)) (mp_0 cA am s)) rfl hl rfl (Nat.le_of_ble_eq_true rfl) (dd D_X9_overs 51 rfl) ⟨Nat.le_of_ble_eq_true rfl, Nat.le_of_ble_eq_true rfl⟩) rfl (fun H locs hP hD hS => ?_)
              obtain rfl := Option.some.inj h
              exact rw_i (R := rmOf 5 0 0) F hP hD hS hr hlk ⟨Nat.le_of_ble_eq_true rfl, Nat.le_of_ble_eq_true rfl⟩ ⟨rfl, rfl⟩ (dd D_X9_overs 52 rfl)
            · refine lv_aload_n F.1 F.2.1 (dd D_X9_overs 32 rfl) rfl (lv_at hl 0 rfl) ?_
              refine lv_iload F.1 F.2.1 (dd D_X9_overs 33 rfl) (lv_at hl 7 rfl) ?_
              obtain ⟨r17, e18, h⟩ := Option.bind_eq_some_iff.mp h
              refine ro_go (st' := [.int r17]) (rV (rest := []) F (c_X9_behindOf D cA am s n w7_L13 r17 e18 l) lk_X9_260 (Nat.le_of_ble_eq_true rfl) (preRO hK hS hAb hP) (rcv_9 hK hP (q0 := (0)) (mp_0 cA am s)) rfl hl rfl (Nat.le_of_ble_eq_true rfl) (dd D_X9_overs 34 rfl) ⟨Nat.le_of_ble_eq_true rfl, Nat.le_of_ble_eq_true rfl⟩) rfl ?_
              refine lv_iload_n F.1 F.2.1 (dd D_X9_overs 35 rfl) rfl (lv_at hl 3 rfl) ?_
              refine x_icmp_ne (tgt := 85) F.1 F.2.1 (dd D_X9_overs 36 rfl) rfl h (fun c19 h => ?_) (fun c19 h => ?_)
              · refine lv_iinc (v := (w7_L13 + (1 : Int32))) (lv' := [(7, .int (w7_L13 + (1 : Int32))), (0, .ref (am 0)), (1, .int p1), (2, .int p2), (3, .int p3), (4, .int p4), (5, .int w5_L13), (6, .int w6_L13)]) F.1 F.2.1 (dd D_X9_overs 45 rfl) hl (k := 7) rfl (congrArg (fun z => w7_L13 + z) ki_1) (Nat.le_of_ble_eq_true rfl) rfl (fun ls hl => ?_)
                refine lv_goto (tgt := 46) F.1 F.2.1 (dd D_X9_overs 46 rfl) rfl ?_
                exact ih_L13 w5_L13 w6_L13 (w7_L13 + (1 : Int32)) _ _ ls hP hD hS (lv_sub hl [1, 2, 3, 4, 5, 6, 7, 0] rfl) h
              · refine lv_iload F.1 F.2.1 (dd D_X9_overs 37 rfl) (lv_at hl 5 rfl) ?_
                refine lv_iload F.1 F.2.1 (dd D_X9_overs 38 rfl) (lv_at hl 4 rfl) ?_
                refine x_icmp_ne (tgt := 78) F.1 F.2.1 (dd D_X9_overs 39 rfl) rfl h (fun c20 h => ?_) (fun c20 h => ?_)
                · refine lv_iload F.1 F.2.1 (dd D_X9_overs 42 rfl) (lv_at hl 6 rfl) ?_
                  refine lv_istore (lv' := [(6, .int w6_L13), (0, .ref (am 0)), (1, .int p1), (2, .int p2), (3, .int p3), (4, .int p4), (5, .int w5_L13), (7, .int w7_L13)]) F.1 F.2.1 (dd D_X9_overs 43 rfl) hl (Nat.le_of_ble_eq_true rfl) rfl (fun ls hl => ?_)
                  refine lv_iinc (v := (w5_L13 + (1 : Int32))) (lv' := [(5, .int (w5_L13 + (1 : Int32))), (6, .int w6_L13), (0, .ref (am 0)), (1, .int p1), (2, .int p2), (3, .int p3), (4, .int p4), (7, .int w7_L13)]) F.1 F.2.1 (dd D_X9_overs 44 rfl) hl (k := 6) rfl (congrArg (fun z => w5_L13 + z) ki_1) (Nat.le_of_ble_eq_true rfl) rfl (fun ls hl => ?_)
                  refine lv_iinc (v := (w7_L13 + (1 : Int32))) (lv' := [(7, .int (w7_L13 + (1 : Int32))), (5, .int (w5_L13 + (1 : Int32))), (6, .int w6_L13), (0, .ref (am 0)), (1, .int p1), (2, .int p2), (3, .int p3), (4, .int p4)]) F.1 F.2.1 (dd D_X9_overs 45 rfl) hl (k := 7) rfl (congrArg (fun z => w7_L13 + z) ki_1) (Nat.le_of_ble_eq_true rfl) rfl (fun ls hl => ?_)
                  refine lv_goto (tgt := 46) F.1 F.2.1 (dd D_X9_overs 46 rfl) rfl ?_
                  exact ih_L13 (w5_L13 + (1 : Int32)) w6_L13 (w7_L13 + (1 : Int32)) _ _ ls hP hD hS (lv_sub hl [3, 4, 5, 6, 7, 1, 2, 0] rfl) h
                · refine lv_iload F.1 F.2.1 (dd D_X9_overs 40 rfl) (lv_at hl 7 rfl) ?_
                  refine lv_goto (tgt := 80) F.1 F.2.1 (dd D_X9_overs 41 rfl) rfl ?_
                  refine lv_istore (lv' := [(6, .int w7_L13), (0, .ref (am 0)), (1, .int p1), (2, .int p2), (3, .int p3), (4, .int p4), (5, .int w5_L13), (7, .int w7_L13)]) F.1 F.2.1 (dd D_X9_overs 43 rfl) hl (Nat.le_of_ble_eq_true rfl) rfl (fun ls hl => ?_)
                  refine lv_iinc (v := (w5_L13 + (1 : Int32))) (lv' := [(5, .int (w5_L13 + (1 : Int32))), (6, .int w7_L13), (0, .ref (am 0)), (1, .int p1), (2, .int p2), (3, .int p3), (4, .int p4), (7, .int w7_L13)]) F.1 F.2.1 (dd D_X9_overs 44 rfl) hl (k := 6) rfl (congrArg (fun z => w5_L13 + z) ki_1) (Nat.le_of_ble_eq_true rfl) rfl (fun ls hl => ?_)
                  refine lv_iinc (v := (w7_L13 + (1 : Int32))) (lv' := [(7, .int (w7_L13 + (1 : Int32))), (5, .int (w5_L13 + (1 : Int32))), (6, .int w7_L13), (0, .ref (am 0)), (1, .int p1), (2, .int p2), (3, .int p3), (4, .int p4)]) F.1 F.2.1 (dd D_X9_overs 45 rfl) hl (k := 7) rfl (congrArg (fun z => w7_L13 + z) ki_1) (Nat.le_of_ble_eq_true rfl) rfl (fun ls hl => ?_)
                  refine lv_goto (tgt := 46) F.1 F.2.1 (dd D_X9_overs 46 rfl) rfl ?_
                  exact ih_L13 (w5_L13 + (1 : Int32)) w7_L13 (w7_L13 + (1 : Int32)) _ _ ls hP hD hS (lv_sub hl [3, 4, 5, 6, 7, 1, 2, 0] rfl) h
        exact L13 n (0 : Int32) (-1 : Int32) p1 _ _ ls hP hD hS (lv_sub hl [3, 4, 5, 6, 7, 2, 1, 0] rfl) h
      · refine lv_aload_n F.1 F.2.1 (dd D_X9_overs 17 rfl) rfl (lv_at hl 0 rfl) ?_
        refine lv_bipush (v := (-2 : Int32)) F.1 F.2.1 (dd D_X9_overs 18 rfl) kb_m2 ?_
        obtain ⟨r21, e22, h⟩ := Option.bind_eq_some_iff.mp h
        refine rwe_all (st' := [.int r21.1]) hD hS hA (rV (rest := []) F (c_X9_refuse D cA am s n (-2 : Int32) r21 e22 l H.size) lk_X9_79 (Nat.le_of_ble_eq_true rfl) (preRW hK hS hAb hP hD) (rcv_9 hK hP (q0 := (0)) (mp_0 cA am s)) rfl hl rfl (Nat.le_of_ble_eq_true rfl) (dd D_X9_overs 19 rfl) ⟨Nat.le_of_ble_eq_true rfl, Nat.le_of_ble_eq_true rfl⟩) rfl (fun H locs hP hD hS => ?_)
        obtain rfl := Option.some.inj h
        exact rw_i (R := rmOf 5 0 0) F hP hD hS hr hlk ⟨Nat.le_of_ble_eq_true rfl, Nat.le_of_ble_eq_true rfl⟩ ⟨rfl, rfl⟩ (dd D_X9_overs 20 rfl)
def F_X9_alike_L25 (n : Nat) (u0 : MS) (v1 : Int32) : Nat → Int32 → Int32 → Option (Int32 × MS)
  | 0, _, _ => none
  | kf + 1, w2, w3 => (if (v1 + (8 : Int32)) ≤ w3 then some (w2, u0) else (((F_X9_later n u0 w3)).bind fun r2 => (((F_X9_later n u0 w2)).bind fun r4 => (if r4 ≤ r2 then F_X9_alike_L25 n u0 v1 kf w2 (w3 + (1 : Int32)) else F_X9_alike_L25 n u0 v1 kf w3 (w3 + (1 : Int32))))))
def F_X9_alike (n : Nat) (s : MS) (p1 : Int32) : Option (Int32 × MS) := bf (F_X9_in (Int32.toInt64 p1) (0 : Int64) (9991 : Int64)) (F_X9_alike_L25 n s p1 n p1 (p1 + (1 : Int32))) ((((F_X9_refuse n s (-2 : Int32))).bind fun r14 => some (r14.1, r14.2)))
set_option maxHeartbeats 4000000 in
set_option maxRecDepth 100000 in
theorem c_X9_alike (D : va_G) (cA : Nat → ClassId) (am : Nat → Nat) (s : MS) (n : Nat) (p1 : Int32) (r : (Int32 × MS)) (h : F_X9_alike n s p1 = some r) : RW m_X9_alike 6 0 0 D cA [.ref (am 0), .int p1] (mW cA am s) (exq (some (.int r.1)) (mW cA am r.2)) := by
  refine RW.ofW gy_X9_alike.2.2 (Nat.le_of_ble_eq_true rfl) ?_
  intro l p e sM m below meth c A H locs F hr hlk hnm hK hP hD hS hA hAb ls hl
  have hl : lv_has ls 4 [(0, .ref (am 0)), (1, .int p1)] := hl
  unfold F_X9_alike at h
  refine lv_iload_n F.1 F.2.1 (dd D_X9_alike 0 rfl) rfl (lv_at hl 1 rfl) ?_
  refine lv_i2l (v := (Int32.toInt64 p1)) F.1 F.2.1 (dd D_X9_alike 1 rfl) rfl ?_
  refine lv_lconst (v := (0 : Int64)) F.1 F.2.1 (dd D_X9_alike 2 rfl) kl_0 ?_
  refine lv_ldc2 (own := RX9) (v := (9991 : Int64)) F.1 F.2.1 F.2.2.2.1 (F.2.2.2.2 _ (kL_X9_284)) (dd D_X9_alike 3 rfl) ?_
  refine ro_go (st' := [.int (bI (F_X9_in (Int32.toInt64 p1) (0 : Int64) (9991 : Int64)))]) (rS (rest := []) F (c_X9_in D cA (Int32.toInt64 p1) (0 : Int64) (9991 : Int64) l) lk_X9_63 (Nat.le_of_ble_eq_true rfl) (preRO hK hS hAb (emP)) rfl hl rfl (Nat.le_of_ble_eq_true rfl) (dd D_X9_alike 4 rfl) ⟨Nat.le_of_ble_eq_true rfl, Nat.le_of_ble_eq_true rfl⟩) rfl ?_
  refine x_bif_ne (tgt := 19) F.1 F.2.1 (dd D_X9_alike 5 rfl) rfl h (fun c16 h => ?_) (fun c16 h => ?_)
  · refine lv_iload_n F.1 F.2.1 (dd D_X9_alike 10 rfl) rfl (lv_at hl 1 rfl) ?_
    refine lv_istore_n (lv' := [(2, .int p1), (0, .ref (am 0)), (1, .int p1)]) F.1 F.2.1 (dd D_X9_alike 11 rfl) rfl hl (Nat.le_of_ble_eq_true rfl) rfl (fun ls hl => ?_)
    refine lv_iload_n F.1 F.2.1 (dd D_X9_alike 12 rfl) rfl (lv_at hl 2 rfl) ?_
    refine lv_iconst (v := (1 : Int32)) F.1 F.2.1 (dd D_X9_alike 13 rfl) ki_1 ?_
    refine lv_iadd F.1 F.2.1 (dd D_X9_alike 14 rfl) ?_
    refine lv_istore_n (lv' := [(3, .int (p1 + (1 : Int32))), (2, .int p1), (0, .ref (am 0)), (1, .int p1)]) F.1 F.2.1 (dd D_X9_alike 15 rfl) rfl hl (Nat.le_of_ble_eq_true rfl) rfl (fun ls hl => ?_)
    have L7 : ∀ (kf : Nat) (w2_L7 : Int32) (w3_L7 : Int32) (H : Heap) (locs : List Loc) (ls : Array Slot), va_P D vwCl (mW cA am s) H → va_D A (mW cA am s) → va_S A sM.heap H locs → lv_has ls 4 [(0, .ref (am 0)), (1, .int p1), (2, .int w2_L7), (3, .int w3_L7)] → F_X9_alike_L25 n s p1 kf w2_L7 w3_L7 = some r → Wrw 6 0 0 D A (exq (some (.int r.1)) (mW cA am r.2)) p l e sM m ([.ref (am 0), .int p1] : List Value).toArray below meth c H locs 0 0 25 ls [] := by
      intro kf
      induction kf with
      | zero =>
        intro w2_L7 w3_L7 H locs ls hP hD hS hl h
        cases (show none = some r from h)
      | succ k_L7 ih_L7 =>
        intro w2_L7 w3_L7 H locs ls hP hD hS hl h
        unfold F_X9_alike_L25 at h
        refine lv_iload_n F.1 F.2.1 (dd D_X9_alike 16 rfl) rfl (lv_at hl 3 rfl) ?_
        refine lv_iload_n F.1 F.2.1 (dd D_X9_alike 17 rfl) rfl (lv_at hl 1 rfl) ?_
        refine lv_bipush (v := (8 : Int32)) F.1 F.2.1 (dd D_X9_alike 18 rfl) kb_8 ?_
        refine lv_iadd F.1 F.2.1 (dd D_X9_alike 19 rfl) ?_
        refine x_icmp_ge (tgt := 58) F.1 F.2.1 (dd D_X9_alike 20 rfl) rfl h (fun c8 h => ?_) (fun c8 h => ?_)
        · refine lv_iload_n F.1 F.2.1 (dd D_X9_alike 34 rfl) rfl (lv_at hl 2 rfl) ?_
          obtain rfl := Option.some.inj h
          exact rw_i (R := rmOf 6 0 0) F hP hD hS hr hlk ⟨Nat.le_of_ble_eq_true rfl, Nat.le_of_ble_eq_true rfl⟩ ⟨rfl, rfl⟩ (dd D_X9_alike 35 rfl)
        · refine lv_aload_n F.1 F.2.1 (dd D_X9_alike 21 rfl) rfl (lv_at hl 0 rfl) ?_
          refine lv_iload_n F.1 F.2.1 (dd D_X9_alike 22 rfl) rfl (lv_at hl 3 rfl) ?_
          obtain ⟨r9, e10, h⟩ := Option.bind_eq_some_iff.mp h
          refine ro_go (st' := [.int r9]) (rV (rest := []) F (c_X9_later D cA am s n w3_L7 r9 e10 l) lk_X9_99 (Nat.le_of_ble_eq_true rfl) (preRO hK hS hAb hP) (rcv_9 hK hP (q0 := (0)) (mp_0 cA am s)) rfl hl rfl (Nat.le_of_ble_eq_true rfl) (dd D_X9_alike 23 rfl) ⟨Nat.le_of_ble_eq_true rfl, Nat.le_of_ble_eq_true rfl⟩) rfl ?_
          refine lv_aload_n F.1 F.2.1 (dd D_X9_alike 24 rfl) rfl (lv_at hl 0 rfl) ?_
          refine lv_iload_n F.1 F.2.1 (dd D_X9_alike 25 rfl) rfl (lv_at hl 2 rfl) ?_
          obtain ⟨r11, e12, h⟩ := Option.bind_eq_some_iff.mp h
          refine ro_go (st' := [.int r11, .int r9]) (rV (rest := [.int r9]) F (c_X9_later D cA am s n w2_L7 r11 e12 l) lk_X9_99 (Nat.le_of_ble_eq_true rfl) (preRO hK hS hAb hP) (rcv_9 hK hP (q0 := (0)) (mp_0 cA am s)) rfl hl rfl (Nat.le_of_ble_eq_true rfl) (dd D_X9_alike 26 rfl) ⟨Nat.le_of_ble_eq_true rfl, Nat.le_of_ble_eq_true rfl⟩) rfl ?_
          refine x_icmp_ge (tgt := 50) F.1 F.2.1 (dd D_X9_alike 27 rfl) rfl h (fun c13 h => ?_) (fun c13 h => ?_)
          · refine lv_iload_n F.1 F.2.1 (dd D_X9_alike 30 rfl) rfl (lv_at hl 2 rfl) ?_
            refine lv_istore_n (lv' := [(2, .int w2_L7), (0, .ref (am 0)), (1, .int p1), (3, .int w3_L7)]) F.1 F.2.1 (dd D_X9_alike 31 rfl) rfl hl (Nat.le_of_ble_eq_true rfl) rfl (fun ls hl => ?_)
            refine lv_iinc (v := (w3_L7 + (1 : Int32))) (lv' := [(3, .int (w3_L7 + (1 : Int32))), (2, .int w2_L7), (0, .ref (am 0)), (1, .int p1)]) F.1 F.2.1 (dd D_X9_alike 32 rfl) hl (k := 3) rfl (congrArg (fun z => w3_L7 + z) ki_1) (Nat.le_of_ble_eq_true rfl) rfl (fun ls hl => ?_)
            refine lv_goto (tgt := 25) F.1 F.2.1 (dd D_X9_alike 33 rfl) rfl ?_
            exact ih_L7 w2_L7 (w3_L7 + (1 : Int32)) _ _ ls hP hD hS (lv_sub hl [2, 3, 1, 0] rfl) h
          · refine lv_iload_n F.1 F.2.1 (dd D_X9_alike 28 rfl) rfl (lv_at hl 3 rfl) ?_
            refine lv_goto (tgt := 51) F.1 F.2.1 (dd D_X9_alike 29 rfl) rfl ?_
            refine lv_istore_n (lv' := [(2, .int w3_L7), (0, .ref (am 0)), (1, .int p1), (3, .int w3_L7)]) F.1 F.2.1 (dd D_X9_alike 31 rfl) rfl hl (Nat.le_of_ble_eq_true rfl) rfl (fun ls hl => ?_)
            refine lv_iinc (v := (w3_L7 + (1 : Int32))) (lv' := [(3, .int (w3_L7 + (1 : Int32))), (2, .int w3_L7), (0, .ref (am 0)), (1, .int p1)]) F.1 F.2.1 (dd D_X9_alike 32 rfl) hl (k := 3) rfl (congrArg (fun z => w3_L7 + z) ki_1) (Nat.le_of_ble_eq_true rfl) rfl (fun ls hl => ?_)
            refine lv_goto (tgt := 25) F.1 F.2.1 (dd D_X9_alike 33 rfl) rfl ?_
            exact ih_L7 w3_L7 (w3_L7 + (1 : Int32)) _ _ ls hP hD hS (lv_sub hl [2, 3, 1, 0] rfl) h
    exact L7 n p1 (p1 + (1 : Int32)) _ _ ls hP hD hS (lv_sub hl [2, 3, 1, 0] rfl) h
  · refine lv_aload_n F.1 F.2.1 (dd D_X9_alike 6 rfl) rfl (lv_at hl 0 rfl) ?_
    refine lv_bipush (v := (-2 : Int32)) F.1 F.2.1 (dd D_X9_alike 7 rfl) kb_m2 ?_
    obtain ⟨r14, e15, h⟩ := Option.bind_eq_some_iff.mp h
    refine rwe_all (st' := [.int r14.1]) hD hS hA (rV (rest := []) F (c_X9_refuse D cA am s n (-2 : Int32) r14 e15 l H.size) lk_X9_79 (Nat.le_of_ble_eq_true rfl) (preRW hK hS hAb hP hD) (rcv_9 hK hP (q0 := (0)) (mp_0 cA am s)) rfl hl rfl (Nat.le_of_ble_eq_true rfl) (dd D_X9_alike 8 rfl) ⟨Nat.le_of_ble_eq_true rfl, Nat.le_of_ble_eq_true rfl⟩) rfl (fun H locs hP hD hS => ?_)
    obtain rfl := Option.some.inj h
    exact rw_i (R := rmOf 6 0 0) F hP hD hS hr hlk ⟨Nat.le_of_ble_eq_true rfl, Nat.le_of_ble_eq_true rfl⟩ ⟨rfl, rfl⟩ (dd D_X9_alike 9 rfl)
def F_X9_lates_L41 (n : Nat) (u0 : MS) (v1 : Int32) (v2 : Int32) (v3 : Int32) : Nat → Int32 → Int32 → Int32 → Int32 → Option (Int32 × MS)
  | 0, _, _, _, _ => none
  | kf + 1, w4, w5, w6, w7 => (if (F_X9_lastOf v1 v2) < w7 then (if w5 = (-1 : Int32) then (((F_X9_refuse n u0 (-5 : Int32))).bind fun r7 => some (r7.1, r7.2)) else (if v3 = 0 then some (w4, u0) else (if v3 = (1 : Int32) then some (w5, u0) else some (w6, u0)))) else (if (9999 : Int32) ≤ w7 then (if w5 = (-1 : Int32) then (((F_X9_refuse n u0 (-5 : Int32))).bind fun r13 => some (r13.1, r13.2)) else (if v3 = 0 then some (w4, u0) else (if v3 = (1 : Int32) then some (w5, u0) else some (w6, u0)))) else (((F_X9_later n u0 w7)).bind fun r15 => (if w4 ≤ r15 then (if r15 ≤ w5 then F_X9_lates_L41 n u0 v1 v2 v3 kf w4 w5 (w6 + r15) (w7 + (1 : Int32)) else F_X9_lates_L41 n u0 v1 v2 v3 kf w4 r15 (w6 + r15) (w7 + (1 : Int32))) else (if r15 ≤ w5 then F_X9_lates_L41 n u0 v1 v2 v3 kf r15 w5 (w6 + r15) (w7 + (1 : Int32)) else F_X9_lates_L41 n u0 v1 v2 v3 kf r15 r15 (w6 + r15) (w7 + (1 : Int32)))))))
def F_X9_lates (n : Nat) (s : MS) (p1 : Int32) (p2 : Int32) (p3 : Int32) : Option (Int32 × MS) := bf (F_X9_areDays p1 p2) (bf (F_X9_in (Int32.toInt64 p3) (0 : Int64) (2 : Int64)) (F_X9_lates_L41 n s p1 p2 p3 n (1440 : Int32) (-1 : Int32) (0 : Int32) p1) ((((F_X9_refuse n s (-2 : Int32))).bind fun r38 => some (r38.1, r38.2)))) ((((F_X9_refuse n s (-2 : Int32))).bind fun r1 => some (r1.1, r1.2)))
set_option maxHeartbeats 4000000 in
set_option maxRecDepth 100000 in
theorem c_X9_lates (D : va_G) (cA : Nat → ClassId) (am : Nat → Nat) (s : MS) (n : Nat) (p1 : Int32) (p2 : Int32) (p3 : Int32) (r : (Int32 × MS)) (h : F_X9_lates n s p1 p2 p3 = some r) : RW m_X9_lates 6 0 0 D cA [.ref (am 0), .int p1, .int p2, .int p3] (mW cA am s) (exq (some (.int r.1)) (mW cA am r.2)) := by
  refine RW.ofW gy_X9_lates.2.2 (Nat.le_of_ble_eq_true rfl) ?_
  intro l p e sM m below meth c A H locs F hr hlk hnm hK hP hD hS hA hAb ls hl
  have hl : lv_has ls 9 [(0, .ref (am 0)), (1, .int p1), (2, .int p2), (3, .int p3)] := hl
  unfold F_X9_lates at h
  refine lv_iload_n F.1 F.2.1 (dd D_X9_lates 0 rfl) rfl (lv_at hl 1 rfl) ?_
  refine lv_iload_n F.1 F.2.1 (dd D_X9_lates 1 rfl) rfl (lv_at hl 2 rfl) ?_
  refine ro_go (st' := [.int (bI (F_X9_areDays p1 p2))]) (rS (rest := []) F (c_X9_areDays D cA p1 p2 l) lk_X9_276 (Nat.le_of_ble_eq_true rfl) (preRO hK hS hAb (emP)) rfl hl rfl (Nat.le_of_ble_eq_true rfl) (dd D_X9_lates 2 rfl) ⟨Nat.le_of_ble_eq_true rfl, Nat.le_of_ble_eq_true rfl⟩) rfl ?_
  refine x_bif_eq (tgt := 20) F.1 F.2.1 (dd D_X9_lates 3 rfl) rfl h (fun c41 h => ?_) (fun c41 h => ?_)
  · refine lv_aload_n F.1 F.2.1 (dd D_X9_lates 10 rfl) rfl (lv_at hl 0 rfl) ?_
    refine lv_bipush (v := (-2 : Int32)) F.1 F.2.1 (dd D_X9_lates 11 rfl) kb_m2 ?_
    obtain ⟨r1, e2, h⟩ := Option.bind_eq_some_iff.mp h
    refine rwe_all (st' := [.int r1.1]) hD hS hA (rV (rest := []) F (c_X9_refuse D cA am s n (-2 : Int32) r1 e2 l H.size) lk_X9_79 (Nat.le_of_ble_eq_true rfl) (preRW hK hS hAb hP hD) (rcv_9 hK hP (q0 := (0)) (mp_0 cA am s)) rfl hl rfl (Nat.le_of_ble_eq_true rfl) (dd D_X9_lates 12 rfl) ⟨Nat.le_of_ble_eq_true rfl, Nat.le_of_ble_eq_true rfl⟩) rfl (fun H locs hP hD hS => ?_)
    obtain rfl := Option.some.inj h
    exact rw_i (R := rmOf 6 0 0) F hP hD hS hr hlk ⟨Nat.le_of_ble_eq_true rfl, Nat.le_of_ble_eq_true rfl⟩ ⟨rfl, rfl⟩ (dd D_X9_lates 13 rfl)
  · refine lv_iload_n F.1 F.2.1 (dd D_X9_lates 4 rfl) rfl (lv_at hl 3 rfl) ?_
    refine lv_i2l (v := (Int32.toInt64 p3)) F.1 F.2.1 (dd D_X9_lates 5 rfl) rfl ?_
    refine lv_lconst (v := (0 : Int64)) F.1 F.2.1 (dd D_X9_lates 6 rfl) kl_0 ?_
    refine lv_ldc2 (own := RX9) (v := (2 : Int64)) F.1 F.2.1 F.2.2.2.1 (F.2.2.2.2 _ (kL_X9_137)) (dd D_X9_lates 7 rfl) ?_
    refine ro_go (st' := [.int (bI (F_X9_in (Int32.toInt64 p3) (0 : Int64) (2 : Int64)))]) (rS (rest := []) F (c_X9_in D cA (Int32.toInt64 p3) (0 : Int64) (2 : Int64) l) lk_X9_63 (Nat.le_of_ble_eq_true rfl) (preRO hK hS hAb (emP)) rfl hl rfl (Nat.le_of_ble_eq_true rfl) (dd D_X9_lates 8 rfl) ⟨Nat.le_of_ble_eq_true rfl, Nat.le_of_ble_eq_true rfl⟩) rfl ?_
    refine x_bif_ne (tgt := 27) F.1 F.2.1 (dd D_X9_lates 9 rfl) rfl h (fun c40 h => ?_) (fun c40 h => ?_)
    · refine lv_sipush (v := (1440 : Int32)) F.1 F.2.1 (dd D_X9_lates 14 rfl) ks_1440 ?_
      refine lv_istore (lv' := [(4, .int (1440 : Int32)), (0, .ref (am 0)), (1, .int p1), (2, .int p2), (3, .int p3)]) F.1 F.2.1 (dd D_X9_lates 15 rfl) hl (Nat.le_of_ble_eq_true rfl) rfl (fun ls hl => ?_)
      refine lv_iconst (v := (-1 : Int32)) F.1 F.2.1 (dd D_X9_lates 16 rfl) ki_m1 ?_
      refine lv_istore (lv' := [(5, .int (-1 : Int32)), (4, .int (1440 : Int32)), (0, .ref (am 0)), (1, .int p1), (2, .int p2), (3, .int p3)]) F.1 F.2.1 (dd D_X9_lates 17 rfl) hl (Nat.le_of_ble_eq_true rfl) rfl (fun ls hl => ?_)
      refine lv_iconst (v := (0 : Int32)) F.1 F.2.1 (dd D_X9_lates 18 rfl) ki_0 ?_
      refine lv_istore (lv' := [(6, .int (0 : Int32)), (5, .int (-1 : Int32)), (4, .int (1440 : Int32)), (0, .ref (am 0)), (1, .int p1), (2, .int p2), (3, .int p3)]) F.1 F.2.1 (dd D_X9_lates 19 rfl) hl (Nat.le_of_ble_eq_true rfl) rfl (fun ls hl => ?_)
      refine lv_iload_n F.1 F.2.1 (dd D_X9_lates 20 rfl) rfl (lv_at hl 4 rfl) ?_
      refine lv_istore (lv' := [(7, .int p1), (6, .int (0 : Int32)), (5, .int (-1 : Int32)), (4, .int (1440 : Int32)), (0, .ref (am 0)), (1, .int p1), (2, .int p2), (3, .int p3)]) F.1 F.2.1 (dd D_X9_lates 21 rfl) hl (Nat.le_of_ble_eq_true rfl) rfl (fun ls hl => ?_)
      have L20 : ∀ (kf : Nat) (w4_L20 : Int32) (w5_L20 : Int32) (w6_L20 : Int32) (w7_L20 : Int32) (H : Heap) (locs : List Loc) (ls : Array Slot), va_P D vwCl (mW cA am s) H → va_D A (mW cA am s) → va_S A sM.heap H locs → lv_has ls 9 [(0, .ref (am 0)), (1, .int p1), (2, .int p2), (3, .int p3), (4, .int w4_L20), (5, .int w5_L20), (6, .int w6_L20), (7, .int w7_L20)] → F_X9_lates_L41 n s p1 p2 p3 kf w4_L20 w5_L20 w6_L20 w7_L20 = some r → Wrw 6 0 0 D A (exq (some (.int r.1)) (mW cA am r.2)) p l e sM m ([.ref (am 0), .int p1, .int p2, .int p3] : List Value).toArray below meth c H locs 0 0 41 ls [] := by
        intro kf
        induction kf with
        | zero =>
          intro w4_L20 w5_L20 w6_L20 w7_L20 H locs ls hP hD hS hl h
          cases (show none = some r from h)
        | succ k_L20 ih_L20 =>
          intro w4_L20 w5_L20 w6_L20 w7_L20 H locs ls hP hD hS hl h
          unfold F_X9_lates_L41 at h
          refine lv_iload F.1 F.2.1 (dd D_X9_lates 22 rfl) (lv_at hl 7 rfl) ?_
          refine lv_iload_n F.1 F.2.1 (dd D_X9_lates 23 rfl) rfl (lv_at hl 1 rfl) ?_
          refine lv_iload_n F.1 F.2.1 (dd D_X9_lates 24 rfl) rfl (lv_at hl 2 rfl) ?_
          refine ro_go (st' := [.int (F_X9_lastOf p1 p2), .int w7_L20]) (rS (rest := [.int w7_L20]) F (c_X9_lastOf D cA p1 p2 l) lk_X9_273 (Nat.le_of_ble_eq_true rfl) (preRO hK hS hAb (emP)) rfl hl rfl (Nat.le_of_ble_eq_true rfl) (dd D_X9_lates 25 rfl) ⟨Nat.le_of_ble_eq_true rfl, Nat.le_of_ble_eq_true rfl⟩) rfl ?_
          refine x_icmp_gt (tgt := 112) F.1 F.2.1 (dd D_X9_lates 26 rfl) rfl h (fun c21 h => ?_) (fun c21 h => ?_)
          · refine lv_iload F.1 F.2.1 (dd D_X9_lates 54 rfl) (lv_at hl 5 rfl) ?_
            refine lv_iconst (v := (-1 : Int32)) F.1 F.2.1 (dd D_X9_lates 55 rfl) ki_m1 ?_
            refine x_icmp_ne (tgt := 125) F.1 F.2.1 (dd D_X9_lates 56 rfl) rfl h (fun c22 h => ?_) (fun c22 h => ?_)
            · refine lv_iload_n F.1 F.2.1 (dd D_X9_lates 61 rfl) rfl (lv_at hl 3 rfl) ?_
              refine x_if_ne (tgt := 134) F.1 F.2.1 (dd D_X9_lates 62 rfl) rfl h (fun c23 h => ?_) (fun c23 h => ?_)
              · refine lv_iload_n F.1 F.2.1 (dd D_X9_lates 65 rfl) rfl (lv_at hl 3 rfl) ?_
                refine lv_iconst (v := (1 : Int32)) F.1 F.2.1 (dd D_X9_lates 66 rfl) ki_1 ?_
                refine x_icmp_ne (tgt := 144) F.1 F.2.1 (dd D_X9_lates 67 rfl) rfl h (fun c24 h => ?_) (fun c24 h => ?_)
                · refine lv_iload F.1 F.2.1 (dd D_X9_lates 70 rfl) (lv_at hl 6 rfl) ?_
                  obtain rfl := Option.some.inj h
                  exact rw_i (R := rmOf 6 0 0) F hP hD hS hr hlk ⟨Nat.le_of_ble_eq_true rfl, Nat.le_of_ble_eq_true rfl⟩ ⟨rfl, rfl⟩ (dd D_X9_lates 71 rfl)
                · refine lv_iload F.1 F.2.1 (dd D_X9_lates 68 rfl) (lv_at hl 5 rfl) ?_
                  refine lv_goto (tgt := 146) F.1 F.2.1 (dd D_X9_lates 69 rfl) rfl ?_
                  obtain rfl := Option.some.inj h
                  exact rw_i (R := rmOf 6 0 0) F hP hD hS hr hlk ⟨Nat.le_of_ble_eq_true rfl, Nat.le_of_ble_eq_true rfl⟩ ⟨rfl, rfl⟩ (dd D_X9_lates 71 rfl)
              · refine lv_iload F.1 F.2.1 (dd D_X9_lates 63 rfl) (lv_at hl 4 rfl) ?_
                refine lv_goto (tgt := 146) F.1 F.2.1 (dd D_X9_lates 64 rfl) rfl ?_
                obtain rfl := Option.some.inj h
                exact rw_i (R := rmOf 6 0 0) F hP hD hS hr hlk ⟨Nat.le_of_ble_eq_true rfl, Nat.le_of_ble_eq_true rfl⟩ ⟨rfl, rfl⟩ (dd D_X9_lates 71 rfl)
            · refine lv_aload_n F.1 F.2.1 (dd D_X9_lates 57 rfl) rfl (lv_at hl 0 rfl) ?_
              refine lv_bipush (v := (-5 : Int32)) F.1 F.2.1 (dd D_X9_lates 58 rfl) kb_m5 ?_
              obtain ⟨r25, e26, h⟩ := Option.bind_eq_some_iff.mp h
              refine rwe_all (st' := [.int r25.1]) hD hS hA (rV (rest := []) F (c_X9_refuse D cA am s n (-5 : Int32) r25 e26 l H.size) lk_X9_79 (Nat.le_of_ble_eq_true rfl) (preRW hK hS hAb hP hD) (rcv_9 hK hP (q0 := (0)) (mp_0 cA am s)) rfl hl rfl (Nat.le_of_ble_eq_true rfl) (dd D_X9_lates 59 rfl) ⟨Nat.le_of_ble_eq_true rfl, Nat.le_of_ble_eq_true rfl⟩) rfl (fun H locs hP hD hS => ?_)
              obtain rfl := Option.some.inj h
              exact rw_i (R := rmOf 6 0 0) F hP hD hS hr hlk ⟨Nat.le_of_ble_eq_true rfl, Nat.le_of_ble_eq_true rfl⟩ ⟨rfl, rfl⟩ (dd D_X9_lates 60 rfl)
          · refine lv_iload F.1 F.2.1 (dd D_X9_lates 27 rfl) (lv_at hl 7 rfl) ?_
            refine lv_sipush (v := (9999 : Int32)) F.1 F.2.1 (dd D_X9_lates 28 rfl) ks_9999 ?_
            refine x_icmp_ge (tgt := 112) F.1 F.2.1 (dd D_X9_lates 29 rfl) rfl h (fun c27 h => ?_) (fun c27 h => ?_)
            · refine lv_iload F.1 F.2.1 (dd D_X9_lates 54 rfl) (lv_at hl 5 rfl) ?_
              refine lv_iconst (v := (-1 : Int32)) F.1 F.2.1 (dd D_X9_lates 55 rfl) ki_m1 ?_
              refine x_icmp_ne (tgt := 125) F.1 F.2.1 (dd D_X9_lates 56 rfl) rfl h (fun c28 h => ?_) (fun c28 h => ?_)
              · refine lv_iload_n F.1 F.2.1 (dd D_X9_lates 61 rfl) rfl (lv_at hl 3 rfl) ?_
                refine x_if_ne (tgt := 134) F.1 F.2.1 (dd D_X9_lates 62 rfl) rfl h (fun c29 h => ?_) (fun c29 h => ?_)
                · refine lv_iload_n F.1 F.2.1 (dd D_X9_lates 65 rfl) rfl (lv_at hl 3 rfl) ?_
                  refine lv_iconst (v := (1 : Int32)) F.1 F.2.1 (dd D_X9_lates 66 rfl) ki_1 ?_
                  refine x_icmp_ne (tgt := 144) F.1 F.2.1 (dd D_X9_lates 67 rfl) rfl h (fun c30 h => ?_) (fun c30 h => ?_)
                  · refine lv_iload F.1 F.2.1 (dd D_X9_lates 70 rfl) (lv_at hl 6 rfl) ?_
                    obtain rfl := Option.some.inj h
                    exact rw_i (R := rmOf 6 0 0) F hP hD hS hr hlk ⟨Nat.le_of_ble_eq_true rfl, Nat.le_of_ble_eq_true rfl⟩ ⟨rfl, rfl⟩ (dd D_X9_lates 71 rfl)
                  · refine lv_iload F.1 F.2.1 (dd D_X9_lates 68 rfl) (lv_at hl 5 rfl) ?_
                    refine lv_goto (tgt := 146) F.1 F.2.1 (dd D_X9_lates 69 rfl) rfl ?_
                    obtain rfl := Option.some.inj h
                    exact rw_i (R := rmOf 6 0 0) F hP hD hS hr hlk ⟨Nat.le_of_ble_eq_true rfl, Nat.le_of_ble_eq_true rfl⟩ ⟨rfl, rfl⟩ (dd D_X9_lates 71 rfl)
                · refine lv_iload F.1 F.2.1 (dd D_X9_lates 63 rfl) (lv_at hl 4 rfl) ?_
                  refine lv_goto (tgt := 146) F.1 F.2.1 (dd D_X9_lates 64 rfl) rfl ?_
                  obtain rfl := Option.some.inj h
                  exact rw_i (R := rmOf 6 0 0) F hP hD hS hr hlk ⟨Nat.le_of_ble_eq_true rfl, Nat.le_of_ble_eq_true rfl⟩ ⟨rfl, rfl⟩ (dd D_X9_lates 71 rfl)
              · refine lv_aload_n F.1 F.2.1 (dd D_X9_lates 57 rfl) rfl (lv_at hl 0 rfl) ?_
                refine lv_bipush (v := (-5 : Int32)) F.1 F.2.1 (dd D_X9_lates 58 rfl) kb_m5 ?_
                obtain ⟨r31, e32, h⟩ := Option.bind_eq_some_iff.mp h
                refine rwe_all (st' := [.int r31.1]) hD hS hA (rV (rest := []) F (c_X9_refuse D cA am s n (-5 : Int32) r31 e32 l H.size) lk_X9_79 (Nat.le_of_ble_eq_true rfl) (preRW hK hS hAb hP hD) (rcv_9 hK hP (q0 := (0)) (mp_0 cA am s)) rfl hl rfl (Nat.le_of_ble_eq_true rfl) (dd D_X9_lates 59 rfl) ⟨Nat.le_of_ble_eq_true rfl, Nat.le_of_ble_eq_true rfl⟩) rfl (fun H locs hP hD hS => ?_)
                obtain rfl := Option.some.inj h
                exact rw_i (R := rmOf 6 0 0) F hP hD hS hr hlk ⟨Nat.le_of_ble_eq_true rfl, Nat.le_of_ble_eq_true rfl⟩ ⟨rfl, rfl⟩ (dd D_X9_lates 60 rfl)
            · refine lv_aload_n F.1 F.2.1 (dd D_X9_lates 30 rfl) rfl (lv_at hl 0 rfl) ?_
              refine lv_iload F.1 F.2.1 (dd D_X9_lates 31 rfl) (lv_at hl 7 rfl) ?_
              obtain ⟨r33, e34, h⟩ := Option.bind_eq_some_iff.mp h
              refine ro_go (st' := [.int r33]) (rV (rest := []) F (c_X9_later D cA am s n w7_L20 r33 e34 l) lk_X9_99 (Nat.le_of_ble_eq_true rfl) (preRO hK hS hAb hP) (rcv_9 hK hP (q0 := (0)) (mp_0 cA am s)) rfl hl rfl (Nat.le_of_ble_eq_true rfl) (dd D_X9_lates 32 rfl) ⟨Nat.le_of_ble_eq_true rfl, Nat.le_of_ble_eq_true rfl⟩) rfl ?_
              refine lv_istore (lv' := [(8, .int r33), (0, .ref (am 0)), (1, .int p1), (2, .int p2), (3, .int p3), (4, .int w4_L20), (5, .int w5_L20), (6, .int w6_L20), (7, .int w7_L20)]) F.1 F.2.1 (dd D_X9_lates 33 rfl) hl (Nat.le_of_ble_eq_true rfl) rfl (fun ls hl => ?_)
              refine lv_iload F.1 F.2.1 (dd D_X9_lates 34 rfl) (lv_at hl 0 rfl) ?_
              refine lv_iload F.1 F.2.1 (dd D_X9_lates 35 rfl) (lv_at hl 5 rfl) ?_
              refine x_icmp_ge (tgt := 79) F.1 F.2.1 (dd D_X9_lates 36 rfl) rfl h (fun c35 h => ?_) (fun c35 h => ?_)
              · refine lv_iload F.1 F.2.1 (dd D_X9_lates 39 rfl) (lv_at hl 5 rfl) ?_
                refine lv_istore (lv' := [(4, .int w4_L20), (8, .int r33), (0, .ref (am 0)), (1, .int p1), (2, .int p2), (3, .int p3), (5, .int w5_L20), (6, .int w6_L20), (7, .int w7_L20)]) F.1 F.2.1 (dd D_X9_lates 40 rfl) hl (Nat.le_of_ble_eq_true rfl) rfl (fun ls hl => ?_)
                refine lv_iload F.1 F.2.1 (dd D_X9_lates 41 rfl) (lv_at hl 1 rfl) ?_
                refine lv_iload F.1 F.2.1 (dd D_X9_lates 42 rfl) (lv_at hl 6 rfl) ?_
                refine x_icmp_le (tgt := 95) F.1 F.2.1 (dd D_X9_lates 43 rfl) rfl h (fun c36 h => ?_) (fun c36 h => ?_)
                · refine lv_iload F.1 F.2.1 (dd D_X9_lates 46 rfl) (lv_at hl 6 rfl) ?_
                  refine lv_istore (lv' := [(5, .int w5_L20), (4, .int w4_L20), (8, .int r33), (0, .ref (am 0)), (1, .int p1), (2, .int p2), (3, .int p3), (6, .int w6_L20), (7, .int w7_L20)]) F.1 F.2.1 (dd D_X9_lates 47 rfl) hl (Nat.le_of_ble_eq_true rfl) rfl (fun ls hl => ?_)
                  refine lv_iload F.1 F.2.1 (dd D_X9_lates 48 rfl) (lv_at hl 7 rfl) ?_
                  refine lv_iload F.1 F.2.1 (dd D_X9_lates 49 rfl) (lv_at hl 2 rfl) ?_
                  refine lv_iadd F.1 F.2.1 (dd D_X9_lates 50 rfl) ?_
                  refine lv_istore (lv' := [(6, .int (w6_L20 + r33)), (5, .int w5_L20), (4, .int w4_L20), (8, .int r33), (0, .ref (am 0)), (1, .int p1), (2, .int p2), (3, .int p3), (7, .int w7_L20)]) F.1 F.2.1 (dd D_X9_lates 51 rfl) hl (Nat.le_of_ble_eq_true rfl) rfl (fun ls hl => ?_)
                  refine lv_iinc (v := (w7_L20 + (1 : Int32))) (lv' := [(7, .int (w7_L20 + (1 : Int32))), (6, .int (w6_L20 + r33)), (5, .int w5_L20), (4, .int w4_L20), (8, .int r33), (0, .ref (am 0)), (1, .int p1), (2, .int p2), (3, .int p3)]) F.1 F.2.1 (dd D_X9_lates 52 rfl) hl (k := 8) rfl (congrArg (fun z => w7_L20 + z) ki_1) (Nat.le_of_ble_eq_true rfl) rfl (fun ls hl => ?_)
                  refine lv_goto (tgt := 41) F.1 F.2.1 (dd D_X9_lates 53 rfl) rfl ?_
                  exact ih_L20 w4_L20 w5_L20 (w6_L20 + r33) (w7_L20 + (1 : Int32)) _ _ ls hP hD hS (lv_sub hl [5, 6, 7, 8, 3, 2, 1, 0] rfl) h
                · refine lv_iload F.1 F.2.1 (dd D_X9_lates 44 rfl) (lv_at hl 1 rfl) ?_
                  refine lv_goto (tgt := 97) F.1 F.2.1 (dd D_X9_lates 45 rfl) rfl ?_
                  refine lv_istore (lv' := [(5, .int r33), (4, .int w4_L20), (8, .int r33), (0, .ref (am 0)), (1, .int p1), (2, .int p2), (3, .int p3), (6, .int w6_L20), (7, .int w7_L20)]) F.1 F.2.1 (dd D_X9_lates 47 rfl) hl (Nat.le_of_ble_eq_true rfl) rfl (fun ls hl => ?_)
                  refine lv_iload F.1 F.2.1 (dd D_X9_lates 48 rfl) (lv_at hl 7 rfl) ?_
                  refine lv_iload F.1 F.2.1 (dd D_X9_lates 49 rfl) (lv_at hl 2 rfl) ?_
                  refine lv_iadd F.1 F.2.1 (dd D_X9_lates 50 rfl) ?_
                  refine lv_istore (lv' := [(6, .int (w6_L20 + r33)), (5, .int r33), (4, .int w4_L20), (8, .int r33), (0, .ref (am 0)), (1, .int p1), (2, .int p2), (3, .int p3), (7, .int w7_L20)]) F.1 F.2.1 (dd D_X9_lates 51 rfl) hl (Nat.le_of_ble_eq_true rfl) rfl (fun ls hl => ?_)
                  refine lv_iinc (v := (w7_L20 + (1 : Int32))) (lv' := [(7, .int (w7_L20 + (1 : Int32))), (6, .int (w6_L20 + r33)), (5, .int r33), (4, .int w4_L20), (8, .int r33), (0, .ref (am 0)), (1, .int p1), (2, .int p2), (3, .int p3)]) F.1 F.2.1 (dd D_X9_lates 52 rfl) hl (k := 8) rfl (congrArg (fun z => w7_L20 + z) ki_1) (Nat.le_of_ble_eq_true rfl) rfl (fun ls hl => ?_)
                  refine lv_goto (tgt := 41) F.1 F.2.1 (dd D_X9_lates 53 rfl) rfl ?_
                  exact ih_L20 w4_L20 r33 (w6_L20 + r33) (w7_L20 + (1 : Int32)) _ _ ls hP hD hS (lv_sub hl [5, 6, 7, 8, 3, 2, 1, 0] rfl) h
              · refine lv_iload F.1 F.2.1 (dd D_X9_lates 37 rfl) (lv_at hl 0 rfl) ?_
                refine lv_goto (tgt := 81) F.1 F.2.1 (dd D_X9_lates 38 rfl) rfl ?_
                refine lv_istore (lv' := [(4, .int r33), (8, .int r33), (0, .ref (am 0)), (1, .int p1), (2, .int p2), (3, .int p3), (5, .int w5_L20), (6, .int w6_L20), (7, .int w7_L20)]) F.1 F.2.1 (dd D_X9_lates 40 rfl) hl (Nat.le_of_ble_eq_true rfl) rfl (fun ls hl => ?_)
                refine lv_iload F.1 F.2.1 (dd D_X9_lates 41 rfl) (lv_at hl 1 rfl) ?_
                refine lv_iload F.1 F.2.1 (dd D_X9_lates 42 rfl) (lv_at hl 6 rfl) ?_
                refine x_icmp_le (tgt := 95) F.1 F.2.1 (dd D_X9_lates 43 rfl) rfl h (fun c37 h => ?_) (fun c37 h => ?_)
                · refine lv_iload F.1 F.2.1 (dd D_X9_lates 46 rfl) (lv_at hl 6 rfl) ?_
                  refine lv_istore (lv' := [(5, .int w5_L20), (4, .int r33), (8, .int r33), (0, .ref (am 0)), (1, .int p1), (2, .int p2), (3, .int p3), (6, .int w6_L20), (7, .int w7_L20)]) F.1 F.2.1 (dd D_X9_lates 47 rfl) hl (Nat.le_of_ble_eq_true rfl) rfl (fun ls hl => ?_)
                  refine lv_iload F.1 F.2.1 (dd D_X9_lates 48 rfl) (lv_at hl 7 rfl) ?_
                  refine lv_iload F.1 F.2.1 (dd D_X9_lates 49 rfl) (lv_at hl 2 rfl) ?_
                  refine lv_iadd F.1 F.2.1 (dd D_X9_lates 50 rfl) ?_
                  refine lv_istore (lv' := [(6, .int (w6_L20 + r33)), (5, .int w5_L20), (4, .int r33), (8, .int r33), (0, .ref (am 0)), (1, .int p1), (2, .int p2), (3, .int p3), (7, .int w7_L20)]) F.1 F.2.1 (dd D_X9_lates 51 rfl) hl (Nat.le_of_ble_eq_true rfl) rfl (fun ls hl => ?_)
                  refine lv_iinc (v := (w7_L20 + (1 : Int32))) (lv' := [(7, .int (w7_L20 + (1 : Int32))), (6, .int (w6_L20 + r33)), (5, .int w5_L20), (4, .int r33), (8, .int r33), (0, .ref (am 0)), (1, .int p1), (2, .int p2), (3, .int p3)]) F.1 F.2.1 (dd D_X9_lates 52 rfl) hl (k := 8) rfl (congrArg (fun z => w7_L20 + z) ki_1) (Nat.le_of_ble_eq_true rfl) rfl (fun ls hl => ?_)
                  refine lv_goto (tgt := 41) F.1 F.2.1 (dd D_X9_lates 53 rfl) rfl ?_
                  exact ih_L20 r33 w5_L20 (w6_L20 + r33) (w7_L20 + (1 : Int32)) _ _ ls hP hD hS (lv_sub hl [5, 6, 7, 8, 3, 2, 1, 0] rfl) h
                · refine lv_iload F.1 F.2.1 (dd D_X9_lates 44 rfl) (lv_at hl 1 rfl) ?_
                  refine lv_goto (tgt := 97) F.1 F.2.1 (dd D_X9_lates 45 rfl) rfl ?_
                  refine lv_istore (lv' := [(5, .int r33), (4, .int r33), (8, .int r33), (0, .ref (am 0)), (1, .int p1), (2, .int p2), (3, .int p3), (6, .int w6_L20), (7, .int w7_L20)]) F.1 F.2.1 (dd D_X9_lates 47 rfl) hl (Nat.le_of_ble_eq_true rfl) rfl (fun ls hl => ?_)
                  refine lv_iload F.1 F.2.1 (dd D_X9_lates 48 rfl) (lv_at hl 7 rfl) ?_
                  refine lv_iload F.1 F.2.1 (dd D_X9_lates 49 rfl) (lv_at hl 2 rfl) ?_
                  refine lv_iadd F.1 F.2.1 (dd D_X9_lates 50 rfl) ?_
                  refine lv_istore (lv' := [(6, .int (w6_L20 + r33)), (5, .int r33), (4, .int r33), (8, .int r33), (0, .ref (am 0)), (1, .int p1), (2, .int p2), (3, .int p3), (7, .int w7_L20)]) F.1 F.2.1 (dd D_X9_lates 51 rfl) hl (Nat.le_of_ble_eq_true rfl) rfl (fun ls hl => ?_)
                  refine lv_iinc (v := (w7_L20 + (1 : Int32))) (lv' := [(7, .int (w7_L20 + (1 : Int32))), (6, .int (w6_L20 + r33)), (5, .int r33), (4, .int r33), (8, .int r33), (0, .ref (am 0)), (1, .int p1), (2, .int p2), (3, .int p3)]) F.1 F.2.1 (dd D_X9_lates 52 rfl) hl (k := 8) rfl (congrArg (fun z => w7_L20 + z) ki_1) (Nat.le_of_ble_eq_true rfl) rfl (fun ls hl => ?_)
                  refine lv_goto (tgt := 41) F.1 F.2.1 (dd D_X9_lates 53 rfl) rfl ?_
                  exact ih_L20 r33 r33 (w6_L20 + r33) (w7_L20 + (1 : Int32)) _ _ ls hP hD hS (lv_sub hl [5, 6, 7, 8, 3, 2, 1, 0] rfl) h
      exact L20 n (1440 : Int32) (-1 : Int32) (0 : Int32) p1 _ _ ls hP hD hS (lv_sub hl [4, 5, 6, 7, 3, 2, 1, 0] rfl) h
    · refine lv_aload_n F.1 F.2.1 (dd D_X9_lates 10 rfl) rfl (lv_at hl 0 rfl) ?_
      refine lv_bipush (v := (-2 : Int32)) F.1 F.2.1 (dd D_X9_lates 11 rfl) kb_m2 ?_
      obtain ⟨r38, e39, h⟩ := Option.bind_eq_some_iff.mp h
      refine rwe_all (st' := [.int r38.1]) hD hS hA (rV (rest := []) F (c_X9_refuse D cA am s n (-2 : Int32) r38 e39 l H.size) lk_X9_79 (Nat.le_of_ble_eq_true rfl) (preRW hK hS hAb hP hD) (rcv_9 hK hP (q0 := (0)) (mp_0 cA am s)) rfl hl rfl (Nat.le_of_ble_eq_true rfl) (dd D_X9_lates 12 rfl) ⟨Nat.le_of_ble_eq_true rfl, Nat.le_of_ble_eq_true rfl⟩) rfl (fun H locs hP hD hS => ?_)
      obtain rfl := Option.some.inj h
      exact rw_i (R := rmOf 6 0 0) F hP hD hS hr hlk ⟨Nat.le_of_ble_eq_true rfl, Nat.le_of_ble_eq_true rfl⟩ ⟨rfl, rfl⟩ (dd D_X9_lates 13 rfl)
