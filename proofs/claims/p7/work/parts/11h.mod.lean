def F_X9_sizeOf (n : Nat) (s : MS) (p1 : Int32) : Option Int32 := (((F_X9_slantOf n s p1)).bind fun r1 => (if 0 ≤ r1 then some (r1) else some ((-r1))))
set_option maxHeartbeats 4000000 in
set_option maxRecDepth 100000 in
theorem c_X9_sizeOf (D : va_G) (cA : Nat → ClassId) (am : Nat → Nat) (s : MS) (n : Nat) (p1 : Int32) (r : Int32) (h : F_X9_sizeOf n s p1 = some r) : RO m_X9_sizeOf 2 D cA [.ref (am 0), .int p1] (mW cA am s) (some (.int r)) := by
  refine RO.ofW gy_X9_sizeOf.2.2 (Nat.le_of_ble_eq_true rfl) ?_
  intro l p e sM m below meth c F hr hlk hK hP hS hAb ls hl
  have hl : lv_has ls 3 [(0, .ref (am 0)), (1, .int p1)] := hl
  unfold F_X9_sizeOf at h
  refine lv_aload_n F.1 F.2.1 (dd D_X9_sizeOf 0 rfl) rfl (lv_at hl 0 rfl) ?_
  refine lv_iload_n F.1 F.2.1 (dd D_X9_sizeOf 1 rfl) rfl (lv_at hl 1 rfl) ?_
  obtain ⟨r1, e2, h⟩ := Option.bind_eq_some_iff.mp h
  refine ro_go (st' := [.int r1]) (rV (rest := []) F (c_X9_slantOf D cA am s n p1 r1 e2 l) lk_X9_227 (Nat.le_of_ble_eq_true rfl) (preRO hK hS hAb hP) (rcv_9 hK hP (q0 := (0)) (mp_0 cA am s)) rfl hl rfl (Nat.le_of_ble_eq_true rfl) (dd D_X9_sizeOf 2 rfl) ⟨Nat.le_of_ble_eq_true rfl, Nat.le_of_ble_eq_true rfl⟩) rfl ?_
  refine lv_istore_n (lv' := [(2, .int r1), (0, .ref (am 0)), (1, .int p1)]) F.1 F.2.1 (dd D_X9_sizeOf 3 rfl) rfl hl (Nat.le_of_ble_eq_true rfl) rfl (fun ls hl => ?_)
  refine lv_iload_n F.1 F.2.1 (dd D_X9_sizeOf 4 rfl) rfl (lv_at hl 0 rfl) ?_
  refine x_if_ge (tgt := 15) F.1 F.2.1 (dd D_X9_sizeOf 5 rfl) rfl h (fun c3 h => ?_) (fun c3 h => ?_)
  · refine lv_iload_n F.1 F.2.1 (dd D_X9_sizeOf 9 rfl) rfl (lv_at hl 0 rfl) ?_
    exact ro_i (R := rmOf 2 0 0) F hr hlk (congrArg (Option.map Value.int) h) (dd D_X9_sizeOf 10 rfl)
  · refine lv_iload_n F.1 F.2.1 (dd D_X9_sizeOf 6 rfl) rfl (lv_at hl 0 rfl) ?_
    refine lv_ineg F.1 F.2.1 (dd D_X9_sizeOf 7 rfl) ?_
    refine lv_goto (tgt := 16) F.1 F.2.1 (dd D_X9_sizeOf 8 rfl) rfl ?_
    exact ro_i (R := rmOf 2 0 0) F hr hlk (congrArg (Option.map Value.int) h) (dd D_X9_sizeOf 10 rfl)
def F_X9_farthest_L22 (n : Nat) (u0 : MS) (v1 : Int32) (v2 : Int32) : Nat → Int32 → Int32 → Option (Int32 × MS)
  | 0, _, _ => none
  | kf + 1, w3, w4 => (if (F_X9_lastOf v1 v2) < w4 then some (w3, u0) else (((F_X9_sizeOf n u0 w4)).bind fun r2 => (((F_X9_sizeOf n u0 w3)).bind fun r4 => (if r2 ≤ r4 then F_X9_farthest_L22 n u0 v1 v2 kf w3 (w4 + (1 : Int32)) else F_X9_farthest_L22 n u0 v1 v2 kf w4 (w4 + (1 : Int32))))))
def F_X9_farthest (n : Nat) (s : MS) (p1 : Int32) (p2 : Int32) : Option (Int32 × MS) := bf (F_X9_areDays p1 p2) (F_X9_farthest_L22 n s p1 p2 n p1 (p1 + (1 : Int32))) ((((F_X9_refuse n s (-2 : Int32))).bind fun r14 => some (r14.1, r14.2)))
set_option maxHeartbeats 4000000 in
set_option maxRecDepth 100000 in
theorem c_X9_farthest (D : va_G) (cA : Nat → ClassId) (am : Nat → Nat) (s : MS) (n : Nat) (p1 : Int32) (p2 : Int32) (r : (Int32 × MS)) (h : F_X9_farthest n s p1 p2 = some r) : RW m_X9_farthest 3 0 0 D cA [.ref (am 0), .int p1, .int p2] (mW cA am s) (exq (some (.int r.1)) (mW cA am r.2)) := by
  refine RW.ofW gy_X9_farthest.2.2 (Nat.le_of_ble_eq_true rfl) ?_
  intro l p e sM m below meth c A H locs F hr hlk hnm hK hP hD hS hA hAb ls hl
  have hl : lv_has ls 5 [(0, .ref (am 0)), (1, .int p1), (2, .int p2)] := hl
  unfold F_X9_farthest at h
  refine lv_iload_n F.1 F.2.1 (dd D_X9_farthest 0 rfl) rfl (lv_at hl 1 rfl) ?_
  refine lv_iload_n F.1 F.2.1 (dd D_X9_farthest 1 rfl) rfl (lv_at hl 2 rfl) ?_
  refine ro_go (st' := [.int (bI (F_X9_areDays p1 p2))]) (rS (rest := []) F (c_X9_areDays D cA p1 p2 l) lk_X9_276 (Nat.le_of_ble_eq_true rfl) (preRO hK hS hAb (emP)) rfl hl rfl (Nat.le_of_ble_eq_true rfl) (dd D_X9_farthest 2 rfl) ⟨Nat.le_of_ble_eq_true rfl, Nat.le_of_ble_eq_true rfl⟩) rfl ?_
  refine x_bif_ne (tgt := 15) F.1 F.2.1 (dd D_X9_farthest 3 rfl) rfl h (fun c16 h => ?_) (fun c16 h => ?_)
  · refine lv_iload_n F.1 F.2.1 (dd D_X9_farthest 8 rfl) rfl (lv_at hl 1 rfl) ?_
    refine lv_istore_n (lv' := [(3, .int p1), (0, .ref (am 0)), (1, .int p1), (2, .int p2)]) F.1 F.2.1 (dd D_X9_farthest 9 rfl) rfl hl (Nat.le_of_ble_eq_true rfl) rfl (fun ls hl => ?_)
    refine lv_iload_n F.1 F.2.1 (dd D_X9_farthest 10 rfl) rfl (lv_at hl 2 rfl) ?_
    refine lv_iconst (v := (1 : Int32)) F.1 F.2.1 (dd D_X9_farthest 11 rfl) ki_1 ?_
    refine lv_iadd F.1 F.2.1 (dd D_X9_farthest 12 rfl) ?_
    refine lv_istore (lv' := [(4, .int (p1 + (1 : Int32))), (3, .int p1), (0, .ref (am 0)), (1, .int p1), (2, .int p2)]) F.1 F.2.1 (dd D_X9_farthest 13 rfl) hl (Nat.le_of_ble_eq_true rfl) rfl (fun ls hl => ?_)
    have L7 : ∀ (kf : Nat) (w3_L7 : Int32) (w4_L7 : Int32) (H : Heap) (locs : List Loc) (ls : Array Slot), va_P D vwCl (mW cA am s) H → va_D A (mW cA am s) → va_S A sM.heap H locs → lv_has ls 5 [(0, .ref (am 0)), (1, .int p1), (2, .int p2), (3, .int w3_L7), (4, .int w4_L7)] → F_X9_farthest_L22 n s p1 p2 kf w3_L7 w4_L7 = some r → Wrw 3 0 0 D A (exq (some (.int r.1)) (mW cA am r.2)) p l e sM m ([.ref (am 0), .int p1, .int p2] : List Value).toArray below meth c H locs 0 0 22 ls [] := by
      intro kf
      induction kf with
      | zero =>
        intro w3_L7 w4_L7 H locs ls hP hD hS hl h
        cases (show none = some r from h)
      | succ k_L7 ih_L7 =>
        intro w3_L7 w4_L7 H locs ls hP hD hS hl h
        unfold F_X9_farthest_L22 at h
        refine lv_iload F.1 F.2.1 (dd D_X9_farthest 14 rfl) (lv_at hl 4 rfl) ?_
        refine lv_iload_n F.1 F.2.1 (dd D_X9_farthest 15 rfl) rfl (lv_at hl 1 rfl) ?_
        refine lv_iload_n F.1 F.2.1 (dd D_X9_farthest 16 rfl) rfl (lv_at hl 2 rfl) ?_
        refine ro_go (st' := [.int (F_X9_lastOf p1 p2), .int w4_L7]) (rS (rest := [.int w4_L7]) F (c_X9_lastOf D cA p1 p2 l) lk_X9_273 (Nat.le_of_ble_eq_true rfl) (preRO hK hS hAb (emP)) rfl hl rfl (Nat.le_of_ble_eq_true rfl) (dd D_X9_farthest 17 rfl) ⟨Nat.le_of_ble_eq_true rfl, Nat.le_of_ble_eq_true rfl⟩) rfl ?_
        refine x_icmp_gt (tgt := 59) F.1 F.2.1 (dd D_X9_farthest 18 rfl) rfl h (fun c8 h => ?_) (fun c8 h => ?_)
        · refine lv_iload_n F.1 F.2.1 (dd D_X9_farthest 32 rfl) rfl (lv_at hl 3 rfl) ?_
          obtain rfl := Option.some.inj h
          exact rw_i (R := rmOf 3 0 0) F hP hD hS hr hlk ⟨Nat.le_of_ble_eq_true rfl, Nat.le_of_ble_eq_true rfl⟩ ⟨rfl, rfl⟩ (dd D_X9_farthest 33 rfl)
        · refine lv_aload_n F.1 F.2.1 (dd D_X9_farthest 19 rfl) rfl (lv_at hl 0 rfl) ?_
          refine lv_iload F.1 F.2.1 (dd D_X9_farthest 20 rfl) (lv_at hl 4 rfl) ?_
          obtain ⟨r9, e10, h⟩ := Option.bind_eq_some_iff.mp h
          refine ro_go (st' := [.int r9]) (rV (rest := []) F (c_X9_sizeOf D cA am s n w4_L7 r9 e10 l) lk_X9_286 (Nat.le_of_ble_eq_true rfl) (preRO hK hS hAb hP) (rcv_9 hK hP (q0 := (0)) (mp_0 cA am s)) rfl hl rfl (Nat.le_of_ble_eq_true rfl) (dd D_X9_farthest 21 rfl) ⟨Nat.le_of_ble_eq_true rfl, Nat.le_of_ble_eq_true rfl⟩) rfl ?_
          refine lv_aload_n F.1 F.2.1 (dd D_X9_farthest 22 rfl) rfl (lv_at hl 0 rfl) ?_
          refine lv_iload_n F.1 F.2.1 (dd D_X9_farthest 23 rfl) rfl (lv_at hl 3 rfl) ?_
          obtain ⟨r11, e12, h⟩ := Option.bind_eq_some_iff.mp h
          refine ro_go (st' := [.int r11, .int r9]) (rV (rest := [.int r9]) F (c_X9_sizeOf D cA am s n w3_L7 r11 e12 l) lk_X9_286 (Nat.le_of_ble_eq_true rfl) (preRO hK hS hAb hP) (rcv_9 hK hP (q0 := (0)) (mp_0 cA am s)) rfl hl rfl (Nat.le_of_ble_eq_true rfl) (dd D_X9_farthest 24 rfl) ⟨Nat.le_of_ble_eq_true rfl, Nat.le_of_ble_eq_true rfl⟩) rfl ?_
          refine x_icmp_le (tgt := 51) F.1 F.2.1 (dd D_X9_farthest 25 rfl) rfl h (fun c13 h => ?_) (fun c13 h => ?_)
          · refine lv_iload_n F.1 F.2.1 (dd D_X9_farthest 28 rfl) rfl (lv_at hl 3 rfl) ?_
            refine lv_istore_n (lv' := [(3, .int w3_L7), (0, .ref (am 0)), (1, .int p1), (2, .int p2), (4, .int w4_L7)]) F.1 F.2.1 (dd D_X9_farthest 29 rfl) rfl hl (Nat.le_of_ble_eq_true rfl) rfl (fun ls hl => ?_)
            refine lv_iinc (v := (w4_L7 + (1 : Int32))) (lv' := [(4, .int (w4_L7 + (1 : Int32))), (3, .int w3_L7), (0, .ref (am 0)), (1, .int p1), (2, .int p2)]) F.1 F.2.1 (dd D_X9_farthest 30 rfl) hl (k := 4) rfl (congrArg (fun z => w4_L7 + z) ki_1) (Nat.le_of_ble_eq_true rfl) rfl (fun ls hl => ?_)
            refine lv_goto (tgt := 22) F.1 F.2.1 (dd D_X9_farthest 31 rfl) rfl ?_
            exact ih_L7 w3_L7 (w4_L7 + (1 : Int32)) _ _ ls hP hD hS (lv_sub hl [2, 3, 4, 1, 0] rfl) h
          · refine lv_iload F.1 F.2.1 (dd D_X9_farthest 26 rfl) (lv_at hl 4 rfl) ?_
            refine lv_goto (tgt := 52) F.1 F.2.1 (dd D_X9_farthest 27 rfl) rfl ?_
            refine lv_istore_n (lv' := [(3, .int w4_L7), (0, .ref (am 0)), (1, .int p1), (2, .int p2), (4, .int w4_L7)]) F.1 F.2.1 (dd D_X9_farthest 29 rfl) rfl hl (Nat.le_of_ble_eq_true rfl) rfl (fun ls hl => ?_)
            refine lv_iinc (v := (w4_L7 + (1 : Int32))) (lv' := [(4, .int (w4_L7 + (1 : Int32))), (3, .int w4_L7), (0, .ref (am 0)), (1, .int p1), (2, .int p2)]) F.1 F.2.1 (dd D_X9_farthest 30 rfl) hl (k := 4) rfl (congrArg (fun z => w4_L7 + z) ki_1) (Nat.le_of_ble_eq_true rfl) rfl (fun ls hl => ?_)
            refine lv_goto (tgt := 22) F.1 F.2.1 (dd D_X9_farthest 31 rfl) rfl ?_
            exact ih_L7 w4_L7 (w4_L7 + (1 : Int32)) _ _ ls hP hD hS (lv_sub hl [2, 3, 4, 1, 0] rfl) h
    exact L7 n p1 (p1 + (1 : Int32)) _ _ ls hP hD hS (lv_sub hl [2, 3, 4, 1, 0] rfl) h
  · refine lv_aload_n F.1 F.2.1 (dd D_X9_farthest 4 rfl) rfl (lv_at hl 0 rfl) ?_
    refine lv_bipush (v := (-2 : Int32)) F.1 F.2.1 (dd D_X9_farthest 5 rfl) kb_m2 ?_
    obtain ⟨r14, e15, h⟩ := Option.bind_eq_some_iff.mp h
    refine rwe_all (st' := [.int r14.1]) hD hS hA (rV (rest := []) F (c_X9_refuse D cA am s n (-2 : Int32) r14 e15 l H.size) lk_X9_79 (Nat.le_of_ble_eq_true rfl) (preRW hK hS hAb hP hD) (rcv_9 hK hP (q0 := (0)) (mp_0 cA am s)) rfl hl rfl (Nat.le_of_ble_eq_true rfl) (dd D_X9_farthest 6 rfl) ⟨Nat.le_of_ble_eq_true rfl, Nat.le_of_ble_eq_true rfl⟩) rfl (fun H locs hP hD hS => ?_)
    obtain rfl := Option.some.inj h
    exact rw_i (R := rmOf 3 0 0) F hP hD hS hr hlk ⟨Nat.le_of_ble_eq_true rfl, Nat.le_of_ble_eq_true rfl⟩ ⟨rfl, rfl⟩ (dd D_X9_farthest 7 rfl)
def F_X9_brightest_L23 (n : Nat) (u0 : MS) (v1 : Int32) (v2 : Int32) : Nat → Int32 → Int32 → Int32 → Option (Int32 × MS)
  | 0, _, _, _ => none
  | kf + 1, w3, w4, w5 => (if (F_X9_lastOf v1 v2) < w5 then some (w3, u0) else (((F_X9_lightIn n u0 w5 (1200 : Int32) (1439 : Int32))).bind fun r2 => (if r2 ≤ w4 then F_X9_brightest_L23 n u0 v1 v2 kf w3 w4 (w5 + (1 : Int32)) else F_X9_brightest_L23 n u0 v1 v2 kf w5 r2 (w5 + (1 : Int32)))))
def F_X9_brightest (n : Nat) (s : MS) (p1 : Int32) (p2 : Int32) : Option (Int32 × MS) := bf (F_X9_areDays p1 p2) (F_X9_brightest_L23 n s p1 p2 n p1 (-1 : Int32) p1) ((((F_X9_refuse n s (-2 : Int32))).bind fun r10 => some (r10.1, r10.2)))
set_option maxHeartbeats 4000000 in
set_option maxRecDepth 100000 in
theorem c_X9_brightest (D : va_G) (cA : Nat → ClassId) (am : Nat → Nat) (s : MS) (n : Nat) (p1 : Int32) (p2 : Int32) (r : (Int32 × MS)) (h : F_X9_brightest n s p1 p2 = some r) : RW m_X9_brightest 7 0 0 D cA [.ref (am 0), .int p1, .int p2] (mW cA am s) (exq (some (.int r.1)) (mW cA am r.2)) := by
  refine RW.ofW gy_X9_brightest.2.2 (Nat.le_of_ble_eq_true rfl) ?_
  intro l p e sM m below meth c A H locs F hr hlk hnm hK hP hD hS hA hAb ls hl
  have hl : lv_has ls 7 [(0, .ref (am 0)), (1, .int p1), (2, .int p2)] := hl
  unfold F_X9_brightest at h
  refine lv_iload_n F.1 F.2.1 (dd D_X9_brightest 0 rfl) rfl (lv_at hl 1 rfl) ?_
  refine lv_iload_n F.1 F.2.1 (dd D_X9_brightest 1 rfl) rfl (lv_at hl 2 rfl) ?_
  refine ro_go (st' := [.int (bI (F_X9_areDays p1 p2))]) (rS (rest := []) F (c_X9_areDays D cA p1 p2 l) lk_X9_276 (Nat.le_of_ble_eq_true rfl) (preRO hK hS hAb (emP)) rfl hl rfl (Nat.le_of_ble_eq_true rfl) (dd D_X9_brightest 2 rfl) ⟨Nat.le_of_ble_eq_true rfl, Nat.le_of_ble_eq_true rfl⟩) rfl ?_
  refine x_bif_ne (tgt := 15) F.1 F.2.1 (dd D_X9_brightest 3 rfl) rfl h (fun c12 h => ?_) (fun c12 h => ?_)
  · refine lv_iload_n F.1 F.2.1 (dd D_X9_brightest 8 rfl) rfl (lv_at hl 1 rfl) ?_
    refine lv_istore_n (lv' := [(3, .int p1), (0, .ref (am 0)), (1, .int p1), (2, .int p2)]) F.1 F.2.1 (dd D_X9_brightest 9 rfl) rfl hl (Nat.le_of_ble_eq_true rfl) rfl (fun ls hl => ?_)
    refine lv_iconst (v := (-1 : Int32)) F.1 F.2.1 (dd D_X9_brightest 10 rfl) ki_m1 ?_
    refine lv_istore (lv' := [(4, .int (-1 : Int32)), (3, .int p1), (0, .ref (am 0)), (1, .int p1), (2, .int p2)]) F.1 F.2.1 (dd D_X9_brightest 11 rfl) hl (Nat.le_of_ble_eq_true rfl) rfl (fun ls hl => ?_)
    refine lv_iload_n F.1 F.2.1 (dd D_X9_brightest 12 rfl) rfl (lv_at hl 3 rfl) ?_
    refine lv_istore (lv' := [(5, .int p1), (4, .int (-1 : Int32)), (3, .int p1), (0, .ref (am 0)), (1, .int p1), (2, .int p2)]) F.1 F.2.1 (dd D_X9_brightest 13 rfl) hl (Nat.le_of_ble_eq_true rfl) rfl (fun ls hl => ?_)
    have L5 : ∀ (kf : Nat) (w3_L5 : Int32) (w4_L5 : Int32) (w5_L5 : Int32) (H : Heap) (locs : List Loc) (ls : Array Slot), va_P D vwCl (mW cA am s) H → va_D A (mW cA am s) → va_S A sM.heap H locs → lv_has ls 7 [(0, .ref (am 0)), (1, .int p1), (2, .int p2), (3, .int w3_L5), (4, .int w4_L5), (5, .int w5_L5)] → F_X9_brightest_L23 n s p1 p2 kf w3_L5 w4_L5 w5_L5 = some r → Wrw 7 0 0 D A (exq (some (.int r.1)) (mW cA am r.2)) p l e sM m ([.ref (am 0), .int p1, .int p2] : List Value).toArray below meth c H locs 0 0 23 ls [] := by
      intro kf
      induction kf with
      | zero =>
        intro w3_L5 w4_L5 w5_L5 H locs ls hP hD hS hl h
        cases (show none = some r from h)
      | succ k_L5 ih_L5 =>
        intro w3_L5 w4_L5 w5_L5 H locs ls hP hD hS hl h
        unfold F_X9_brightest_L23 at h
        refine lv_iload F.1 F.2.1 (dd D_X9_brightest 14 rfl) (lv_at hl 5 rfl) ?_
        refine lv_iload_n F.1 F.2.1 (dd D_X9_brightest 15 rfl) rfl (lv_at hl 1 rfl) ?_
        refine lv_iload_n F.1 F.2.1 (dd D_X9_brightest 16 rfl) rfl (lv_at hl 2 rfl) ?_
        refine ro_go (st' := [.int (F_X9_lastOf p1 p2), .int w5_L5]) (rS (rest := [.int w5_L5]) F (c_X9_lastOf D cA p1 p2 l) lk_X9_273 (Nat.le_of_ble_eq_true rfl) (preRO hK hS hAb (emP)) rfl hl rfl (Nat.le_of_ble_eq_true rfl) (dd D_X9_brightest 17 rfl) ⟨Nat.le_of_ble_eq_true rfl, Nat.le_of_ble_eq_true rfl⟩) rfl ?_
        refine x_icmp_gt (tgt := 67) F.1 F.2.1 (dd D_X9_brightest 18 rfl) rfl h (fun c6 h => ?_) (fun c6 h => ?_)
        · refine lv_iload_n F.1 F.2.1 (dd D_X9_brightest 34 rfl) rfl (lv_at hl 3 rfl) ?_
          obtain rfl := Option.some.inj h
          exact rw_i (R := rmOf 7 0 0) F hP hD hS hr hlk ⟨Nat.le_of_ble_eq_true rfl, Nat.le_of_ble_eq_true rfl⟩ ⟨rfl, rfl⟩ (dd D_X9_brightest 35 rfl)
        · refine lv_aload_n F.1 F.2.1 (dd D_X9_brightest 19 rfl) rfl (lv_at hl 0 rfl) ?_
          refine lv_iload F.1 F.2.1 (dd D_X9_brightest 20 rfl) (lv_at hl 5 rfl) ?_
          refine lv_sipush (v := (1200 : Int32)) F.1 F.2.1 (dd D_X9_brightest 21 rfl) ks_1200 ?_
          refine lv_sipush (v := (1439 : Int32)) F.1 F.2.1 (dd D_X9_brightest 22 rfl) ks_1439 ?_
          obtain ⟨r7, e8, h⟩ := Option.bind_eq_some_iff.mp h
          refine ro_go (st' := [.int r7]) (rV (rest := []) F (c_X9_lightIn D cA am s n w5_L5 (1200 : Int32) (1439 : Int32) r7 e8 l) lk_X9_270 (Nat.le_of_ble_eq_true rfl) (preRO hK hS hAb hP) (rcv_9 hK hP (q0 := (0)) (mp_0 cA am s)) rfl hl rfl (Nat.le_of_ble_eq_true rfl) (dd D_X9_brightest 23 rfl) ⟨Nat.le_of_ble_eq_true rfl, Nat.le_of_ble_eq_true rfl⟩) rfl ?_
          refine lv_istore (lv' := [(6, .int r7), (0, .ref (am 0)), (1, .int p1), (2, .int p2), (3, .int w3_L5), (4, .int w4_L5), (5, .int w5_L5)]) F.1 F.2.1 (dd D_X9_brightest 24 rfl) hl (Nat.le_of_ble_eq_true rfl) rfl (fun ls hl => ?_)
          refine lv_iload F.1 F.2.1 (dd D_X9_brightest 25 rfl) (lv_at hl 0 rfl) ?_
          refine lv_iload F.1 F.2.1 (dd D_X9_brightest 26 rfl) (lv_at hl 5 rfl) ?_
          refine x_icmp_le (tgt := 61) F.1 F.2.1 (dd D_X9_brightest 27 rfl) rfl h (fun c9 h => ?_) (fun c9 h => ?_)
          · refine lv_iinc (v := (w5_L5 + (1 : Int32))) (lv' := [(5, .int (w5_L5 + (1 : Int32))), (6, .int r7), (0, .ref (am 0)), (1, .int p1), (2, .int p2), (3, .int w3_L5), (4, .int w4_L5)]) F.1 F.2.1 (dd D_X9_brightest 32 rfl) hl (k := 6) rfl (congrArg (fun z => w5_L5 + z) ki_1) (Nat.le_of_ble_eq_true rfl) rfl (fun ls hl => ?_)
            refine lv_goto (tgt := 23) F.1 F.2.1 (dd D_X9_brightest 33 rfl) rfl ?_
            exact ih_L5 w3_L5 w4_L5 (w5_L5 + (1 : Int32)) _ _ ls hP hD hS (lv_sub hl [2, 3, 4, 5, 6, 0] rfl) h
          · refine lv_iload F.1 F.2.1 (dd D_X9_brightest 28 rfl) (lv_at hl 6 rfl) ?_
            refine lv_istore_n (lv' := [(3, .int w5_L5), (6, .int r7), (0, .ref (am 0)), (1, .int p1), (2, .int p2), (4, .int w4_L5), (5, .int w5_L5)]) F.1 F.2.1 (dd D_X9_brightest 29 rfl) rfl hl (Nat.le_of_ble_eq_true rfl) rfl (fun ls hl => ?_)
            refine lv_iload F.1 F.2.1 (dd D_X9_brightest 30 rfl) (lv_at hl 1 rfl) ?_
            refine lv_istore (lv' := [(4, .int r7), (3, .int w5_L5), (6, .int r7), (0, .ref (am 0)), (1, .int p1), (2, .int p2), (5, .int w5_L5)]) F.1 F.2.1 (dd D_X9_brightest 31 rfl) hl (Nat.le_of_ble_eq_true rfl) rfl (fun ls hl => ?_)
            refine lv_iinc (v := (w5_L5 + (1 : Int32))) (lv' := [(5, .int (w5_L5 + (1 : Int32))), (4, .int r7), (3, .int w5_L5), (6, .int r7), (0, .ref (am 0)), (1, .int p1), (2, .int p2)]) F.1 F.2.1 (dd D_X9_brightest 32 rfl) hl (k := 6) rfl (congrArg (fun z => w5_L5 + z) ki_1) (Nat.le_of_ble_eq_true rfl) rfl (fun ls hl => ?_)
            refine lv_goto (tgt := 23) F.1 F.2.1 (dd D_X9_brightest 33 rfl) rfl ?_
            exact ih_L5 w5_L5 r7 (w5_L5 + (1 : Int32)) _ _ ls hP hD hS (lv_sub hl [4, 5, 6, 2, 1, 0] rfl) h
    exact L5 n p1 (-1 : Int32) p1 _ _ ls hP hD hS (lv_sub hl [3, 4, 5, 2, 1, 0] rfl) h
  · refine lv_aload_n F.1 F.2.1 (dd D_X9_brightest 4 rfl) rfl (lv_at hl 0 rfl) ?_
    refine lv_bipush (v := (-2 : Int32)) F.1 F.2.1 (dd D_X9_brightest 5 rfl) kb_m2 ?_
    obtain ⟨r10, e11, h⟩ := Option.bind_eq_some_iff.mp h
    refine rwe_all (st' := [.int r10.1]) hD hS hA (rV (rest := []) F (c_X9_refuse D cA am s n (-2 : Int32) r10 e11 l H.size) lk_X9_79 (Nat.le_of_ble_eq_true rfl) (preRW hK hS hAb hP hD) (rcv_9 hK hP (q0 := (0)) (mp_0 cA am s)) rfl hl rfl (Nat.le_of_ble_eq_true rfl) (dd D_X9_brightest 6 rfl) ⟨Nat.le_of_ble_eq_true rfl, Nat.le_of_ble_eq_true rfl⟩) rfl (fun H locs hP hD hS => ?_)
    obtain rfl := Option.some.inj h
    exact rw_i (R := rmOf 7 0 0) F hP hD hS hr hlk ⟨Nat.le_of_ble_eq_true rfl, Nat.le_of_ble_eq_true rfl⟩ ⟨rfl, rfl⟩ (dd D_X9_brightest 7 rfl)
def F_X9_sees (n : Nat) (s : MS) (p1 : Int32) (p2 : Int32) (p3 : Int32) : Option (Int32 × MS) := bf (F_X9_isDay (Int32.toInt64 p1)) (bf (F_X9_in (Int32.toInt64 p2) (0 : Int64) (1439 : Int64)) (bf (F_X9_in (Int32.toInt64 p3) (0 : Int64) (1 : Int64)) ((((F_X9_rise n s p1)).bind fun r5 => (if (F_X9_mod (p2 - r5) (1440 : Int32)) ≤ (600 : Int32) then (if p3 = 0 then some (((F_X9_mod (p2 - r5) (1440 : Int32)) / (5 : Int32)), s) else (((F_X9_way n s p1)).bind fun r9 => some ((r9 + ((F_X9_mod (p2 - r5) (1440 : Int32)) / (4 : Int32))), s))) else (((F_X9_refuse n s (-5 : Int32))).bind fun r11 => some (r11.1, r11.2))))) ((((F_X9_refuse n s (-2 : Int32))).bind fun r13 => some (r13.1, r13.2)))) ((((F_X9_refuse n s (-2 : Int32))).bind fun r3 => some (r3.1, r3.2)))) ((((F_X9_refuse n s (-2 : Int32))).bind fun r1 => some (r1.1, r1.2)))
set_option maxHeartbeats 4000000 in
set_option maxRecDepth 100000 in
theorem c_X9_sees (D : va_G) (cA : Nat → ClassId) (am : Nat → Nat) (s : MS) (n : Nat) (p1 : Int32) (p2 : Int32) (p3 : Int32) (r : (Int32 × MS)) (h : F_X9_sees n s p1 p2 p3 = some r) : RW m_X9_sees 3 0 0 D cA [.ref (am 0), .int p1, .int p2, .int p3] (mW cA am s) (exq (some (.int r.1)) (mW cA am r.2)) := by
  refine RW.ofW gy_X9_sees.2.2 (Nat.le_of_ble_eq_true rfl) ?_
  intro l p e sM m below meth c A H locs F hr hlk hnm hK hP hD hS hA hAb ls hl
  have hl : lv_has ls 5 [(0, .ref (am 0)), (1, .int p1), (2, .int p2), (3, .int p3)] := hl
  unfold F_X9_sees at h
  refine lv_iload_n F.1 F.2.1 (dd D_X9_sees 0 rfl) rfl (lv_at hl 1 rfl) ?_
  refine lv_i2l (v := (Int32.toInt64 p1)) F.1 F.2.1 (dd D_X9_sees 1 rfl) rfl ?_
  refine ro_go (st' := [.int (bI (F_X9_isDay (Int32.toInt64 p1)))]) (rS (rest := []) F (c_X9_isDay D cA (Int32.toInt64 p1) l) lk_X9_67 (Nat.le_of_ble_eq_true rfl) (preRO hK hS hAb (emP)) rfl hl rfl (Nat.le_of_ble_eq_true rfl) (dd D_X9_sees 2 rfl) ⟨Nat.le_of_ble_eq_true rfl, Nat.le_of_ble_eq_true rfl⟩) rfl ?_
  refine x_bif_eq (tgt := 30) F.1 F.2.1 (dd D_X9_sees 3 rfl) rfl h (fun c17 h => ?_) (fun c17 h => ?_)
  · refine lv_aload_n F.1 F.2.1 (dd D_X9_sees 16 rfl) rfl (lv_at hl 0 rfl) ?_
    refine lv_bipush (v := (-2 : Int32)) F.1 F.2.1 (dd D_X9_sees 17 rfl) kb_m2 ?_
    obtain ⟨r1, e2, h⟩ := Option.bind_eq_some_iff.mp h
    refine rwe_all (st' := [.int r1.1]) hD hS hA (rV (rest := []) F (c_X9_refuse D cA am s n (-2 : Int32) r1 e2 l H.size) lk_X9_79 (Nat.le_of_ble_eq_true rfl) (preRW hK hS hAb hP hD) (rcv_9 hK hP (q0 := (0)) (mp_0 cA am s)) rfl hl rfl (Nat.le_of_ble_eq_true rfl) (dd D_X9_sees 18 rfl) ⟨Nat.le_of_ble_eq_true rfl, Nat.le_of_ble_eq_true rfl⟩) rfl (fun H locs hP hD hS => ?_)
    obtain rfl := Option.some.inj h
    exact rw_i (R := rmOf 3 0 0) F hP hD hS hr hlk ⟨Nat.le_of_ble_eq_true rfl, Nat.le_of_ble_eq_true rfl⟩ ⟨rfl, rfl⟩ (dd D_X9_sees 19 rfl)
  · refine lv_iload_n F.1 F.2.1 (dd D_X9_sees 4 rfl) rfl (lv_at hl 2 rfl) ?_
    refine lv_i2l (v := (Int32.toInt64 p2)) F.1 F.2.1 (dd D_X9_sees 5 rfl) rfl ?_
    refine lv_lconst (v := (0 : Int64)) F.1 F.2.1 (dd D_X9_sees 6 rfl) kl_0 ?_
    refine lv_ldc2 (own := RX9) (v := (1439 : Int64)) F.1 F.2.1 F.2.2.2.1 (F.2.2.2.2 _ (kL_X9_289)) (dd D_X9_sees 7 rfl) ?_
    refine ro_go (st' := [.int (bI (F_X9_in (Int32.toInt64 p2) (0 : Int64) (1439 : Int64)))]) (rS (rest := []) F (c_X9_in D cA (Int32.toInt64 p2) (0 : Int64) (1439 : Int64) l) lk_X9_63 (Nat.le_of_ble_eq_true rfl) (preRO hK hS hAb (emP)) rfl hl rfl (Nat.le_of_ble_eq_true rfl) (dd D_X9_sees 8 rfl) ⟨Nat.le_of_ble_eq_true rfl, Nat.le_of_ble_eq_true rfl⟩) rfl ?_
    refine x_bif_eq (tgt := 30) F.1 F.2.1 (dd D_X9_sees 9 rfl) rfl h (fun c16 h => ?_) (fun c16 h => ?_)
    · refine lv_aload_n F.1 F.2.1 (dd D_X9_sees 16 rfl) rfl (lv_at hl 0 rfl) ?_
      refine lv_bipush (v := (-2 : Int32)) F.1 F.2.1 (dd D_X9_sees 17 rfl) kb_m2 ?_
      obtain ⟨r3, e4, h⟩ := Option.bind_eq_some_iff.mp h
      refine rwe_all (st' := [.int r3.1]) hD hS hA (rV (rest := []) F (c_X9_refuse D cA am s n (-2 : Int32) r3 e4 l H.size) lk_X9_79 (Nat.le_of_ble_eq_true rfl) (preRW hK hS hAb hP hD) (rcv_9 hK hP (q0 := (0)) (mp_0 cA am s)) rfl hl rfl (Nat.le_of_ble_eq_true rfl) (dd D_X9_sees 18 rfl) ⟨Nat.le_of_ble_eq_true rfl, Nat.le_of_ble_eq_true rfl⟩) rfl (fun H locs hP hD hS => ?_)
      obtain rfl := Option.some.inj h
      exact rw_i (R := rmOf 3 0 0) F hP hD hS hr hlk ⟨Nat.le_of_ble_eq_true rfl, Nat.le_of_ble_eq_true rfl⟩ ⟨rfl, rfl⟩ (dd D_X9_sees 19 rfl)
    · refine lv_iload_n F.1 F.2.1 (dd D_X9_sees 10 rfl) rfl (lv_at hl 3 rfl) ?_
      refine lv_i2l (v := (Int32.toInt64 p3)) F.1 F.2.1 (dd D_X9_sees 11 rfl) rfl ?_
      refine lv_lconst (v := (0 : Int64)) F.1 F.2.1 (dd D_X9_sees 12 rfl) kl_0 ?_
      refine lv_lconst (v := (1 : Int64)) F.1 F.2.1 (dd D_X9_sees 13 rfl) kl_1 ?_
      refine ro_go (st' := [.int (bI (F_X9_in (Int32.toInt64 p3) (0 : Int64) (1 : Int64)))]) (rS (rest := []) F (c_X9_in D cA (Int32.toInt64 p3) (0 : Int64) (1 : Int64) l) lk_X9_63 (Nat.le_of_ble_eq_true rfl) (preRO hK hS hAb (emP)) rfl hl rfl (Nat.le_of_ble_eq_true rfl) (dd D_X9_sees 14 rfl) ⟨Nat.le_of_ble_eq_true rfl, Nat.le_of_ble_eq_true rfl⟩) rfl ?_
      refine x_bif_ne (tgt := 37) F.1 F.2.1 (dd D_X9_sees 15 rfl) rfl h (fun c15 h => ?_) (fun c15 h => ?_)
      · refine lv_iload_n F.1 F.2.1 (dd D_X9_sees 20 rfl) rfl (lv_at hl 2 rfl) ?_
        refine lv_aload_n F.1 F.2.1 (dd D_X9_sees 21 rfl) rfl (lv_at hl 0 rfl) ?_
        refine lv_iload_n F.1 F.2.1 (dd D_X9_sees 22 rfl) rfl (lv_at hl 1 rfl) ?_
        obtain ⟨r5, e6, h⟩ := Option.bind_eq_some_iff.mp h
        refine ro_go (st' := [.int r5, .int p2]) (rV (rest := [.int p2]) F (c_X9_rise D cA am s n p1 r5 e6 l) lk_X9_242 (Nat.le_of_ble_eq_true rfl) (preRO hK hS hAb hP) (rcv_9 hK hP (q0 := (0)) (mp_0 cA am s)) rfl hl rfl (Nat.le_of_ble_eq_true rfl) (dd D_X9_sees 23 rfl) ⟨Nat.le_of_ble_eq_true rfl, Nat.le_of_ble_eq_true rfl⟩) rfl ?_
        refine lv_isub F.1 F.2.1 (dd D_X9_sees 24 rfl) ?_
        refine lv_sipush (v := (1440 : Int32)) F.1 F.2.1 (dd D_X9_sees 25 rfl) ks_1440 ?_
        refine ro_go (st' := [.int (F_X9_mod (p2 - r5) (1440 : Int32))]) (rS (rest := []) F (c_X9_mod D cA (p2 - r5) (1440 : Int32) kd_1440 l) lk_X9_230 (Nat.le_of_ble_eq_true rfl) (preRO hK hS hAb (emP)) rfl hl rfl (Nat.le_of_ble_eq_true rfl) (dd D_X9_sees 26 rfl) ⟨Nat.le_of_ble_eq_true rfl, Nat.le_of_ble_eq_true rfl⟩) rfl ?_
        refine lv_istore (lv' := [(4, .int (F_X9_mod (p2 - r5) (1440 : Int32))), (0, .ref (am 0)), (1, .int p1), (2, .int p2), (3, .int p3)]) F.1 F.2.1 (dd D_X9_sees 27 rfl) hl (Nat.le_of_ble_eq_true rfl) rfl (fun ls hl => ?_)
        refine lv_iload F.1 F.2.1 (dd D_X9_sees 28 rfl) (lv_at hl 0 rfl) ?_
        refine lv_sipush (v := (600 : Int32)) F.1 F.2.1 (dd D_X9_sees 29 rfl) ks_600 ?_
        refine x_icmp_le (tgt := 67) F.1 F.2.1 (dd D_X9_sees 30 rfl) rfl h (fun c7 h => ?_) (fun c7 h => ?_)
        · refine lv_iload_n F.1 F.2.1 (dd D_X9_sees 35 rfl) rfl (lv_at hl 4 rfl) ?_
          refine x_if_ne (tgt := 78) F.1 F.2.1 (dd D_X9_sees 36 rfl) rfl h (fun c8 h => ?_) (fun c8 h => ?_)
          · refine lv_aload_n F.1 F.2.1 (dd D_X9_sees 41 rfl) rfl (lv_at hl 1 rfl) ?_
            refine lv_iload_n F.1 F.2.1 (dd D_X9_sees 42 rfl) rfl (lv_at hl 2 rfl) ?_
            obtain ⟨r9, e10, h⟩ := Option.bind_eq_some_iff.mp h
            refine ro_go (st' := [.int r9]) (rV (rest := []) F (c_X9_way D cA am s n p1 r9 e10 l) lk_X9_239 (Nat.le_of_ble_eq_true rfl) (preRO hK hS hAb hP) (rcv_9 hK hP (q0 := (0)) (mp_0 cA am s)) rfl hl rfl (Nat.le_of_ble_eq_true rfl) (dd D_X9_sees 43 rfl) ⟨Nat.le_of_ble_eq_true rfl, Nat.le_of_ble_eq_true rfl⟩) rfl ?_
            refine lv_iload F.1 F.2.1 (dd D_X9_sees 44 rfl) (lv_at hl 0 rfl) ?_
            refine lv_iconst (v := (4 : Int32)) F.1 F.2.1 (dd D_X9_sees 45 rfl) ki_4 ?_
            refine lv_idiv F.1 F.2.1 (dd D_X9_sees 46 rfl) kd_4 ?_
            refine lv_iadd F.1 F.2.1 (dd D_X9_sees 47 rfl) ?_
            obtain rfl := Option.some.inj h
            exact rw_i (R := rmOf 3 0 0) F hP hD hS hr hlk ⟨Nat.le_of_ble_eq_true rfl, Nat.le_of_ble_eq_true rfl⟩ ⟨rfl, rfl⟩ (dd D_X9_sees 48 rfl)
          · refine lv_iload F.1 F.2.1 (dd D_X9_sees 37 rfl) (lv_at hl 0 rfl) ?_
            refine lv_iconst (v := (5 : Int32)) F.1 F.2.1 (dd D_X9_sees 38 rfl) ki_5 ?_
            refine lv_idiv F.1 F.2.1 (dd D_X9_sees 39 rfl) kd_5 ?_
            refine lv_goto (tgt := 88) F.1 F.2.1 (dd D_X9_sees 40 rfl) rfl ?_
            obtain rfl := Option.some.inj h
            exact rw_i (R := rmOf 3 0 0) F hP hD hS hr hlk ⟨Nat.le_of_ble_eq_true rfl, Nat.le_of_ble_eq_true rfl⟩ ⟨rfl, rfl⟩ (dd D_X9_sees 48 rfl)
        · refine lv_aload_n F.1 F.2.1 (dd D_X9_sees 31 rfl) rfl (lv_at hl 1 rfl) ?_
          refine lv_bipush (v := (-5 : Int32)) F.1 F.2.1 (dd D_X9_sees 32 rfl) kb_m5 ?_
          obtain ⟨r11, e12, h⟩ := Option.bind_eq_some_iff.mp h
          refine rwe_all (st' := [.int r11.1]) hD hS hA (rV (rest := []) F (c_X9_refuse D cA am s n (-5 : Int32) r11 e12 l H.size) lk_X9_79 (Nat.le_of_ble_eq_true rfl) (preRW hK hS hAb hP hD) (rcv_9 hK hP (q0 := (0)) (mp_0 cA am s)) rfl hl rfl (Nat.le_of_ble_eq_true rfl) (dd D_X9_sees 33 rfl) ⟨Nat.le_of_ble_eq_true rfl, Nat.le_of_ble_eq_true rfl⟩) rfl (fun H locs hP hD hS => ?_)
          obtain rfl := Option.some.inj h
          exact rw_i (R := rmOf 3 0 0) F hP hD hS hr hlk ⟨Nat.le_of_ble_eq_true rfl, Nat.le_of_ble_eq_true rfl⟩ ⟨rfl, rfl⟩ (dd D_X9_sees 34 rfl)
      · refine lv_aload_n F.1 F.2.1 (dd D_X9_sees 16 rfl) rfl (lv_at hl 0 rfl) ?_
        refine lv_bipush (v := (-2 : Int32)) F.1 F.2.1 (dd D_X9_sees 17 rfl) kb_m2 ?_
        obtain ⟨r13, e14, h⟩ := Option.bind_eq_some_iff.mp h
        refine rwe_all (st' := [.int r13.1]) hD hS hA (rV (rest := []) F (c_X9_refuse D cA am s n (-2 : Int32) r13 e14 l H.size) lk_X9_79 (Nat.le_of_ble_eq_true rfl) (preRW hK hS hAb hP hD) (rcv_9 hK hP (q0 := (0)) (mp_0 cA am s)) rfl hl rfl (Nat.le_of_ble_eq_true rfl) (dd D_X9_sees 18 rfl) ⟨Nat.le_of_ble_eq_true rfl, Nat.le_of_ble_eq_true rfl⟩) rfl (fun H locs hP hD hS => ?_)
        obtain rfl := Option.some.inj h
        exact rw_i (R := rmOf 3 0 0) F hP hD hS hr hlk ⟨Nat.le_of_ble_eq_true rfl, Nat.le_of_ble_eq_true rfl⟩ ⟨rfl, rfl⟩ (dd D_X9_sees 19 rfl)
def F_X9_isPicture (n : Nat) (s : MS) (k : Nat) (p2 : Int32) : Option Bool := gd (inb (6 : Int32) 40) ((((F_X9_rise n s p2)).bind fun r2 => (((F_X9_lit n s p2)).bind fun r4 => gd (inb (0 : Int32) 40) (gd (inb (1 : Int32) 40) (bf (F_X9_in (Int32.toInt64 r4) ((m_rows s k) (Int32.toNatClampNeg (0 : Int32))) ((m_rows s k) (Int32.toNatClampNeg (1 : Int32)))) ((if (600 : Int32) < (F_X9_mod ((Int64.toInt32 ((m_rows s k) (Int32.toNatClampNeg (6 : Int32)))) - r2) (1440 : Int32)) then some (false) else (((F_X9_way n s p2)).bind fun r9 => gd (inb (2 : Int32) 40) (gd (inb (3 : Int32) 40) (bf (F_X9_in (Int32.toInt64 (r9 + ((F_X9_mod ((Int64.toInt32 ((m_rows s k) (Int32.toNatClampNeg (6 : Int32)))) - r2) (1440 : Int32)) / (4 : Int32)))) ((m_rows s k) (Int32.toNatClampNeg (2 : Int32))) ((m_rows s k) (Int32.toNatClampNeg (3 : Int32)))) (gd (inb (4 : Int32) 40) (gd (inb (5 : Int32) 40) (bf (F_X9_in (Int32.toInt64 ((F_X9_mod ((Int64.toInt32 ((m_rows s k) (Int32.toNatClampNeg (6 : Int32)))) - r2) (1440 : Int32)) / (5 : Int32))) ((m_rows s k) (Int32.toNatClampNeg (4 : Int32))) ((m_rows s k) (Int32.toNatClampNeg (5 : Int32)))) (some (true)) (some (false))))) (some (false))))))) (some (false)))))))
set_option maxHeartbeats 4000000 in
set_option maxRecDepth 100000 in
theorem c_X9_isPicture (D : va_G) (cA : Nat → ClassId) (am : Nat → Nat) (s : MS) (k : Nat) (hk : k < 8) (n : Nat) (p2 : Int32) (r : Bool) (h : F_X9_isPicture n s k p2 = some r) : RO m_X9_isPicture 3 D cA [.ref (am 0), .ref (am (5+k)), .int p2] (mW cA am s) (some (.int (bI r))) := by
  refine RO.ofW gy_X9_isPicture.2.2 (Nat.le_of_ble_eq_true rfl) ?_
  intro l p e sM m below meth c F hr hlk hK hP hS hAb ls hl
  have hl : lv_has ls 5 [(0, .ref (am 0)), (1, .ref (am (5+k))), (2, .int p2)] := hl
  unfold F_X9_isPicture at h
  refine lv_aload_n F.1 F.2.1 (dd D_X9_isPicture 0 rfl) rfl (lv_at hl 1 rfl) ?_
  refine lv_bipush (v := (6 : Int32)) F.1 F.2.1 (dd D_X9_isPicture 1 rfl) kb_6 ?_
  refine aldL F hK hP (5+k) (mp_row cA am s k hk) h (dd D_X9_isPicture 2 rfl) (fun z1 h => ?_)
  refine lv_l2i (v := (Int64.toInt32 ((m_rows s k) (Int32.toNatClampNeg (6 : Int32))))) F.1 F.2.1 (dd D_X9_isPicture 3 rfl) rfl ?_
  refine lv_aload_n F.1 F.2.1 (dd D_X9_isPicture 4 rfl) rfl (lv_at hl 0 rfl) ?_
  refine lv_iload_n F.1 F.2.1 (dd D_X9_isPicture 5 rfl) rfl (lv_at hl 2 rfl) ?_
  obtain ⟨r2, e3, h⟩ := Option.bind_eq_some_iff.mp h
  refine ro_go (st' := [.int r2, .int (Int64.toInt32 ((m_rows s k) (Int32.toNatClampNeg (6 : Int32))))]) (rV (rest := [.int (Int64.toInt32 ((m_rows s k) (Int32.toNatClampNeg (6 : Int32))))]) F (c_X9_rise D cA am s n p2 r2 e3 l) lk_X9_242 (Nat.le_of_ble_eq_true rfl) (preRO hK hS hAb hP) (rcv_9 hK hP (q0 := (0)) (mp_0 cA am s)) rfl hl rfl (Nat.le_of_ble_eq_true rfl) (dd D_X9_isPicture 6 rfl) ⟨Nat.le_of_ble_eq_true rfl, Nat.le_of_ble_eq_true rfl⟩) rfl ?_
  refine lv_isub F.1 F.2.1 (dd D_X9_isPicture 7 rfl) ?_
  refine lv_sipush (v := (1440 : Int32)) F.1 F.2.1 (dd D_X9_isPicture 8 rfl) ks_1440 ?_
  refine ro_go (st' := [.int (F_X9_mod ((Int64.toInt32 ((m_rows s k) (Int32.toNatClampNeg (6 : Int32)))) - r2) (1440 : Int32))]) (rS (rest := []) F (c_X9_mod D cA ((Int64.toInt32 ((m_rows s k) (Int32.toNatClampNeg (6 : Int32)))) - r2) (1440 : Int32) kd_1440 l) lk_X9_230 (Nat.le_of_ble_eq_true rfl) (preRO hK hS hAb (emP)) rfl hl rfl (Nat.le_of_ble_eq_true rfl) (dd D_X9_isPicture 9 rfl) ⟨Nat.le_of_ble_eq_true rfl, Nat.le_of_ble_eq_true rfl⟩) rfl ?_
  refine lv_istore_n (lv' := [(3, .int (F_X9_mod ((Int64.toInt32 ((m_rows s k) (Int32.toNatClampNeg (6 : Int32)))) - r2) (1440 : Int32))), (0, .ref (am 0)), (1, .ref (am (5+k))), (2, .int p2)]) F.1 F.2.1 (dd D_X9_isPicture 10 rfl) rfl hl (Nat.le_of_ble_eq_true rfl) rfl (fun ls hl => ?_)
  refine lv_aload_n F.1 F.2.1 (dd D_X9_isPicture 11 rfl) rfl (lv_at hl 1 rfl) ?_
  refine lv_iload_n F.1 F.2.1 (dd D_X9_isPicture 12 rfl) rfl (lv_at hl 3 rfl) ?_
  obtain ⟨r4, e5, h⟩ := Option.bind_eq_some_iff.mp h
  refine ro_go (st' := [.int r4]) (rV (rest := []) F (c_X9_lit D cA am s n p2 r4 e5 l) lk_X9_253 (Nat.le_of_ble_eq_true rfl) (preRO hK hS hAb hP) (rcv_9 hK hP (q0 := (0)) (mp_0 cA am s)) rfl hl rfl (Nat.le_of_ble_eq_true rfl) (dd D_X9_isPicture 13 rfl) ⟨Nat.le_of_ble_eq_true rfl, Nat.le_of_ble_eq_true rfl⟩) rfl ?_
  refine lv_i2l (v := (Int32.toInt64 r4)) F.1 F.2.1 (dd D_X9_isPicture 14 rfl) rfl ?_
  refine lv_aload_n F.1 F.2.1 (dd D_X9_isPicture 15 rfl) rfl (lv_at hl 2 rfl) ?_
  refine lv_iconst (v := (0 : Int32)) F.1 F.2.1 (dd D_X9_isPicture 16 rfl) ki_0 ?_
  refine aldL F hK hP (5+k) (mp_row cA am s k hk) h (dd D_X9_isPicture 17 rfl) (fun z6 h => ?_)
  refine lv_aload_n F.1 F.2.1 (dd D_X9_isPicture 18 rfl) rfl (lv_at hl 2 rfl) ?_
  refine lv_iconst (v := (1 : Int32)) F.1 F.2.1 (dd D_X9_isPicture 19 rfl) ki_1 ?_
  refine aldL F hK hP (5+k) (mp_row cA am s k hk) h (dd D_X9_isPicture 20 rfl) (fun z7 h => ?_)
  refine ro_go (st' := [.int (bI (F_X9_in (Int32.toInt64 r4) ((m_rows s k) (Int32.toNatClampNeg (0 : Int32))) ((m_rows s k) (Int32.toNatClampNeg (1 : Int32)))))]) (rS (rest := []) F (c_X9_in D cA (Int32.toInt64 r4) ((m_rows s k) (Int32.toNatClampNeg (0 : Int32))) ((m_rows s k) (Int32.toNatClampNeg (1 : Int32))) l) lk_X9_63 (Nat.le_of_ble_eq_true rfl) (preRO hK hS hAb (emP)) rfl hl rfl (Nat.le_of_ble_eq_true rfl) (dd D_X9_isPicture 21 rfl) ⟨Nat.le_of_ble_eq_true rfl, Nat.le_of_ble_eq_true rfl⟩) rfl ?_
  refine lv_istore (lv' := [(4, .int (bI (F_X9_in (Int32.toInt64 r4) ((m_rows s k) (Int32.toNatClampNeg (0 : Int32))) ((m_rows s k) (Int32.toNatClampNeg (1 : Int32)))))), (3, .int (F_X9_mod ((Int64.toInt32 ((m_rows s k) (Int32.toNatClampNeg (6 : Int32)))) - r2) (1440 : Int32))), (0, .ref (am 0)), (1, .ref (am (5+k))), (2, .int p2)]) F.1 F.2.1 (dd D_X9_isPicture 22 rfl) hl (Nat.le_of_ble_eq_true rfl) rfl (fun ls hl => ?_)
  refine lv_iload F.1 F.2.1 (dd D_X9_isPicture 23 rfl) (lv_at hl 0 rfl) ?_
  refine x_bif_eq (tgt := 89) F.1 F.2.1 (dd D_X9_isPicture 24 rfl) rfl h (fun c17 h => ?_) (fun c17 h => ?_)
  · refine lv_iconst (v := (0 : Int32)) F.1 F.2.1 (dd D_X9_isPicture 58 rfl) ki_0 ?_
    exact ro_z (R := rmOf 3 0 0) F hr rfl hlk (congrArg (Option.map fun z => Value.int (bI z)) h) (dd D_X9_isPicture 59 rfl)
  · refine lv_iload_n F.1 F.2.1 (dd D_X9_isPicture 25 rfl) rfl (lv_at hl 1 rfl) ?_
    refine lv_sipush (v := (600 : Int32)) F.1 F.2.1 (dd D_X9_isPicture 26 rfl) ks_600 ?_
    refine x_icmp_gt (tgt := 89) F.1 F.2.1 (dd D_X9_isPicture 27 rfl) rfl h (fun c8 h => ?_) (fun c8 h => ?_)
    · refine lv_iconst (v := (0 : Int32)) F.1 F.2.1 (dd D_X9_isPicture 58 rfl) ki_0 ?_
      exact ro_z (R := rmOf 3 0 0) F hr rfl hlk (congrArg (Option.map fun z => Value.int (bI z)) h) (dd D_X9_isPicture 59 rfl)
    · refine lv_aload_n F.1 F.2.1 (dd D_X9_isPicture 28 rfl) rfl (lv_at hl 2 rfl) ?_
      refine lv_iload_n F.1 F.2.1 (dd D_X9_isPicture 29 rfl) rfl (lv_at hl 4 rfl) ?_
      obtain ⟨r9, e10, h⟩ := Option.bind_eq_some_iff.mp h
      refine ro_go (st' := [.int r9]) (rV (rest := []) F (c_X9_way D cA am s n p2 r9 e10 l) lk_X9_239 (Nat.le_of_ble_eq_true rfl) (preRO hK hS hAb hP) (rcv_9 hK hP (q0 := (0)) (mp_0 cA am s)) rfl hl rfl (Nat.le_of_ble_eq_true rfl) (dd D_X9_isPicture 30 rfl) ⟨Nat.le_of_ble_eq_true rfl, Nat.le_of_ble_eq_true rfl⟩) rfl ?_
      refine lv_iload_n F.1 F.2.1 (dd D_X9_isPicture 31 rfl) rfl (lv_at hl 1 rfl) ?_
      refine lv_iconst (v := (4 : Int32)) F.1 F.2.1 (dd D_X9_isPicture 32 rfl) ki_4 ?_
      refine lv_idiv F.1 F.2.1 (dd D_X9_isPicture 33 rfl) kd_4 ?_
      refine lv_iadd F.1 F.2.1 (dd D_X9_isPicture 34 rfl) ?_
      refine lv_i2l (v := (Int32.toInt64 (r9 + ((F_X9_mod ((Int64.toInt32 ((m_rows s k) (Int32.toNatClampNeg (6 : Int32)))) - r2) (1440 : Int32)) / (4 : Int32))))) F.1 F.2.1 (dd D_X9_isPicture 35 rfl) rfl ?_
      refine lv_aload_n F.1 F.2.1 (dd D_X9_isPicture 36 rfl) rfl (lv_at hl 3 rfl) ?_
      refine lv_iconst (v := (2 : Int32)) F.1 F.2.1 (dd D_X9_isPicture 37 rfl) ki_2 ?_
      refine aldL F hK hP (5+k) (mp_row cA am s k hk) h (dd D_X9_isPicture 38 rfl) (fun z11 h => ?_)
      refine lv_aload_n F.1 F.2.1 (dd D_X9_isPicture 39 rfl) rfl (lv_at hl 3 rfl) ?_
      refine lv_iconst (v := (3 : Int32)) F.1 F.2.1 (dd D_X9_isPicture 40 rfl) ki_3 ?_
      refine aldL F hK hP (5+k) (mp_row cA am s k hk) h (dd D_X9_isPicture 41 rfl) (fun z12 h => ?_)
      refine ro_go (st' := [.int (bI (F_X9_in (Int32.toInt64 (r9 + ((F_X9_mod ((Int64.toInt32 ((m_rows s k) (Int32.toNatClampNeg (6 : Int32)))) - r2) (1440 : Int32)) / (4 : Int32)))) ((m_rows s k) (Int32.toNatClampNeg (2 : Int32))) ((m_rows s k) (Int32.toNatClampNeg (3 : Int32)))))]) (rS (rest := []) F (c_X9_in D cA (Int32.toInt64 (r9 + ((F_X9_mod ((Int64.toInt32 ((m_rows s k) (Int32.toNatClampNeg (6 : Int32)))) - r2) (1440 : Int32)) / (4 : Int32)))) ((m_rows s k) (Int32.toNatClampNeg (2 : Int32))) ((m_rows s k) (Int32.toNatClampNeg (3 : Int32))) l) lk_X9_63 (Nat.le_of_ble_eq_true rfl) (preRO hK hS hAb (emP)) rfl hl rfl (Nat.le_of_ble_eq_true rfl) (dd D_X9_isPicture 42 rfl) ⟨Nat.le_of_ble_eq_true rfl, Nat.le_of_ble_eq_true rfl⟩) rfl ?_
      refine x_bif_eq (tgt := 89) F.1 F.2.1 (dd D_X9_isPicture 43 rfl) rfl h (fun c16 h => ?_) (fun c16 h => ?_)
      · refine lv_iconst (v := (0 : Int32)) F.1 F.2.1 (dd D_X9_isPicture 58 rfl) ki_0 ?_
        exact ro_z (R := rmOf 3 0 0) F hr rfl hlk (congrArg (Option.map fun z => Value.int (bI z)) h) (dd D_X9_isPicture 59 rfl)
      · refine lv_iload_n F.1 F.2.1 (dd D_X9_isPicture 44 rfl) rfl (lv_at hl 1 rfl) ?_
        refine lv_iconst (v := (5 : Int32)) F.1 F.2.1 (dd D_X9_isPicture 45 rfl) ki_5 ?_
        refine lv_idiv F.1 F.2.1 (dd D_X9_isPicture 46 rfl) kd_5 ?_
        refine lv_i2l (v := (Int32.toInt64 ((F_X9_mod ((Int64.toInt32 ((m_rows s k) (Int32.toNatClampNeg (6 : Int32)))) - r2) (1440 : Int32)) / (5 : Int32)))) F.1 F.2.1 (dd D_X9_isPicture 47 rfl) rfl ?_
        refine lv_aload_n F.1 F.2.1 (dd D_X9_isPicture 48 rfl) rfl (lv_at hl 3 rfl) ?_
        refine lv_iconst (v := (4 : Int32)) F.1 F.2.1 (dd D_X9_isPicture 49 rfl) ki_4 ?_
        refine aldL F hK hP (5+k) (mp_row cA am s k hk) h (dd D_X9_isPicture 50 rfl) (fun z13 h => ?_)
        refine lv_aload_n F.1 F.2.1 (dd D_X9_isPicture 51 rfl) rfl (lv_at hl 3 rfl) ?_
        refine lv_iconst (v := (5 : Int32)) F.1 F.2.1 (dd D_X9_isPicture 52 rfl) ki_5 ?_
        refine aldL F hK hP (5+k) (mp_row cA am s k hk) h (dd D_X9_isPicture 53 rfl) (fun z14 h => ?_)
        refine ro_go (st' := [.int (bI (F_X9_in (Int32.toInt64 ((F_X9_mod ((Int64.toInt32 ((m_rows s k) (Int32.toNatClampNeg (6 : Int32)))) - r2) (1440 : Int32)) / (5 : Int32))) ((m_rows s k) (Int32.toNatClampNeg (4 : Int32))) ((m_rows s k) (Int32.toNatClampNeg (5 : Int32)))))]) (rS (rest := []) F (c_X9_in D cA (Int32.toInt64 ((F_X9_mod ((Int64.toInt32 ((m_rows s k) (Int32.toNatClampNeg (6 : Int32)))) - r2) (1440 : Int32)) / (5 : Int32))) ((m_rows s k) (Int32.toNatClampNeg (4 : Int32))) ((m_rows s k) (Int32.toNatClampNeg (5 : Int32))) l) lk_X9_63 (Nat.le_of_ble_eq_true rfl) (preRO hK hS hAb (emP)) rfl hl rfl (Nat.le_of_ble_eq_true rfl) (dd D_X9_isPicture 54 rfl) ⟨Nat.le_of_ble_eq_true rfl, Nat.le_of_ble_eq_true rfl⟩) rfl ?_
        refine x_bif_eq (tgt := 89) F.1 F.2.1 (dd D_X9_isPicture 55 rfl) rfl h (fun c15 h => ?_) (fun c15 h => ?_)
        · refine lv_iconst (v := (0 : Int32)) F.1 F.2.1 (dd D_X9_isPicture 58 rfl) ki_0 ?_
          exact ro_z (R := rmOf 3 0 0) F hr rfl hlk (congrArg (Option.map fun z => Value.int (bI z)) h) (dd D_X9_isPicture 59 rfl)
        · refine lv_iconst (v := (1 : Int32)) F.1 F.2.1 (dd D_X9_isPicture 56 rfl) ki_1 ?_
          refine lv_goto (tgt := 90) F.1 F.2.1 (dd D_X9_isPicture 57 rfl) rfl ?_
          exact ro_z (R := rmOf 3 0 0) F hr rfl hlk (congrArg (Option.map fun z => Value.int (bI z)) h) (dd D_X9_isPicture 59 rfl)
def F_X9_picture_L117 (n : Nat) (u0 : MS) (ky0 : Nat) (v1 : Int32) (v2 : Int32) (v3 : Int32) (v4 : Int32) : Nat → Int32 → Int32 → Int32 → Option (Int32 × MS)
  | 0, _, _, _ => none
  | kf + 1, w6, w7, w8 => gd (inb (7 : Int32) 40) ((if (F_X9_lastOf v2 (Int64.toInt32 ((m_rows u0 ky0) (Int32.toNatClampNeg (7 : Int32))))) < w8 then (if v3 = 0 then (((F_X9_tellsOf n u0 w6 w7 (-1 : Int32))).bind fun r23 => some (r23.1, r23.2)) else (((F_X9_tellsOf n u0 w6 w7 (0 : Int32))).bind fun r21 => some (r21.1, r21.2))) else (((F_X9_isPicture n u0 ky0 w8)).bind fun r25 => bf r25 ((if w6 = 0 then F_X9_picture_L117 n u0 ky0 v1 v2 v3 v4 kf (w6 + (1 : Int32)) w8 (w8 + (1 : Int32)) else F_X9_picture_L117 n u0 ky0 v1 v2 v3 v4 kf (w6 + (1 : Int32)) w7 (w8 + (1 : Int32)))) (F_X9_picture_L117 n u0 ky0 v1 v2 v3 v4 kf w6 w7 (w8 + (1 : Int32))))))
def F_X9_picture (n : Nat) (s : MS) (p1 : Int32) (p2 : Int32) (p3 : Int32) : Option (Int32 × MS) := bf (F_X9_in (Int32.toInt64 p1) (0 : Int64) (7 : Int64)) (bf (F_X9_isDay (Int32.toInt64 p2)) (bf (F_X9_in (Int32.toInt64 p3) (0 : Int64) (1 : Int64)) ((((F_X9_noRow n s p1)).bind fun r5 => (if r5.1 = 0 then gd (inb p1 8) (gd (inb p1 8) ((if ((m_rowSize r5.2) (Int32.toNatClampNeg p1)) < (8 : Int32) then (((F_X9_refuse n r5.2 (-2 : Int32))).bind fun r12 => some (r12.1, r12.2)) else gd (inb (7 : Int32) 40) (bf (F_X9_in ((m_rows r5.2 (Int32.toNatClampNeg p1)) (Int32.toNatClampNeg (7 : Int32))) (1 : Int64) (1000 : Int64)) (gd (inb (6 : Int32) 40) (bf (F_X9_in ((m_rows r5.2 (Int32.toNatClampNeg p1)) (Int32.toNatClampNeg (6 : Int32))) (0 : Int64) (1439 : Int64)) (F_X9_picture_L117 n r5.2 (Int32.toNatClampNeg p1) p1 p2 p3 r5.1 n (0 : Int32) (-1 : Int32) p2) ((((F_X9_refuse n r5.2 (-2 : Int32))).bind fun r41 => some (r41.1, r41.2))))) ((((F_X9_refuse n r5.2 (-2 : Int32))).bind fun r15 => some (r15.1, r15.2))))))) else some (r5.1, r5.2)))) ((((F_X9_refuse n s (-2 : Int32))).bind fun r45 => some (r45.1, r45.2)))) ((((F_X9_refuse n s (-2 : Int32))).bind fun r3 => some (r3.1, r3.2)))) ((((F_X9_refuse n s (-2 : Int32))).bind fun r1 => some (r1.1, r1.2)))
set_option maxHeartbeats 4000000 in
set_option maxRecDepth 100000 in
theorem c_X9_picture (D : va_G) (cA : Nat → ClassId) (am : Nat → Nat) (s : MS) (n : Nat) (p1 : Int32) (p2 : Int32) (p3 : Int32) (r : (Int32 × MS)) (h : F_X9_picture n s p1 p2 p3 = some r) : RW m_X9_picture 4 0 0 D cA [.ref (am 0), .int p1, .int p2, .int p3] (mW cA am s) (exq (some (.int r.1)) (mW cA am r.2)) := by
  refine RW.ofW gy_X9_picture.2.2 (Nat.le_of_ble_eq_true rfl) ?_
  intro l p e sM m below meth c A H locs F hr hlk hnm hK hP hD hS hA hAb ls hl
  have hl : lv_has ls 9 [(0, .ref (am 0)), (1, .int p1), (2, .int p2), (3, .int p3)] := hl
  unfold F_X9_picture at h
  refine lv_iload_n F.1 F.2.1 (dd D_X9_picture 0 rfl) rfl (lv_at hl 1 rfl) ?_
  refine lv_i2l (v := (Int32.toInt64 p1)) F.1 F.2.1 (dd D_X9_picture 1 rfl) rfl ?_
  refine lv_lconst (v := (0 : Int64)) F.1 F.2.1 (dd D_X9_picture 2 rfl) kl_0 ?_
  refine lv_ldc2 (own := RX9) (v := (7 : Int64)) F.1 F.2.1 F.2.2.2.1 (F.2.2.2.2 _ (kL_X9_73)) (dd D_X9_picture 3 rfl) ?_
  refine ro_go (st' := [.int (bI (F_X9_in (Int32.toInt64 p1) (0 : Int64) (7 : Int64)))]) (rS (rest := []) F (c_X9_in D cA (Int32.toInt64 p1) (0 : Int64) (7 : Int64) l) lk_X9_63 (Nat.le_of_ble_eq_true rfl) (preRO hK hS hAb (emP)) rfl hl rfl (Nat.le_of_ble_eq_true rfl) (dd D_X9_picture 4 rfl) ⟨Nat.le_of_ble_eq_true rfl, Nat.le_of_ble_eq_true rfl⟩) rfl ?_
  refine x_bif_eq (tgt := 30) F.1 F.2.1 (dd D_X9_picture 5 rfl) rfl h (fun c49 h => ?_) (fun c49 h => ?_)
  · refine lv_aload_n F.1 F.2.1 (dd D_X9_picture 16 rfl) rfl (lv_at hl 0 rfl) ?_
    refine lv_bipush (v := (-2 : Int32)) F.1 F.2.1 (dd D_X9_picture 17 rfl) kb_m2 ?_
    obtain ⟨r1, e2, h⟩ := Option.bind_eq_some_iff.mp h
    refine rwe_all (st' := [.int r1.1]) hD hS hA (rV (rest := []) F (c_X9_refuse D cA am s n (-2 : Int32) r1 e2 l H.size) lk_X9_79 (Nat.le_of_ble_eq_true rfl) (preRW hK hS hAb hP hD) (rcv_9 hK hP (q0 := (0)) (mp_0 cA am s)) rfl hl rfl (Nat.le_of_ble_eq_true rfl) (dd D_X9_picture 18 rfl) ⟨Nat.le_of_ble_eq_true rfl, Nat.le_of_ble_eq_true rfl⟩) rfl (fun H locs hP hD hS => ?_)
    obtain rfl := Option.some.inj h
    exact rw_i (R := rmOf 4 0 0) F hP hD hS hr hlk ⟨Nat.le_of_ble_eq_true rfl, Nat.le_of_ble_eq_true rfl⟩ ⟨rfl, rfl⟩ (dd D_X9_picture 19 rfl)
  · refine lv_iload_n F.1 F.2.1 (dd D_X9_picture 6 rfl) rfl (lv_at hl 2 rfl) ?_
    refine lv_i2l (v := (Int32.toInt64 p2)) F.1 F.2.1 (dd D_X9_picture 7 rfl) rfl ?_
    refine ro_go (st' := [.int (bI (F_X9_isDay (Int32.toInt64 p2)))]) (rS (rest := []) F (c_X9_isDay D cA (Int32.toInt64 p2) l) lk_X9_67 (Nat.le_of_ble_eq_true rfl) (preRO hK hS hAb (emP)) rfl hl rfl (Nat.le_of_ble_eq_true rfl) (dd D_X9_picture 8 rfl) ⟨Nat.le_of_ble_eq_true rfl, Nat.le_of_ble_eq_true rfl⟩) rfl ?_
    refine x_bif_eq (tgt := 30) F.1 F.2.1 (dd D_X9_picture 9 rfl) rfl h (fun c48 h => ?_) (fun c48 h => ?_)
    · refine lv_aload_n F.1 F.2.1 (dd D_X9_picture 16 rfl) rfl (lv_at hl 0 rfl) ?_
      refine lv_bipush (v := (-2 : Int32)) F.1 F.2.1 (dd D_X9_picture 17 rfl) kb_m2 ?_
      obtain ⟨r3, e4, h⟩ := Option.bind_eq_some_iff.mp h
      refine rwe_all (st' := [.int r3.1]) hD hS hA (rV (rest := []) F (c_X9_refuse D cA am s n (-2 : Int32) r3 e4 l H.size) lk_X9_79 (Nat.le_of_ble_eq_true rfl) (preRW hK hS hAb hP hD) (rcv_9 hK hP (q0 := (0)) (mp_0 cA am s)) rfl hl rfl (Nat.le_of_ble_eq_true rfl) (dd D_X9_picture 18 rfl) ⟨Nat.le_of_ble_eq_true rfl, Nat.le_of_ble_eq_true rfl⟩) rfl (fun H locs hP hD hS => ?_)
      obtain rfl := Option.some.inj h
      exact rw_i (R := rmOf 4 0 0) F hP hD hS hr hlk ⟨Nat.le_of_ble_eq_true rfl, Nat.le_of_ble_eq_true rfl⟩ ⟨rfl, rfl⟩ (dd D_X9_picture 19 rfl)
    · refine lv_iload_n F.1 F.2.1 (dd D_X9_picture 10 rfl) rfl (lv_at hl 3 rfl) ?_
      refine lv_i2l (v := (Int32.toInt64 p3)) F.1 F.2.1 (dd D_X9_picture 11 rfl) rfl ?_
      refine lv_lconst (v := (0 : Int64)) F.1 F.2.1 (dd D_X9_picture 12 rfl) kl_0 ?_
      refine lv_lconst (v := (1 : Int64)) F.1 F.2.1 (dd D_X9_picture 13 rfl) kl_1 ?_
      refine ro_go (st' := [.int (bI (F_X9_in (Int32.toInt64 p3) (0 : Int64) (1 : Int64)))]) (rS (rest := []) F (c_X9_in D cA (Int32.toInt64 p3) (0 : Int64) (1 : Int64) l) lk_X9_63 (Nat.le_of_ble_eq_true rfl) (preRO hK hS hAb (emP)) rfl hl rfl (Nat.le_of_ble_eq_true rfl) (dd D_X9_picture 14 rfl) ⟨Nat.le_of_ble_eq_true rfl, Nat.le_of_ble_eq_true rfl⟩) rfl ?_
      refine x_bif_ne (tgt := 37) F.1 F.2.1 (dd D_X9_picture 15 rfl) rfl h (fun c47 h => ?_) (fun c47 h => ?_)
      · refine lv_aload_n F.1 F.2.1 (dd D_X9_picture 20 rfl) rfl (lv_at hl 0 rfl) ?_
        refine lv_iload_n F.1 F.2.1 (dd D_X9_picture 21 rfl) rfl (lv_at hl 1 rfl) ?_
        obtain ⟨r5, e6, h⟩ := Option.bind_eq_some_iff.mp h
        refine rwe_all (st' := [.int r5.1]) hD hS hA (rV (rest := []) F (c_X9_noRow D cA am s n p1 r5 e6 l H.size) lk_X9_83 (Nat.le_of_ble_eq_true rfl) (preRW hK hS hAb hP hD) (rcv_9 hK hP (q0 := (0)) (mp_0 cA am s)) rfl hl rfl (Nat.le_of_ble_eq_true rfl) (dd D_X9_picture 22 rfl) ⟨Nat.le_of_ble_eq_true rfl, Nat.le_of_ble_eq_true rfl⟩) rfl (fun H locs hP hD hS => ?_)
        refine lv_istore (lv' := [(4, .int r5.1), (0, .ref (am 0)), (1, .int p1), (2, .int p2), (3, .int p3)]) F.1 F.2.1 (dd D_X9_picture 23 rfl) hl (Nat.le_of_ble_eq_true rfl) rfl (fun ls hl => ?_)
        refine lv_iload F.1 F.2.1 (dd D_X9_picture 24 rfl) (lv_at hl 0 rfl) ?_
        refine x_if_eq (tgt := 52) F.1 F.2.1 (dd D_X9_picture 25 rfl) rfl h (fun c7 h => ?_) (fun c7 h => ?_)
        · refine lv_aload_n F.1 F.2.1 (dd D_X9_picture 28 rfl) rfl (lv_at hl 1 rfl) ?_
          refine getF F hK hP lf_X9_21 (0) (mp_0 cA am r5.2) rfl (dd D_X9_picture 29 rfl) ?_
          refine lv_iload_n F.1 F.2.1 (dd D_X9_picture 30 rfl) rfl (lv_at hl 2 rfl) ?_
          refine aldA (g := fun j => am (5+j)) F hK hP (4) (mp_4 cA am r5.2) 5 rfl (fun _ => rfl) h (dd D_X9_picture 31 rfl) (fun z8 h => ?_)
          have hk9 : (Int32.toNatClampNeg p1) < 8 := inb_lt z8
          refine lv_astore (lv' := [(5, .ref (am (5+(Int32.toNatClampNeg p1)))), (4, .int r5.1), (0, .ref (am 0)), (1, .int p1), (2, .int p2), (3, .int p3)]) F.1 F.2.1 (dd D_X9_picture 32 rfl) hl (Nat.le_of_ble_eq_true rfl) rfl (fun ls hl => ?_)
          refine lv_aload_n F.1 F.2.1 (dd D_X9_picture 33 rfl) rfl (lv_at hl 2 rfl) ?_
          refine getF F hK hP lf_X9_16 (0) (mp_0 cA am r5.2) rfl (dd D_X9_picture 34 rfl) ?_
          refine lv_iload_n F.1 F.2.1 (dd D_X9_picture 35 rfl) rfl (lv_at hl 3 rfl) ?_
          refine aldI F hK hP (3) (mp_3 cA am r5.2) h (dd D_X9_picture 36 rfl) (fun z10 h => ?_)
          refine lv_bipush (v := (8 : Int32)) F.1 F.2.1 (dd D_X9_picture 37 rfl) kb_8 ?_
          refine x_icmp_lt (tgt := 101) F.1 F.2.1 (dd D_X9_picture 38 rfl) rfl h (fun c11 h => ?_) (fun c11 h => ?_)
          · refine lv_aload_n F.1 F.2.1 (dd D_X9_picture 53 rfl) rfl (lv_at hl 2 rfl) ?_
            refine lv_bipush (v := (-2 : Int32)) F.1 F.2.1 (dd D_X9_picture 54 rfl) kb_m2 ?_
            obtain ⟨r12, e13, h⟩ := Option.bind_eq_some_iff.mp h
            refine rwe_all (st' := [.int r12.1]) hD hS hA (rV (rest := []) F (c_X9_refuse D cA am r5.2 n (-2 : Int32) r12 e13 l H.size) lk_X9_79 (Nat.le_of_ble_eq_true rfl) (preRW hK hS hAb hP hD) (rcv_9 hK hP (q0 := (0)) (mp_0 cA am r5.2)) rfl hl rfl (Nat.le_of_ble_eq_true rfl) (dd D_X9_picture 55 rfl) ⟨Nat.le_of_ble_eq_true rfl, Nat.le_of_ble_eq_true rfl⟩) rfl (fun H locs hP hD hS => ?_)
            obtain rfl := Option.some.inj h
            exact rw_i (R := rmOf 4 0 0) F hP hD hS hr hlk ⟨Nat.le_of_ble_eq_true rfl, Nat.le_of_ble_eq_true rfl⟩ ⟨rfl, rfl⟩ (dd D_X9_picture 56 rfl)
          · refine lv_aload F.1 F.2.1 (dd D_X9_picture 39 rfl) (lv_at hl 0 rfl) ?_
            refine lv_bipush (v := (7 : Int32)) F.1 F.2.1 (dd D_X9_picture 40 rfl) kb_7 ?_
            refine aldL F hK hP (5+(Int32.toNatClampNeg p1)) (mp_row cA am r5.2 (Int32.toNatClampNeg p1) hk9) h (dd D_X9_picture 41 rfl) (fun z14 h => ?_)
            refine lv_lconst (v := (1 : Int64)) F.1 F.2.1 (dd D_X9_picture 42 rfl) kl_1 ?_
            refine lv_ldc2 (own := RX9) (v := (1000 : Int64)) F.1 F.2.1 F.2.2.2.1 (F.2.2.2.2 _ (kL_X9_71)) (dd D_X9_picture 43 rfl) ?_
            refine ro_go (st' := [.int (bI (F_X9_in ((m_rows r5.2 (Int32.toNatClampNeg p1)) (Int32.toNatClampNeg (7 : Int32))) (1 : Int64) (1000 : Int64)))]) (rS (rest := []) F (c_X9_in D cA ((m_rows r5.2 (Int32.toNatClampNeg p1)) (Int32.toNatClampNeg (7 : Int32))) (1 : Int64) (1000 : Int64) l) lk_X9_63 (Nat.le_of_ble_eq_true rfl) (preRO hK hS hAb (emP)) rfl hl rfl (Nat.le_of_ble_eq_true rfl) (dd D_X9_picture 44 rfl) ⟨Nat.le_of_ble_eq_true rfl, Nat.le_of_ble_eq_true rfl⟩) rfl ?_
            refine x_bif_eq (tgt := 101) F.1 F.2.1 (dd D_X9_picture 45 rfl) rfl h (fun c44 h => ?_) (fun c44 h => ?_)
            · refine lv_aload_n F.1 F.2.1 (dd D_X9_picture 53 rfl) rfl (lv_at hl 2 rfl) ?_
              refine lv_bipush (v := (-2 : Int32)) F.1 F.2.1 (dd D_X9_picture 54 rfl) kb_m2 ?_
              obtain ⟨r15, e16, h⟩ := Option.bind_eq_some_iff.mp h
              refine rwe_all (st' := [.int r15.1]) hD hS hA (rV (rest := []) F (c_X9_refuse D cA am r5.2 n (-2 : Int32) r15 e16 l H.size) lk_X9_79 (Nat.le_of_ble_eq_true rfl) (preRW hK hS hAb hP hD) (rcv_9 hK hP (q0 := (0)) (mp_0 cA am r5.2)) rfl hl rfl (Nat.le_of_ble_eq_true rfl) (dd D_X9_picture 55 rfl) ⟨Nat.le_of_ble_eq_true rfl, Nat.le_of_ble_eq_true rfl⟩) rfl (fun H locs hP hD hS => ?_)
              obtain rfl := Option.some.inj h
              exact rw_i (R := rmOf 4 0 0) F hP hD hS hr hlk ⟨Nat.le_of_ble_eq_true rfl, Nat.le_of_ble_eq_true rfl⟩ ⟨rfl, rfl⟩ (dd D_X9_picture 56 rfl)
            · refine lv_aload F.1 F.2.1 (dd D_X9_picture 46 rfl) (lv_at hl 0 rfl) ?_
              refine lv_bipush (v := (6 : Int32)) F.1 F.2.1 (dd D_X9_picture 47 rfl) kb_6 ?_
              refine aldL F hK hP (5+(Int32.toNatClampNeg p1)) (mp_row cA am r5.2 (Int32.toNatClampNeg p1) hk9) h (dd D_X9_picture 48 rfl) (fun z17 h => ?_)
              refine lv_lconst (v := (0 : Int64)) F.1 F.2.1 (dd D_X9_picture 49 rfl) kl_0 ?_
              refine lv_ldc2 (own := RX9) (v := (1439 : Int64)) F.1 F.2.1 F.2.2.2.1 (F.2.2.2.2 _ (kL_X9_289)) (dd D_X9_picture 50 rfl) ?_
              refine ro_go (st' := [.int (bI (F_X9_in ((m_rows r5.2 (Int32.toNatClampNeg p1)) (Int32.toNatClampNeg (6 : Int32))) (0 : Int64) (1439 : Int64)))]) (rS (rest := []) F (c_X9_in D cA ((m_rows r5.2 (Int32.toNatClampNeg p1)) (Int32.toNatClampNeg (6 : Int32))) (0 : Int64) (1439 : Int64) l) lk_X9_63 (Nat.le_of_ble_eq_true rfl) (preRO hK hS hAb (emP)) rfl hl rfl (Nat.le_of_ble_eq_true rfl) (dd D_X9_picture 51 rfl) ⟨Nat.le_of_ble_eq_true rfl, Nat.le_of_ble_eq_true rfl⟩) rfl ?_
              refine x_bif_ne (tgt := 108) F.1 F.2.1 (dd D_X9_picture 52 rfl) rfl h (fun c43 h => ?_) (fun c43 h => ?_)
              · refine lv_iconst (v := (0 : Int32)) F.1 F.2.1 (dd D_X9_picture 57 rfl) ki_0 ?_
                refine lv_istore (lv' := [(6, .int (0 : Int32)), (5, .ref (am (5+(Int32.toNatClampNeg p1)))), (4, .int r5.1), (0, .ref (am 0)), (1, .int p1), (2, .int p2), (3, .int p3)]) F.1 F.2.1 (dd D_X9_picture 58 rfl) hl (Nat.le_of_ble_eq_true rfl) rfl (fun ls hl => ?_)
                refine lv_iconst (v := (-1 : Int32)) F.1 F.2.1 (dd D_X9_picture 59 rfl) ki_m1 ?_
                refine lv_istore (lv' := [(7, .int (-1 : Int32)), (6, .int (0 : Int32)), (5, .ref (am (5+(Int32.toNatClampNeg p1)))), (4, .int r5.1), (0, .ref (am 0)), (1, .int p1), (2, .int p2), (3, .int p3)]) F.1 F.2.1 (dd D_X9_picture 60 rfl) hl (Nat.le_of_ble_eq_true rfl) rfl (fun ls hl => ?_)
                refine lv_iload_n F.1 F.2.1 (dd D_X9_picture 61 rfl) rfl (lv_at hl 6 rfl) ?_
                refine lv_istore (lv' := [(8, .int p2), (7, .int (-1 : Int32)), (6, .int (0 : Int32)), (5, .ref (am (5+(Int32.toNatClampNeg p1)))), (4, .int r5.1), (0, .ref (am 0)), (1, .int p1), (2, .int p2), (3, .int p3)]) F.1 F.2.1 (dd D_X9_picture 62 rfl) hl (Nat.le_of_ble_eq_true rfl) rfl (fun ls hl => ?_)
                have L29 : ∀ (kf : Nat) (w6_L29 : Int32) (w7_L29 : Int32) (w8_L29 : Int32) (H : Heap) (locs : List Loc) (ls : Array Slot), va_P D vwCl (mW cA am r5.2) H → va_D A (mW cA am r5.2) → va_S A sM.heap H locs → lv_has ls 9 [(0, .ref (am 0)), (1, .int p1), (2, .int p2), (3, .int p3), (4, .int r5.1), (5, .ref (am (5+(Int32.toNatClampNeg p1)))), (6, .int w6_L29), (7, .int w7_L29), (8, .int w8_L29)] → F_X9_picture_L117 n r5.2 (Int32.toNatClampNeg p1) p1 p2 p3 r5.1 kf w6_L29 w7_L29 w8_L29 = some r → Wrw 4 0 0 D A (exq (some (.int r.1)) (mW cA am r.2)) p l e sM m ([.ref (am 0), .int p1, .int p2, .int p3] : List Value).toArray below meth c H locs 0 0 117 ls [] := by
                  intro kf
                  induction kf with
                  | zero =>
                    intro w6_L29 w7_L29 w8_L29 H locs ls hP hD hS hl h
                    cases (show none = some r from h)
                  | succ k_L29 ih_L29 =>
                    intro w6_L29 w7_L29 w8_L29 H locs ls hP hD hS hl h
                    unfold F_X9_picture_L117 at h
                    refine lv_iload F.1 F.2.1 (dd D_X9_picture 63 rfl) (lv_at hl 8 rfl) ?_
                    refine lv_iload_n F.1 F.2.1 (dd D_X9_picture 64 rfl) rfl (lv_at hl 2 rfl) ?_
                    refine lv_aload F.1 F.2.1 (dd D_X9_picture 65 rfl) (lv_at hl 5 rfl) ?_
                    refine lv_bipush (v := (7 : Int32)) F.1 F.2.1 (dd D_X9_picture 66 rfl) kb_7 ?_
                    refine aldL F hK hP (5+(Int32.toNatClampNeg p1)) (mp_row cA am r5.2 (Int32.toNatClampNeg p1) hk9) h (dd D_X9_picture 67 rfl) (fun z30 h => ?_)
                    refine lv_l2i (v := (Int64.toInt32 ((m_rows r5.2 (Int32.toNatClampNeg p1)) (Int32.toNatClampNeg (7 : Int32))))) F.1 F.2.1 (dd D_X9_picture 68 rfl) rfl ?_
                    refine ro_go (st' := [.int (F_X9_lastOf p2 (Int64.toInt32 ((m_rows r5.2 (Int32.toNatClampNeg p1)) (Int32.toNatClampNeg (7 : Int32))))), .int w8_L29]) (rS (rest := [.int w8_L29]) F (c_X9_lastOf D cA p2 (Int64.toInt32 ((m_rows r5.2 (Int32.toNatClampNeg p1)) (Int32.toNatClampNeg (7 : Int32)))) l) lk_X9_273 (Nat.le_of_ble_eq_true rfl) (preRO hK hS hAb (emP)) rfl hl rfl (Nat.le_of_ble_eq_true rfl) (dd D_X9_picture 69 rfl) ⟨Nat.le_of_ble_eq_true rfl, Nat.le_of_ble_eq_true rfl⟩) rfl ?_
                    refine x_icmp_gt (tgt := 166) F.1 F.2.1 (dd D_X9_picture 70 rfl) rfl h (fun c31 h => ?_) (fun c31 h => ?_)
                    · refine lv_aload_n F.1 F.2.1 (dd D_X9_picture 85 rfl) rfl (lv_at hl 0 rfl) ?_
                      refine lv_iload F.1 F.2.1 (dd D_X9_picture 86 rfl) (lv_at hl 6 rfl) ?_
                      refine lv_iload F.1 F.2.1 (dd D_X9_picture 87 rfl) (lv_at hl 7 rfl) ?_
                      refine lv_iload_n F.1 F.2.1 (dd D_X9_picture 88 rfl) rfl (lv_at hl 3 rfl) ?_
                      refine x_if_ne (tgt := 179) F.1 F.2.1 (dd D_X9_picture 89 rfl) rfl h (fun c32 h => ?_) (fun c32 h => ?_)
                      · refine lv_iconst (v := (0 : Int32)) F.1 F.2.1 (dd D_X9_picture 92 rfl) ki_0 ?_
                        obtain ⟨r33, e34, h⟩ := Option.bind_eq_some_iff.mp h
                        refine rwe_all (st' := [.int r33.1]) hD hS hA (rV (rest := []) F (c_X9_tellsOf D cA am r5.2 n w6_L29 w7_L29 (0 : Int32) r33 e34 l H.size) lk_X9_279 (Nat.le_of_ble_eq_true rfl) (preRW hK hS hAb hP hD) (rcv_9 hK hP (q0 := (0)) (mp_0 cA am r5.2)) rfl hl rfl (Nat.le_of_ble_eq_true rfl) (dd D_X9_picture 93 rfl) ⟨Nat.le_of_ble_eq_true rfl, Nat.le_of_ble_eq_true rfl⟩) rfl (fun H locs hP hD hS => ?_)
                        obtain rfl := Option.some.inj h
                        exact rw_i (R := rmOf 4 0 0) F hP hD hS hr hlk ⟨Nat.le_of_ble_eq_true rfl, Nat.le_of_ble_eq_true rfl⟩ ⟨rfl, rfl⟩ (dd D_X9_picture 94 rfl)
                      · refine lv_iconst (v := (-1 : Int32)) F.1 F.2.1 (dd D_X9_picture 90 rfl) ki_m1 ?_
                        refine lv_goto (tgt := 180) F.1 F.2.1 (dd D_X9_picture 91 rfl) rfl ?_
                        obtain ⟨r35, e36, h⟩ := Option.bind_eq_some_iff.mp h
                        refine rwe_all (st' := [.int r35.1]) hD hS hA (rV (rest := []) F (c_X9_tellsOf D cA am r5.2 n w6_L29 w7_L29 (-1 : Int32) r35 e36 l H.size) lk_X9_279 (Nat.le_of_ble_eq_true rfl) (preRW hK hS hAb hP hD) (rcv_9 hK hP (q0 := (0)) (mp_0 cA am r5.2)) rfl hl rfl (Nat.le_of_ble_eq_true rfl) (dd D_X9_picture 93 rfl) ⟨Nat.le_of_ble_eq_true rfl, Nat.le_of_ble_eq_true rfl⟩) rfl (fun H locs hP hD hS => ?_)
                        obtain rfl := Option.some.inj h
                        exact rw_i (R := rmOf 4 0 0) F hP hD hS hr hlk ⟨Nat.le_of_ble_eq_true rfl, Nat.le_of_ble_eq_true rfl⟩ ⟨rfl, rfl⟩ (dd D_X9_picture 94 rfl)
                    · refine lv_aload_n F.1 F.2.1 (dd D_X9_picture 71 rfl) rfl (lv_at hl 0 rfl) ?_
                      refine lv_aload F.1 F.2.1 (dd D_X9_picture 72 rfl) (lv_at hl 5 rfl) ?_
                      refine lv_iload F.1 F.2.1 (dd D_X9_picture 73 rfl) (lv_at hl 8 rfl) ?_
                      obtain ⟨r37, e38, h⟩ := Option.bind_eq_some_iff.mp h
                      refine ro_go (st' := [.int (bI r37)]) (rV (rest := []) F (c_X9_isPicture D cA am r5.2 (Int32.toNatClampNeg p1) hk9 n w8_L29 r37 e38 l) lk_X9_291 (Nat.le_of_ble_eq_true rfl) (preRO hK hS hAb hP) (rcv_9 hK hP (q0 := (0)) (mp_0 cA am r5.2)) rfl hl rfl (Nat.le_of_ble_eq_true rfl) (dd D_X9_picture 74 rfl) ⟨Nat.le_of_ble_eq_true rfl, Nat.le_of_ble_eq_true rfl⟩) rfl ?_
                      refine x_bif_eq (tgt := 160) F.1 F.2.1 (dd D_X9_picture 75 rfl) rfl h (fun c40 h => ?_) (fun c40 h => ?_)
                      · refine lv_iinc (v := (w8_L29 + (1 : Int32))) (lv' := [(8, .int (w8_L29 + (1 : Int32))), (0, .ref (am 0)), (1, .int p1), (2, .int p2), (3, .int p3), (4, .int r5.1), (5, .ref (am (5+(Int32.toNatClampNeg p1)))), (6, .int w6_L29), (7, .int w7_L29)]) F.1 F.2.1 (dd D_X9_picture 83 rfl) hl (k := 8) rfl (congrArg (fun z => w8_L29 + z) ki_1) (Nat.le_of_ble_eq_true rfl) rfl (fun ls hl => ?_)
                        refine lv_goto (tgt := 117) F.1 F.2.1 (dd D_X9_picture 84 rfl) rfl ?_
                        exact ih_L29 w6_L29 w7_L29 (w8_L29 + (1 : Int32)) _ _ ls hP hD hS (lv_sub hl [1, 2, 3, 4, 5, 6, 7, 8, 0] rfl) h
                      · refine lv_iload F.1 F.2.1 (dd D_X9_picture 76 rfl) (lv_at hl 6 rfl) ?_
                        refine x_if_ne (tgt := 153) F.1 F.2.1 (dd D_X9_picture 77 rfl) rfl h (fun c39 h => ?_) (fun c39 h => ?_)
                        · refine lv_iload F.1 F.2.1 (dd D_X9_picture 80 rfl) (lv_at hl 7 rfl) ?_
                          refine lv_istore (lv' := [(7, .int w7_L29), (0, .ref (am 0)), (1, .int p1), (2, .int p2), (3, .int p3), (4, .int r5.1), (5, .ref (am (5+(Int32.toNatClampNeg p1)))), (6, .int w6_L29), (8, .int w8_L29)]) F.1 F.2.1 (dd D_X9_picture 81 rfl) hl (Nat.le_of_ble_eq_true rfl) rfl (fun ls hl => ?_)
                          refine lv_iinc (v := (w6_L29 + (1 : Int32))) (lv' := [(6, .int (w6_L29 + (1 : Int32))), (7, .int w7_L29), (0, .ref (am 0)), (1, .int p1), (2, .int p2), (3, .int p3), (4, .int r5.1), (5, .ref (am (5+(Int32.toNatClampNeg p1)))), (8, .int w8_L29)]) F.1 F.2.1 (dd D_X9_picture 82 rfl) hl (k := 7) rfl (congrArg (fun z => w6_L29 + z) ki_1) (Nat.le_of_ble_eq_true rfl) rfl (fun ls hl => ?_)
                          refine lv_iinc (v := (w8_L29 + (1 : Int32))) (lv' := [(8, .int (w8_L29 + (1 : Int32))), (6, .int (w6_L29 + (1 : Int32))), (7, .int w7_L29), (0, .ref (am 0)), (1, .int p1), (2, .int p2), (3, .int p3), (4, .int r5.1), (5, .ref (am (5+(Int32.toNatClampNeg p1))))]) F.1 F.2.1 (dd D_X9_picture 83 rfl) hl (k := 8) rfl (congrArg (fun z => w8_L29 + z) ki_1) (Nat.le_of_ble_eq_true rfl) rfl (fun ls hl => ?_)
                          refine lv_goto (tgt := 117) F.1 F.2.1 (dd D_X9_picture 84 rfl) rfl ?_
                          exact ih_L29 (w6_L29 + (1 : Int32)) w7_L29 (w8_L29 + (1 : Int32)) _ _ ls hP hD hS (lv_sub hl [3, 4, 5, 6, 7, 8, 1, 2, 0] rfl) h
                        · refine lv_iload F.1 F.2.1 (dd D_X9_picture 78 rfl) (lv_at hl 8 rfl) ?_
                          refine lv_goto (tgt := 155) F.1 F.2.1 (dd D_X9_picture 79 rfl) rfl ?_
                          refine lv_istore (lv' := [(7, .int w8_L29), (0, .ref (am 0)), (1, .int p1), (2, .int p2), (3, .int p3), (4, .int r5.1), (5, .ref (am (5+(Int32.toNatClampNeg p1)))), (6, .int w6_L29), (8, .int w8_L29)]) F.1 F.2.1 (dd D_X9_picture 81 rfl) hl (Nat.le_of_ble_eq_true rfl) rfl (fun ls hl => ?_)
                          refine lv_iinc (v := (w6_L29 + (1 : Int32))) (lv' := [(6, .int (w6_L29 + (1 : Int32))), (7, .int w8_L29), (0, .ref (am 0)), (1, .int p1), (2, .int p2), (3, .int p3), (4, .int r5.1), (5, .ref (am (5+(Int32.toNatClampNeg p1)))), (8, .int w8_L29)]) F.1 F.2.1 (dd D_X9_picture 82 rfl) hl (k := 7) rfl (congrArg (fun z => w6_L29 + z) ki_1) (Nat.le_of_ble_eq_true rfl) rfl (fun ls hl => ?_)
                          refine lv_iinc (v := (w8_L29 + (1 : Int32))) (lv' := [(8, .int (w8_L29 + (1 : Int32))), (6, .int (w6_L29 + (1 : Int32))), (7, .int w8_L29), (0, .ref (am 0)), (1, .int p1), (2, .int p2), (3, .int p3), (4, .int r5.1), (5, .ref (am (5+(Int32.toNatClampNeg p1))))]) F.1 F.2.1 (dd D_X9_picture 83 rfl) hl (k := 8) rfl (congrArg (fun z => w8_L29 + z) ki_1) (Nat.le_of_ble_eq_true rfl) rfl (fun ls hl => ?_)
                          refine lv_goto (tgt := 117) F.1 F.2.1 (dd D_X9_picture 84 rfl) rfl ?_
                          exact ih_L29 (w6_L29 + (1 : Int32)) w8_L29 (w8_L29 + (1 : Int32)) _ _ ls hP hD hS (lv_sub hl [3, 4, 5, 6, 7, 8, 1, 2, 0] rfl) h
                exact L29 n (0 : Int32) (-1 : Int32) p2 _ _ ls hP hD hS (lv_sub hl [5, 6, 7, 8, 4, 3, 2, 1, 0] rfl) h
              · refine lv_aload_n F.1 F.2.1 (dd D_X9_picture 53 rfl) rfl (lv_at hl 2 rfl) ?_
                refine lv_bipush (v := (-2 : Int32)) F.1 F.2.1 (dd D_X9_picture 54 rfl) kb_m2 ?_
                obtain ⟨r41, e42, h⟩ := Option.bind_eq_some_iff.mp h
                refine rwe_all (st' := [.int r41.1]) hD hS hA (rV (rest := []) F (c_X9_refuse D cA am r5.2 n (-2 : Int32) r41 e42 l H.size) lk_X9_79 (Nat.le_of_ble_eq_true rfl) (preRW hK hS hAb hP hD) (rcv_9 hK hP (q0 := (0)) (mp_0 cA am r5.2)) rfl hl rfl (Nat.le_of_ble_eq_true rfl) (dd D_X9_picture 55 rfl) ⟨Nat.le_of_ble_eq_true rfl, Nat.le_of_ble_eq_true rfl⟩) rfl (fun H locs hP hD hS => ?_)
                obtain rfl := Option.some.inj h
                exact rw_i (R := rmOf 4 0 0) F hP hD hS hr hlk ⟨Nat.le_of_ble_eq_true rfl, Nat.le_of_ble_eq_true rfl⟩ ⟨rfl, rfl⟩ (dd D_X9_picture 56 rfl)
        · refine lv_iload F.1 F.2.1 (dd D_X9_picture 26 rfl) (lv_at hl 0 rfl) ?_
          obtain rfl := Option.some.inj h
          exact rw_i (R := rmOf 4 0 0) F hP hD hS hr hlk ⟨Nat.le_of_ble_eq_true rfl, Nat.le_of_ble_eq_true rfl⟩ ⟨rfl, rfl⟩ (dd D_X9_picture 27 rfl)
      · refine lv_aload_n F.1 F.2.1 (dd D_X9_picture 16 rfl) rfl (lv_at hl 0 rfl) ?_
        refine lv_bipush (v := (-2 : Int32)) F.1 F.2.1 (dd D_X9_picture 17 rfl) kb_m2 ?_
        obtain ⟨r45, e46, h⟩ := Option.bind_eq_some_iff.mp h
        refine rwe_all (st' := [.int r45.1]) hD hS hA (rV (rest := []) F (c_X9_refuse D cA am s n (-2 : Int32) r45 e46 l H.size) lk_X9_79 (Nat.le_of_ble_eq_true rfl) (preRW hK hS hAb hP hD) (rcv_9 hK hP (q0 := (0)) (mp_0 cA am s)) rfl hl rfl (Nat.le_of_ble_eq_true rfl) (dd D_X9_picture 18 rfl) ⟨Nat.le_of_ble_eq_true rfl, Nat.le_of_ble_eq_true rfl⟩) rfl (fun H locs hP hD hS => ?_)
        obtain rfl := Option.some.inj h
        exact rw_i (R := rmOf 4 0 0) F hP hD hS hr hlk ⟨Nat.le_of_ble_eq_true rfl, Nat.le_of_ble_eq_true rfl⟩ ⟨rfl, rfl⟩ (dd D_X9_picture 19 rfl)
def F_X9_seen_L29 (n : Nat) (u0 : MS) (v1 : Int32) (v2 : Int32) : Nat → Int32 → Option (Int32 × MS)
  | 0, _ => none
  | kf + 1, w3 => (if (F_X9_lastOf v1 (1000 : Int32)) < w3 then some ((-1 : Int32), u0) else (((F_X9_age n u0 w3)).bind fun r4 => bf (F_X9_in (Int32.toInt64 r4) (Int32.toInt64 ((150 : Int32) - v2)) (1476 : Int64)) ((((F_X9_isCloud n u0 w3)).bind fun r6 => bf r6 (F_X9_seen_L29 n u0 v1 v2 kf (w3 + (1 : Int32))) (some (w3, u0)))) (F_X9_seen_L29 n u0 v1 v2 kf (w3 + (1 : Int32)))))
def F_X9_seen (n : Nat) (s : MS) (p1 : Int32) (p2 : Int32) : Option (Int32 × MS) := bf (F_X9_isDay (Int32.toInt64 p1)) (bf (F_X9_in (Int32.toInt64 p2) (0 : Int64) (50 : Int64)) (F_X9_seen_L29 n s p1 p2 n p1) ((((F_X9_refuse n s (-2 : Int32))).bind fun r18 => some (r18.1, r18.2)))) ((((F_X9_refuse n s (-2 : Int32))).bind fun r1 => some (r1.1, r1.2)))
set_option maxHeartbeats 4000000 in
set_option maxRecDepth 100000 in
theorem c_X9_seen (D : va_G) (cA : Nat → ClassId) (am : Nat → Nat) (s : MS) (n : Nat) (p1 : Int32) (p2 : Int32) (r : (Int32 × MS)) (h : F_X9_seen n s p1 p2 = some r) : RW m_X9_seen 2 0 0 D cA [.ref (am 0), .int p1, .int p2] (mW cA am s) (exq (some (.int r.1)) (mW cA am r.2)) := by
  refine RW.ofW gy_X9_seen.2.2 (Nat.le_of_ble_eq_true rfl) ?_
  intro l p e sM m below meth c A H locs F hr hlk hnm hK hP hD hS hA hAb ls hl
  have hl : lv_has ls 4 [(0, .ref (am 0)), (1, .int p1), (2, .int p2)] := hl
  unfold F_X9_seen at h
  refine lv_iload_n F.1 F.2.1 (dd D_X9_seen 0 rfl) rfl (lv_at hl 1 rfl) ?_
  refine lv_i2l (v := (Int32.toInt64 p1)) F.1 F.2.1 (dd D_X9_seen 1 rfl) rfl ?_
  refine ro_go (st' := [.int (bI (F_X9_isDay (Int32.toInt64 p1)))]) (rS (rest := []) F (c_X9_isDay D cA (Int32.toInt64 p1) l) lk_X9_67 (Nat.le_of_ble_eq_true rfl) (preRO hK hS hAb (emP)) rfl hl rfl (Nat.le_of_ble_eq_true rfl) (dd D_X9_seen 2 rfl) ⟨Nat.le_of_ble_eq_true rfl, Nat.le_of_ble_eq_true rfl⟩) rfl ?_
  refine x_bif_eq (tgt := 20) F.1 F.2.1 (dd D_X9_seen 3 rfl) rfl h (fun c21 h => ?_) (fun c21 h => ?_)
  · refine lv_aload_n F.1 F.2.1 (dd D_X9_seen 10 rfl) rfl (lv_at hl 0 rfl) ?_
    refine lv_bipush (v := (-2 : Int32)) F.1 F.2.1 (dd D_X9_seen 11 rfl) kb_m2 ?_
    obtain ⟨r1, e2, h⟩ := Option.bind_eq_some_iff.mp h
    refine rwe_all (st' := [.int r1.1]) hD hS hA (rV (rest := []) F (c_X9_refuse D cA am s n (-2 : Int32) r1 e2 l H.size) lk_X9_79 (Nat.le_of_ble_eq_true rfl) (preRW hK hS hAb hP hD) (rcv_9 hK hP (q0 := (0)) (mp_0 cA am s)) rfl hl rfl (Nat.le_of_ble_eq_true rfl) (dd D_X9_seen 12 rfl) ⟨Nat.le_of_ble_eq_true rfl, Nat.le_of_ble_eq_true rfl⟩) rfl (fun H locs hP hD hS => ?_)
    obtain rfl := Option.some.inj h
    exact rw_i (R := rmOf 2 0 0) F hP hD hS hr hlk ⟨Nat.le_of_ble_eq_true rfl, Nat.le_of_ble_eq_true rfl⟩ ⟨rfl, rfl⟩ (dd D_X9_seen 13 rfl)
  · refine lv_iload_n F.1 F.2.1 (dd D_X9_seen 4 rfl) rfl (lv_at hl 2 rfl) ?_
    refine lv_i2l (v := (Int32.toInt64 p2)) F.1 F.2.1 (dd D_X9_seen 5 rfl) rfl ?_
    refine lv_lconst (v := (0 : Int64)) F.1 F.2.1 (dd D_X9_seen 6 rfl) kl_0 ?_
    refine lv_ldc2 (own := RX9) (v := (50 : Int64)) F.1 F.2.1 F.2.2.2.1 (F.2.2.2.2 _ (kL_X9_295)) (dd D_X9_seen 7 rfl) ?_
    refine ro_go (st' := [.int (bI (F_X9_in (Int32.toInt64 p2) (0 : Int64) (50 : Int64)))]) (rS (rest := []) F (c_X9_in D cA (Int32.toInt64 p2) (0 : Int64) (50 : Int64) l) lk_X9_63 (Nat.le_of_ble_eq_true rfl) (preRO hK hS hAb (emP)) rfl hl rfl (Nat.le_of_ble_eq_true rfl) (dd D_X9_seen 8 rfl) ⟨Nat.le_of_ble_eq_true rfl, Nat.le_of_ble_eq_true rfl⟩) rfl ?_
    refine x_bif_ne (tgt := 27) F.1 F.2.1 (dd D_X9_seen 9 rfl) rfl h (fun c20 h => ?_) (fun c20 h => ?_)
    · refine lv_iload_n F.1 F.2.1 (dd D_X9_seen 14 rfl) rfl (lv_at hl 1 rfl) ?_
      refine lv_istore_n (lv' := [(3, .int p1), (0, .ref (am 0)), (1, .int p1), (2, .int p2)]) F.1 F.2.1 (dd D_X9_seen 15 rfl) rfl hl (Nat.le_of_ble_eq_true rfl) rfl (fun ls hl => ?_)
      have L10 : ∀ (kf : Nat) (w3_L10 : Int32) (H : Heap) (locs : List Loc) (ls : Array Slot), va_P D vwCl (mW cA am s) H → va_D A (mW cA am s) → va_S A sM.heap H locs → lv_has ls 4 [(0, .ref (am 0)), (1, .int p1), (2, .int p2), (3, .int w3_L10)] → F_X9_seen_L29 n s p1 p2 kf w3_L10 = some r → Wrw 2 0 0 D A (exq (some (.int r.1)) (mW cA am r.2)) p l e sM m ([.ref (am 0), .int p1, .int p2] : List Value).toArray below meth c H locs 0 0 29 ls [] := by
        intro kf
        induction kf with
        | zero =>
          intro w3_L10 H locs ls hP hD hS hl h
          cases (show none = some r from h)
        | succ k_L10 ih_L10 =>
          intro w3_L10 H locs ls hP hD hS hl h
          unfold F_X9_seen_L29 at h
          refine lv_iload_n F.1 F.2.1 (dd D_X9_seen 16 rfl) rfl (lv_at hl 3 rfl) ?_
          refine lv_iload_n F.1 F.2.1 (dd D_X9_seen 17 rfl) rfl (lv_at hl 1 rfl) ?_
          refine lv_sipush (v := (1000 : Int32)) F.1 F.2.1 (dd D_X9_seen 18 rfl) ks_1000 ?_
          refine ro_go (st' := [.int (F_X9_lastOf p1 (1000 : Int32)), .int w3_L10]) (rS (rest := [.int w3_L10]) F (c_X9_lastOf D cA p1 (1000 : Int32) l) lk_X9_273 (Nat.le_of_ble_eq_true rfl) (preRO hK hS hAb (emP)) rfl hl rfl (Nat.le_of_ble_eq_true rfl) (dd D_X9_seen 19 rfl) ⟨Nat.le_of_ble_eq_true rfl, Nat.le_of_ble_eq_true rfl⟩) rfl ?_
          refine x_icmp_gt (tgt := 77) F.1 F.2.1 (dd D_X9_seen 20 rfl) rfl h (fun c11 h => ?_) (fun c11 h => ?_)
          · refine lv_iconst (v := (-1 : Int32)) F.1 F.2.1 (dd D_X9_seen 40 rfl) ki_m1 ?_
            obtain rfl := Option.some.inj h
            exact rw_i (R := rmOf 2 0 0) F hP hD hS hr hlk ⟨Nat.le_of_ble_eq_true rfl, Nat.le_of_ble_eq_true rfl⟩ ⟨rfl, rfl⟩ (dd D_X9_seen 41 rfl)
          · refine lv_aload_n F.1 F.2.1 (dd D_X9_seen 21 rfl) rfl (lv_at hl 0 rfl) ?_
            refine lv_iload_n F.1 F.2.1 (dd D_X9_seen 22 rfl) rfl (lv_at hl 3 rfl) ?_
            obtain ⟨r12, e13, h⟩ := Option.bind_eq_some_iff.mp h
            refine ro_go (st' := [.int r12]) (rV (rest := []) F (c_X9_age D cA am s n w3_L10 r12 e13 l) lk_X9_96 (Nat.le_of_ble_eq_true rfl) (preRO hK hS hAb hP) (rcv_9 hK hP (q0 := (0)) (mp_0 cA am s)) rfl hl rfl (Nat.le_of_ble_eq_true rfl) (dd D_X9_seen 23 rfl) ⟨Nat.le_of_ble_eq_true rfl, Nat.le_of_ble_eq_true rfl⟩) rfl ?_
            refine lv_i2l (v := (Int32.toInt64 r12)) F.1 F.2.1 (dd D_X9_seen 24 rfl) rfl ?_
            refine lv_sipush (v := (150 : Int32)) F.1 F.2.1 (dd D_X9_seen 25 rfl) ks_150 ?_
            refine lv_iload_n F.1 F.2.1 (dd D_X9_seen 26 rfl) rfl (lv_at hl 2 rfl) ?_
            refine lv_isub F.1 F.2.1 (dd D_X9_seen 27 rfl) ?_
            refine lv_i2l (v := (Int32.toInt64 ((150 : Int32) - p2))) F.1 F.2.1 (dd D_X9_seen 28 rfl) rfl ?_
            refine lv_ldc2 (own := RX9) (v := (1476 : Int64)) F.1 F.2.1 F.2.2.2.1 (F.2.2.2.2 _ (kL_X9_297)) (dd D_X9_seen 29 rfl) ?_
            refine ro_go (st' := [.int (bI (F_X9_in (Int32.toInt64 r12) (Int32.toInt64 ((150 : Int32) - p2)) (1476 : Int64)))]) (rS (rest := []) F (c_X9_in D cA (Int32.toInt64 r12) (Int32.toInt64 ((150 : Int32) - p2)) (1476 : Int64) l) lk_X9_63 (Nat.le_of_ble_eq_true rfl) (preRO hK hS hAb (emP)) rfl hl rfl (Nat.le_of_ble_eq_true rfl) (dd D_X9_seen 30 rfl) ⟨Nat.le_of_ble_eq_true rfl, Nat.le_of_ble_eq_true rfl⟩) rfl ?_
            refine x_bif_eq (tgt := 71) F.1 F.2.1 (dd D_X9_seen 31 rfl) rfl h (fun c17 h => ?_) (fun c17 h => ?_)
            · refine lv_iinc (v := (w3_L10 + (1 : Int32))) (lv' := [(3, .int (w3_L10 + (1 : Int32))), (0, .ref (am 0)), (1, .int p1), (2, .int p2)]) F.1 F.2.1 (dd D_X9_seen 38 rfl) hl (k := 3) rfl (congrArg (fun z => w3_L10 + z) ki_1) (Nat.le_of_ble_eq_true rfl) rfl (fun ls hl => ?_)
              refine lv_goto (tgt := 29) F.1 F.2.1 (dd D_X9_seen 39 rfl) rfl ?_
              exact ih_L10 (w3_L10 + (1 : Int32)) _ _ ls hP hD hS (lv_sub hl [1, 2, 3, 0] rfl) h
            · refine lv_aload_n F.1 F.2.1 (dd D_X9_seen 32 rfl) rfl (lv_at hl 0 rfl) ?_
              refine lv_iload_n F.1 F.2.1 (dd D_X9_seen 33 rfl) rfl (lv_at hl 3 rfl) ?_
              obtain ⟨r14, e15, h⟩ := Option.bind_eq_some_iff.mp h
              refine ro_go (st' := [.int (bI r14)]) (rV (rest := []) F (c_X9_isCloud D cA am s n w3_L10 r14 e15 l) lk_X9_133 (Nat.le_of_ble_eq_true rfl) (preRO hK hS hAb hP) (rcv_9 hK hP (q0 := (0)) (mp_0 cA am s)) rfl hl rfl (Nat.le_of_ble_eq_true rfl) (dd D_X9_seen 34 rfl) ⟨Nat.le_of_ble_eq_true rfl, Nat.le_of_ble_eq_true rfl⟩) rfl ?_
              refine x_bif_ne (tgt := 71) F.1 F.2.1 (dd D_X9_seen 35 rfl) rfl h (fun c16 h => ?_) (fun c16 h => ?_)
              · refine lv_iinc (v := (w3_L10 + (1 : Int32))) (lv' := [(3, .int (w3_L10 + (1 : Int32))), (0, .ref (am 0)), (1, .int p1), (2, .int p2)]) F.1 F.2.1 (dd D_X9_seen 38 rfl) hl (k := 3) rfl (congrArg (fun z => w3_L10 + z) ki_1) (Nat.le_of_ble_eq_true rfl) rfl (fun ls hl => ?_)
                refine lv_goto (tgt := 29) F.1 F.2.1 (dd D_X9_seen 39 rfl) rfl ?_
                exact ih_L10 (w3_L10 + (1 : Int32)) _ _ ls hP hD hS (lv_sub hl [1, 2, 3, 0] rfl) h
              · refine lv_iload_n F.1 F.2.1 (dd D_X9_seen 36 rfl) rfl (lv_at hl 3 rfl) ?_
                obtain rfl := Option.some.inj h
                exact rw_i (R := rmOf 2 0 0) F hP hD hS hr hlk ⟨Nat.le_of_ble_eq_true rfl, Nat.le_of_ble_eq_true rfl⟩ ⟨rfl, rfl⟩ (dd D_X9_seen 37 rfl)
      exact L10 n p1 _ _ ls hP hD hS (lv_sub hl [1, 2, 3, 0] rfl) h
    · refine lv_aload_n F.1 F.2.1 (dd D_X9_seen 10 rfl) rfl (lv_at hl 0 rfl) ?_
      refine lv_bipush (v := (-2 : Int32)) F.1 F.2.1 (dd D_X9_seen 11 rfl) kb_m2 ?_
      obtain ⟨r18, e19, h⟩ := Option.bind_eq_some_iff.mp h
      refine rwe_all (st' := [.int r18.1]) hD hS hA (rV (rest := []) F (c_X9_refuse D cA am s n (-2 : Int32) r18 e19 l H.size) lk_X9_79 (Nat.le_of_ble_eq_true rfl) (preRW hK hS hAb hP hD) (rcv_9 hK hP (q0 := (0)) (mp_0 cA am s)) rfl hl rfl (Nat.le_of_ble_eq_true rfl) (dd D_X9_seen 12 rfl) ⟨Nat.le_of_ble_eq_true rfl, Nat.le_of_ble_eq_true rfl⟩) rfl (fun H locs hP hD hS => ?_)
      obtain rfl := Option.some.inj h
      exact rw_i (R := rmOf 2 0 0) F hP hD hS hr hlk ⟨Nat.le_of_ble_eq_true rfl, Nat.le_of_ble_eq_true rfl⟩ ⟨rfl, rfl⟩ (dd D_X9_seen 13 rfl)
def F_X9_canBe (n : Nat) (s : MS) (p1 : Int64) : Option Bool := bf (F_X9_isDay p1) ((((F_X9_age n s (Int64.toInt32 p1))).bind fun r1 => bf (F_X9_in (Int32.toInt64 r1) (100 : Int64) (400 : Int64)) (some (true)) (some (false)))) (some (false))
set_option maxHeartbeats 4000000 in
set_option maxRecDepth 100000 in
theorem c_X9_canBe (D : va_G) (cA : Nat → ClassId) (am : Nat → Nat) (s : MS) (n : Nat) (p1 : Int64) (r : Bool) (h : F_X9_canBe n s p1 = some r) : RO m_X9_canBe 2 D cA [.ref (am 0), .long p1] (mW cA am s) (some (.int (bI r))) := by
  refine RO.ofW gy_X9_canBe.2.2 (Nat.le_of_ble_eq_true rfl) ?_
  intro l p e sM m below meth c F hr hlk hK hP hS hAb ls hl
  have hl : lv_has ls 3 [(0, .ref (am 0)), (1, .long p1)] := hl
  unfold F_X9_canBe at h
  refine lv_lload_n F.1 F.2.1 (dd D_X9_canBe 0 rfl) rfl (lv_at hl 1 rfl) ?_
  refine ro_go (st' := [.int (bI (F_X9_isDay p1))]) (rS (rest := []) F (c_X9_isDay D cA p1 l) lk_X9_67 (Nat.le_of_ble_eq_true rfl) (preRO hK hS hAb (emP)) rfl hl rfl (Nat.le_of_ble_eq_true rfl) (dd D_X9_canBe 1 rfl) ⟨Nat.le_of_ble_eq_true rfl, Nat.le_of_ble_eq_true rfl⟩) rfl ?_
  refine x_bif_eq (tgt := 30) F.1 F.2.1 (dd D_X9_canBe 2 rfl) rfl h (fun c4 h => ?_) (fun c4 h => ?_)
  · refine lv_iconst (v := (0 : Int32)) F.1 F.2.1 (dd D_X9_canBe 14 rfl) ki_0 ?_
    exact ro_z (R := rmOf 2 0 0) F hr rfl hlk (congrArg (Option.map fun z => Value.int (bI z)) h) (dd D_X9_canBe 15 rfl)
  · refine lv_aload_n F.1 F.2.1 (dd D_X9_canBe 3 rfl) rfl (lv_at hl 0 rfl) ?_
    refine lv_lload_n F.1 F.2.1 (dd D_X9_canBe 4 rfl) rfl (lv_at hl 1 rfl) ?_
    refine lv_l2i (v := (Int64.toInt32 p1)) F.1 F.2.1 (dd D_X9_canBe 5 rfl) rfl ?_
    obtain ⟨r1, e2, h⟩ := Option.bind_eq_some_iff.mp h
    refine ro_go (st' := [.int r1]) (rV (rest := []) F (c_X9_age D cA am s n (Int64.toInt32 p1) r1 e2 l) lk_X9_96 (Nat.le_of_ble_eq_true rfl) (preRO hK hS hAb hP) (rcv_9 hK hP (q0 := (0)) (mp_0 cA am s)) rfl hl rfl (Nat.le_of_ble_eq_true rfl) (dd D_X9_canBe 6 rfl) ⟨Nat.le_of_ble_eq_true rfl, Nat.le_of_ble_eq_true rfl⟩) rfl ?_
    refine lv_i2l (v := (Int32.toInt64 r1)) F.1 F.2.1 (dd D_X9_canBe 7 rfl) rfl ?_
    refine lv_ldc2 (own := RX9) (v := (100 : Int64)) F.1 F.2.1 F.2.2.2.1 (F.2.2.2.2 _ (kL_X9_299)) (dd D_X9_canBe 8 rfl) ?_
    refine lv_ldc2 (own := RX9) (v := (400 : Int64)) F.1 F.2.1 F.2.2.2.1 (F.2.2.2.2 _ (kL_X9_301)) (dd D_X9_canBe 9 rfl) ?_
    refine ro_go (st' := [.int (bI (F_X9_in (Int32.toInt64 r1) (100 : Int64) (400 : Int64)))]) (rS (rest := []) F (c_X9_in D cA (Int32.toInt64 r1) (100 : Int64) (400 : Int64) l) lk_X9_63 (Nat.le_of_ble_eq_true rfl) (preRO hK hS hAb (emP)) rfl hl rfl (Nat.le_of_ble_eq_true rfl) (dd D_X9_canBe 10 rfl) ⟨Nat.le_of_ble_eq_true rfl, Nat.le_of_ble_eq_true rfl⟩) rfl ?_
    refine x_bif_eq (tgt := 30) F.1 F.2.1 (dd D_X9_canBe 11 rfl) rfl h (fun c3 h => ?_) (fun c3 h => ?_)
    · refine lv_iconst (v := (0 : Int32)) F.1 F.2.1 (dd D_X9_canBe 14 rfl) ki_0 ?_
      exact ro_z (R := rmOf 2 0 0) F hr rfl hlk (congrArg (Option.map fun z => Value.int (bI z)) h) (dd D_X9_canBe 15 rfl)
    · refine lv_iconst (v := (1 : Int32)) F.1 F.2.1 (dd D_X9_canBe 12 rfl) ki_1 ?_
      refine lv_goto (tgt := 31) F.1 F.2.1 (dd D_X9_canBe 13 rfl) rfl ?_
      exact ro_z (R := rmOf 2 0 0) F hr rfl hlk (congrArg (Option.map fun z => Value.int (bI z)) h) (dd D_X9_canBe 15 rfl)
def F_X9_noWitnesses (n : Nat) (s : MS) (p1 : Int32) (p2 : Int32) : Option (Int32 × MS) := bf (F_X9_in (Int32.toInt64 p1) (0 : Int64) (7 : Int64)) (bf (F_X9_in (Int32.toInt64 p2) (1 : Int64) (40 : Int64)) ((((F_X9_noRow n s p1)).bind fun r3 => (if r3.1 = 0 then gd (inb p1 8) ((if p2 ≤ ((m_rowSize r3.2) (Int32.toNatClampNeg p1)) then some ((0 : Int32), r3.2) else (((F_X9_refuse n r3.2 (-2 : Int32))).bind fun r8 => some (r8.1, r8.2)))) else some (r3.1, r3.2)))) ((((F_X9_refuse n s (-2 : Int32))).bind fun r10 => some (r10.1, r10.2)))) ((((F_X9_refuse n s (-2 : Int32))).bind fun r1 => some (r1.1, r1.2)))
set_option maxHeartbeats 4000000 in
set_option maxRecDepth 100000 in
theorem c_X9_noWitnesses (D : va_G) (cA : Nat → ClassId) (am : Nat → Nat) (s : MS) (n : Nat) (p1 : Int32) (p2 : Int32) (r : (Int32 × MS)) (h : F_X9_noWitnesses n s p1 p2 = some r) : RW m_X9_noWitnesses 2 0 0 D cA [.ref (am 0), .int p1, .int p2] (mW cA am s) (exq (some (.int r.1)) (mW cA am r.2)) := by
  refine RW.ofW gy_X9_noWitnesses.2.2 (Nat.le_of_ble_eq_true rfl) ?_
  intro l p e sM m below meth c A H locs F hr hlk hnm hK hP hD hS hA hAb ls hl
  have hl : lv_has ls 4 [(0, .ref (am 0)), (1, .int p1), (2, .int p2)] := hl
  unfold F_X9_noWitnesses at h
  refine lv_iload_n F.1 F.2.1 (dd D_X9_noWitnesses 0 rfl) rfl (lv_at hl 1 rfl) ?_
  refine lv_i2l (v := (Int32.toInt64 p1)) F.1 F.2.1 (dd D_X9_noWitnesses 1 rfl) rfl ?_
  refine lv_lconst (v := (0 : Int64)) F.1 F.2.1 (dd D_X9_noWitnesses 2 rfl) kl_0 ?_
  refine lv_ldc2 (own := RX9) (v := (7 : Int64)) F.1 F.2.1 F.2.2.2.1 (F.2.2.2.2 _ (kL_X9_73)) (dd D_X9_noWitnesses 3 rfl) ?_
  refine ro_go (st' := [.int (bI (F_X9_in (Int32.toInt64 p1) (0 : Int64) (7 : Int64)))]) (rS (rest := []) F (c_X9_in D cA (Int32.toInt64 p1) (0 : Int64) (7 : Int64) l) lk_X9_63 (Nat.le_of_ble_eq_true rfl) (preRO hK hS hAb (emP)) rfl hl rfl (Nat.le_of_ble_eq_true rfl) (dd D_X9_noWitnesses 4 rfl) ⟨Nat.le_of_ble_eq_true rfl, Nat.le_of_ble_eq_true rfl⟩) rfl ?_
  refine x_bif_eq (tgt := 24) F.1 F.2.1 (dd D_X9_noWitnesses 5 rfl) rfl h (fun c13 h => ?_) (fun c13 h => ?_)
  · refine lv_aload_n F.1 F.2.1 (dd D_X9_noWitnesses 12 rfl) rfl (lv_at hl 0 rfl) ?_
    refine lv_bipush (v := (-2 : Int32)) F.1 F.2.1 (dd D_X9_noWitnesses 13 rfl) kb_m2 ?_
    obtain ⟨r1, e2, h⟩ := Option.bind_eq_some_iff.mp h
    refine rwe_all (st' := [.int r1.1]) hD hS hA (rV (rest := []) F (c_X9_refuse D cA am s n (-2 : Int32) r1 e2 l H.size) lk_X9_79 (Nat.le_of_ble_eq_true rfl) (preRW hK hS hAb hP hD) (rcv_9 hK hP (q0 := (0)) (mp_0 cA am s)) rfl hl rfl (Nat.le_of_ble_eq_true rfl) (dd D_X9_noWitnesses 14 rfl) ⟨Nat.le_of_ble_eq_true rfl, Nat.le_of_ble_eq_true rfl⟩) rfl (fun H locs hP hD hS => ?_)
    obtain rfl := Option.some.inj h
    exact rw_i (R := rmOf 2 0 0) F hP hD hS hr hlk ⟨Nat.le_of_ble_eq_true rfl, Nat.le_of_ble_eq_true rfl⟩ ⟨rfl, rfl⟩ (dd D_X9_noWitnesses 15 rfl)
  · refine lv_iload_n F.1 F.2.1 (dd D_X9_noWitnesses 6 rfl) rfl (lv_at hl 2 rfl) ?_
    refine lv_i2l (v := (Int32.toInt64 p2)) F.1 F.2.1 (dd D_X9_noWitnesses 7 rfl) rfl ?_
    refine lv_lconst (v := (1 : Int64)) F.1 F.2.1 (dd D_X9_noWitnesses 8 rfl) kl_1 ?_
    refine lv_ldc2 (own := RX9) (v := (40 : Int64)) F.1 F.2.1 F.2.2.2.1 (F.2.2.2.2 _ (kL_X9_77)) (dd D_X9_noWitnesses 9 rfl) ?_
    refine ro_go (st' := [.int (bI (F_X9_in (Int32.toInt64 p2) (1 : Int64) (40 : Int64)))]) (rS (rest := []) F (c_X9_in D cA (Int32.toInt64 p2) (1 : Int64) (40 : Int64) l) lk_X9_63 (Nat.le_of_ble_eq_true rfl) (preRO hK hS hAb (emP)) rfl hl rfl (Nat.le_of_ble_eq_true rfl) (dd D_X9_noWitnesses 10 rfl) ⟨Nat.le_of_ble_eq_true rfl, Nat.le_of_ble_eq_true rfl⟩) rfl ?_
    refine x_bif_ne (tgt := 31) F.1 F.2.1 (dd D_X9_noWitnesses 11 rfl) rfl h (fun c12 h => ?_) (fun c12 h => ?_)
    · refine lv_aload_n F.1 F.2.1 (dd D_X9_noWitnesses 16 rfl) rfl (lv_at hl 0 rfl) ?_
      refine lv_iload_n F.1 F.2.1 (dd D_X9_noWitnesses 17 rfl) rfl (lv_at hl 1 rfl) ?_
      obtain ⟨r3, e4, h⟩ := Option.bind_eq_some_iff.mp h
      refine rwe_all (st' := [.int r3.1]) hD hS hA (rV (rest := []) F (c_X9_noRow D cA am s n p1 r3 e4 l H.size) lk_X9_83 (Nat.le_of_ble_eq_true rfl) (preRW hK hS hAb hP hD) (rcv_9 hK hP (q0 := (0)) (mp_0 cA am s)) rfl hl rfl (Nat.le_of_ble_eq_true rfl) (dd D_X9_noWitnesses 18 rfl) ⟨Nat.le_of_ble_eq_true rfl, Nat.le_of_ble_eq_true rfl⟩) rfl (fun H locs hP hD hS => ?_)
      refine lv_istore_n (lv' := [(3, .int r3.1), (0, .ref (am 0)), (1, .int p1), (2, .int p2)]) F.1 F.2.1 (dd D_X9_noWitnesses 19 rfl) rfl hl (Nat.le_of_ble_eq_true rfl) rfl (fun ls hl => ?_)
      refine lv_iload_n F.1 F.2.1 (dd D_X9_noWitnesses 20 rfl) rfl (lv_at hl 0 rfl) ?_
      refine x_if_eq (tgt := 43) F.1 F.2.1 (dd D_X9_noWitnesses 21 rfl) rfl h (fun c5 h => ?_) (fun c5 h => ?_)
      · refine lv_aload_n F.1 F.2.1 (dd D_X9_noWitnesses 24 rfl) rfl (lv_at hl 1 rfl) ?_
        refine getF F hK hP lf_X9_16 (0) (mp_0 cA am r3.2) rfl (dd D_X9_noWitnesses 25 rfl) ?_
        refine lv_iload_n F.1 F.2.1 (dd D_X9_noWitnesses 26 rfl) rfl (lv_at hl 2 rfl) ?_
        refine aldI F hK hP (3) (mp_3 cA am r3.2) h (dd D_X9_noWitnesses 27 rfl) (fun z6 h => ?_)
        refine lv_iload_n F.1 F.2.1 (dd D_X9_noWitnesses 28 rfl) rfl (lv_at hl 3 rfl) ?_
        refine x_icmp_ge (tgt := 62) F.1 F.2.1 (dd D_X9_noWitnesses 29 rfl) rfl h (fun c7 h => ?_) (fun c7 h => ?_)
        · refine lv_iconst (v := (0 : Int32)) F.1 F.2.1 (dd D_X9_noWitnesses 34 rfl) ki_0 ?_
          obtain rfl := Option.some.inj h
          exact rw_i (R := rmOf 2 0 0) F hP hD hS hr hlk ⟨Nat.le_of_ble_eq_true rfl, Nat.le_of_ble_eq_true rfl⟩ ⟨rfl, rfl⟩ (dd D_X9_noWitnesses 35 rfl)
        · refine lv_aload_n F.1 F.2.1 (dd D_X9_noWitnesses 30 rfl) rfl (lv_at hl 1 rfl) ?_
          refine lv_bipush (v := (-2 : Int32)) F.1 F.2.1 (dd D_X9_noWitnesses 31 rfl) kb_m2 ?_
          obtain ⟨r8, e9, h⟩ := Option.bind_eq_some_iff.mp h
          refine rwe_all (st' := [.int r8.1]) hD hS hA (rV (rest := []) F (c_X9_refuse D cA am r3.2 n (-2 : Int32) r8 e9 l H.size) lk_X9_79 (Nat.le_of_ble_eq_true rfl) (preRW hK hS hAb hP hD) (rcv_9 hK hP (q0 := (0)) (mp_0 cA am r3.2)) rfl hl rfl (Nat.le_of_ble_eq_true rfl) (dd D_X9_noWitnesses 32 rfl) ⟨Nat.le_of_ble_eq_true rfl, Nat.le_of_ble_eq_true rfl⟩) rfl (fun H locs hP hD hS => ?_)
          refine lv_goto (tgt := 63) F.1 F.2.1 (dd D_X9_noWitnesses 33 rfl) rfl ?_
          obtain rfl := Option.some.inj h
          exact rw_i (R := rmOf 2 0 0) F hP hD hS hr hlk ⟨Nat.le_of_ble_eq_true rfl, Nat.le_of_ble_eq_true rfl⟩ ⟨rfl, rfl⟩ (dd D_X9_noWitnesses 35 rfl)
      · refine lv_iload_n F.1 F.2.1 (dd D_X9_noWitnesses 22 rfl) rfl (lv_at hl 0 rfl) ?_
        obtain rfl := Option.some.inj h
        exact rw_i (R := rmOf 2 0 0) F hP hD hS hr hlk ⟨Nat.le_of_ble_eq_true rfl, Nat.le_of_ble_eq_true rfl⟩ ⟨rfl, rfl⟩ (dd D_X9_noWitnesses 23 rfl)
    · refine lv_aload_n F.1 F.2.1 (dd D_X9_noWitnesses 12 rfl) rfl (lv_at hl 0 rfl) ?_
      refine lv_bipush (v := (-2 : Int32)) F.1 F.2.1 (dd D_X9_noWitnesses 13 rfl) kb_m2 ?_
      obtain ⟨r10, e11, h⟩ := Option.bind_eq_some_iff.mp h
      refine rwe_all (st' := [.int r10.1]) hD hS hA (rV (rest := []) F (c_X9_refuse D cA am s n (-2 : Int32) r10 e11 l H.size) lk_X9_79 (Nat.le_of_ble_eq_true rfl) (preRW hK hS hAb hP hD) (rcv_9 hK hP (q0 := (0)) (mp_0 cA am s)) rfl hl rfl (Nat.le_of_ble_eq_true rfl) (dd D_X9_noWitnesses 14 rfl) ⟨Nat.le_of_ble_eq_true rfl, Nat.le_of_ble_eq_true rfl⟩) rfl (fun H locs hP hD hS => ?_)
      obtain rfl := Option.some.inj h
      exact rw_i (R := rmOf 2 0 0) F hP hD hS hr hlk ⟨Nat.le_of_ble_eq_true rfl, Nat.le_of_ble_eq_true rfl⟩ ⟨rfl, rfl⟩ (dd D_X9_noWitnesses 15 rfl)
def F_X9_court_L50 (n : Nat) (K : Int32 → Int32 → Int32 → Option (Int32 × MS)) (u0 : MS) (v1 : Int32) (v2 : Int32) (v3 : Int32) (v4 : Int32) (v5 : Int32) (v6 : Int32) : Nat → Int32 → Int32 → Option (Int32 × MS)
  | 0, _, _ => none
  | kf + 1, w7, w8 => (if v2 ≤ w8 then (if w7 ≤ v5 then K v4 v5 (v6 + (1 : Int32)) else gd (inb v1 8) (gd (inb v6 40) (K (Int64.toInt32 ((m_rows u0 (Int32.toNatClampNeg v1)) (Int32.toNatClampNeg v6))) w7 (v6 + (1 : Int32))))) else gd (inb v1 8) (gd (inb w8 40) (gd (inb v1 8) (gd (inb v6 40) ((if (lg_cmp ((m_rows u0 (Int32.toNatClampNeg v1)) (Int32.toNatClampNeg w8)) ((m_rows u0 (Int32.toNatClampNeg v1)) (Int32.toNatClampNeg v6))) = 0 then F_X9_court_L50 n K u0 v1 v2 v3 v4 v5 v6 kf (w7 + (1 : Int32)) (w8 + (1 : Int32)) else F_X9_court_L50 n K u0 v1 v2 v3 v4 v5 v6 kf (w7 + (0 : Int32)) (w8 + (1 : Int32))))))))
def F_X9_court_L22 (n : Nat) (u0 : MS) (v1 : Int32) (v2 : Int32) (v3 : Int32) : Nat → Int32 → Int32 → Int32 → Option (Int32 × MS)
  | 0, _, _, _ => none
  | kf + 1, w4, w5, w6 => (if v2 ≤ w6 then some (w4, u0) else gd (inb v1 8) (gd (inb w6 40) ((((F_X9_canBe n u0 ((m_rows u0 (Int32.toNatClampNeg v1)) (Int32.toNatClampNeg w6)))).bind fun r8 => bf r8 (F_X9_court_L50 n (F_X9_court_L22 n u0 v1 v2 v3 kf) u0 v1 v2 v3 w4 w5 w6 n (0 : Int32) (0 : Int32)) (F_X9_court_L22 n u0 v1 v2 v3 kf w4 w5 (w6 + (1 : Int32)))))))
def F_X9_court (n : Nat) (s : MS) (p1 : Int32) (p2 : Int32) : Option (Int32 × MS) := (((F_X9_noWitnesses n s p1 p2)).bind fun r1 => (if r1.1 = 0 then F_X9_court_L22 n r1.2 p1 p2 r1.1 n (-1 : Int32) (0 : Int32) (0 : Int32) else some (r1.1, r1.2)))
set_option maxHeartbeats 4000000 in
set_option maxRecDepth 100000 in
theorem c_X9_court (D : va_G) (cA : Nat → ClassId) (am : Nat → Nat) (s : MS) (n : Nat) (p1 : Int32) (p2 : Int32) (r : (Int32 × MS)) (h : F_X9_court n s p1 p2 = some r) : RW m_X9_court 3 0 0 D cA [.ref (am 0), .int p1, .int p2] (mW cA am s) (exq (some (.int r.1)) (mW cA am r.2)) := by
  refine RW.ofW gy_X9_court.2.2 (Nat.le_of_ble_eq_true rfl) ?_
  intro l p e sM m below meth c A H locs F hr hlk hnm hK hP hD hS hA hAb ls hl
  have hl : lv_has ls 9 [(0, .ref (am 0)), (1, .int p1), (2, .int p2)] := hl
  unfold F_X9_court at h
  refine lv_aload_n F.1 F.2.1 (dd D_X9_court 0 rfl) rfl (lv_at hl 0 rfl) ?_
  refine lv_iload_n F.1 F.2.1 (dd D_X9_court 1 rfl) rfl (lv_at hl 1 rfl) ?_
  refine lv_iload_n F.1 F.2.1 (dd D_X9_court 2 rfl) rfl (lv_at hl 2 rfl) ?_
  obtain ⟨r1, e2, h⟩ := Option.bind_eq_some_iff.mp h
  refine rwe_all (st' := [.int r1.1]) hD hS hA (rV (rest := []) F (c_X9_noWitnesses D cA am s n p1 p2 r1 e2 l H.size) lk_X9_303 (Nat.le_of_ble_eq_true rfl) (preRW hK hS hAb hP hD) (rcv_9 hK hP (q0 := (0)) (mp_0 cA am s)) rfl hl rfl (Nat.le_of_ble_eq_true rfl) (dd D_X9_court 3 rfl) ⟨Nat.le_of_ble_eq_true rfl, Nat.le_of_ble_eq_true rfl⟩) rfl (fun H locs hP hD hS => ?_)
  refine lv_istore_n (lv' := [(3, .int r1.1), (0, .ref (am 0)), (1, .int p1), (2, .int p2)]) F.1 F.2.1 (dd D_X9_court 4 rfl) rfl hl (Nat.le_of_ble_eq_true rfl) rfl (fun ls hl => ?_)
  refine lv_iload_n F.1 F.2.1 (dd D_X9_court 5 rfl) rfl (lv_at hl 0 rfl) ?_
  refine x_if_eq (tgt := 13) F.1 F.2.1 (dd D_X9_court 6 rfl) rfl h (fun c3 h => ?_) (fun c3 h => ?_)
  · refine lv_iconst (v := (-1 : Int32)) F.1 F.2.1 (dd D_X9_court 9 rfl) ki_m1 ?_
    refine lv_istore (lv' := [(4, .int (-1 : Int32)), (3, .int r1.1), (0, .ref (am 0)), (1, .int p1), (2, .int p2)]) F.1 F.2.1 (dd D_X9_court 10 rfl) hl (Nat.le_of_ble_eq_true rfl) rfl (fun ls hl => ?_)
    refine lv_iconst (v := (0 : Int32)) F.1 F.2.1 (dd D_X9_court 11 rfl) ki_0 ?_
    refine lv_istore (lv' := [(5, .int (0 : Int32)), (4, .int (-1 : Int32)), (3, .int r1.1), (0, .ref (am 0)), (1, .int p1), (2, .int p2)]) F.1 F.2.1 (dd D_X9_court 12 rfl) hl (Nat.le_of_ble_eq_true rfl) rfl (fun ls hl => ?_)
    refine lv_iconst (v := (0 : Int32)) F.1 F.2.1 (dd D_X9_court 13 rfl) ki_0 ?_
    refine lv_istore (lv' := [(6, .int (0 : Int32)), (5, .int (0 : Int32)), (4, .int (-1 : Int32)), (3, .int r1.1), (0, .ref (am 0)), (1, .int p1), (2, .int p2)]) F.1 F.2.1 (dd D_X9_court 14 rfl) hl (Nat.le_of_ble_eq_true rfl) rfl (fun ls hl => ?_)
    have L23 : ∀ (kf : Nat) (w4_L23 : Int32) (w5_L23 : Int32) (w6_L23 : Int32) (H : Heap) (locs : List Loc) (ls : Array Slot), va_P D vwCl (mW cA am r1.2) H → va_D A (mW cA am r1.2) → va_S A sM.heap H locs → lv_has ls 9 [(0, .ref (am 0)), (1, .int p1), (2, .int p2), (3, .int r1.1), (4, .int w4_L23), (5, .int w5_L23), (6, .int w6_L23)] → F_X9_court_L22 n r1.2 p1 p2 r1.1 kf w4_L23 w5_L23 w6_L23 = some r → Wrw 3 0 0 D A (exq (some (.int r.1)) (mW cA am r.2)) p l e sM m ([.ref (am 0), .int p1, .int p2] : List Value).toArray below meth c H locs 0 0 22 ls [] := by
      intro kf
      induction kf with
      | zero =>
        intro w4_L23 w5_L23 w6_L23 H locs ls hP hD hS hl h
        cases (show none = some r from h)
      | succ k_L23 ih_L23 =>
        intro w4_L23 w5_L23 w6_L23 H locs ls hP hD hS hl h
        unfold F_X9_court_L22 at h
        refine lv_iload F.1 F.2.1 (dd D_X9_court 15 rfl) (lv_at hl 6 rfl) ?_
        refine lv_iload_n F.1 F.2.1 (dd D_X9_court 16 rfl) rfl (lv_at hl 2 rfl) ?_
        refine x_icmp_ge (tgt := 123) F.1 F.2.1 (dd D_X9_court 17 rfl) rfl h (fun c24 h => ?_) (fun c24 h => ?_)
        · refine lv_iload F.1 F.2.1 (dd D_X9_court 71 rfl) (lv_at hl 4 rfl) ?_
          obtain rfl := Option.some.inj h
          exact rw_i (R := rmOf 3 0 0) F hP hD hS hr hlk ⟨Nat.le_of_ble_eq_true rfl, Nat.le_of_ble_eq_true rfl⟩ ⟨rfl, rfl⟩ (dd D_X9_court 72 rfl)
        · refine lv_aload_n F.1 F.2.1 (dd D_X9_court 18 rfl) rfl (lv_at hl 0 rfl) ?_
          refine lv_aload_n F.1 F.2.1 (dd D_X9_court 19 rfl) rfl (lv_at hl 0 rfl) ?_
          refine getF F hK hP lf_X9_21 (0) (mp_0 cA am r1.2) rfl (dd D_X9_court 20 rfl) ?_
          refine lv_iload_n F.1 F.2.1 (dd D_X9_court 21 rfl) rfl (lv_at hl 1 rfl) ?_
          refine aldA (g := fun j => am (5+j)) F hK hP (4) (mp_4 cA am r1.2) 5 rfl (fun _ => rfl) h (dd D_X9_court 22 rfl) (fun z25 h => ?_)
          have hk26 : (Int32.toNatClampNeg p1) < 8 := inb_lt z25
          refine lv_iload F.1 F.2.1 (dd D_X9_court 23 rfl) (lv_at hl 6 rfl) ?_
          refine aldL F hK hP (5+(Int32.toNatClampNeg p1)) (mp_row cA am r1.2 (Int32.toNatClampNeg p1) hk26) h (dd D_X9_court 24 rfl) (fun z27 h => ?_)
          obtain ⟨r28, e29, h⟩ := Option.bind_eq_some_iff.mp h
          refine ro_go (st' := [.int (bI r28)]) (rV (rest := []) F (c_X9_canBe D cA am r1.2 n ((m_rows r1.2 (Int32.toNatClampNeg p1)) (Int32.toNatClampNeg w6_L23)) r28 e29 l) lk_X9_306 (Nat.le_of_ble_eq_true rfl) (preRO hK hS hAb hP) (rcv_9 hK hP (q0 := (0)) (mp_0 cA am r1.2)) rfl hl rfl (Nat.le_of_ble_eq_true rfl) (dd D_X9_court 25 rfl) ⟨Nat.le_of_ble_eq_true rfl, Nat.le_of_ble_eq_true rfl⟩) rfl ?_
          refine x_bif_eq (tgt := 117) F.1 F.2.1 (dd D_X9_court 26 rfl) rfl h (fun c43 h => ?_) (fun c43 h => ?_)
          · refine lv_iinc (v := (w6_L23 + (1 : Int32))) (lv' := [(6, .int (w6_L23 + (1 : Int32))), (0, .ref (am 0)), (1, .int p1), (2, .int p2), (3, .int r1.1), (4, .int w4_L23), (5, .int w5_L23)]) F.1 F.2.1 (dd D_X9_court 69 rfl) hl (k := 6) rfl (congrArg (fun z => w6_L23 + z) ki_1) (Nat.le_of_ble_eq_true rfl) rfl (fun ls hl => ?_)
            refine lv_goto (tgt := 22) F.1 F.2.1 (dd D_X9_court 70 rfl) rfl ?_
            exact ih_L23 w4_L23 w5_L23 (w6_L23 + (1 : Int32)) _ _ ls hP hD hS (lv_sub hl [1, 2, 3, 4, 5, 6, 0] rfl) h
          · refine lv_iconst (v := (0 : Int32)) F.1 F.2.1 (dd D_X9_court 27 rfl) ki_0 ?_
            refine lv_istore (lv' := [(7, .int (0 : Int32)), (0, .ref (am 0)), (1, .int p1), (2, .int p2), (3, .int r1.1), (4, .int w4_L23), (5, .int w5_L23), (6, .int w6_L23)]) F.1 F.2.1 (dd D_X9_court 28 rfl) hl (Nat.le_of_ble_eq_true rfl) rfl (fun ls hl => ?_)
            refine lv_iconst (v := (0 : Int32)) F.1 F.2.1 (dd D_X9_court 29 rfl) ki_0 ?_
            refine lv_istore (lv' := [(8, .int (0 : Int32)), (7, .int (0 : Int32)), (0, .ref (am 0)), (1, .int p1), (2, .int p2), (3, .int r1.1), (4, .int w4_L23), (5, .int w5_L23), (6, .int w6_L23)]) F.1 F.2.1 (dd D_X9_court 30 rfl) hl (Nat.le_of_ble_eq_true rfl) rfl (fun ls hl => ?_)
            have L30 : ∀ (kf : Nat) (w7_L30 : Int32) (w8_L30 : Int32) (H : Heap) (locs : List Loc) (ls : Array Slot), va_P D vwCl (mW cA am r1.2) H → va_D A (mW cA am r1.2) → va_S A sM.heap H locs → lv_has ls 9 [(0, .ref (am 0)), (1, .int p1), (2, .int p2), (3, .int r1.1), (4, .int w4_L23), (5, .int w5_L23), (6, .int w6_L23), (7, .int w7_L30), (8, .int w8_L30)] → F_X9_court_L50 n (F_X9_court_L22 n r1.2 p1 p2 r1.1 k_L23) r1.2 p1 p2 r1.1 w4_L23 w5_L23 w6_L23 kf w7_L30 w8_L30 = some r → Wrw 3 0 0 D A (exq (some (.int r.1)) (mW cA am r.2)) p l e sM m ([.ref (am 0), .int p1, .int p2] : List Value).toArray below meth c H locs 0 0 50 ls [] := by
              intro kf
              induction kf with
              | zero =>
                intro w7_L30 w8_L30 H locs ls hP hD hS hl h
                cases (show none = some r from h)
              | succ k_L30 ih_L30 =>
                intro w7_L30 w8_L30 H locs ls hP hD hS hl h
                unfold F_X9_court_L50 at h
                refine lv_iload F.1 F.2.1 (dd D_X9_court 31 rfl) (lv_at hl 8 rfl) ?_
                refine lv_iload_n F.1 F.2.1 (dd D_X9_court 32 rfl) rfl (lv_at hl 2 rfl) ?_
                refine x_icmp_ge (tgt := 94) F.1 F.2.1 (dd D_X9_court 33 rfl) rfl h (fun c31 h => ?_) (fun c31 h => ?_)
                · refine lv_iload F.1 F.2.1 (dd D_X9_court 56 rfl) (lv_at hl 7 rfl) ?_
                  refine lv_iload F.1 F.2.1 (dd D_X9_court 57 rfl) (lv_at hl 5 rfl) ?_
                  refine x_icmp_le (tgt := 117) F.1 F.2.1 (dd D_X9_court 58 rfl) rfl h (fun c32 h => ?_) (fun c32 h => ?_)
                  · refine lv_iinc (v := (w6_L23 + (1 : Int32))) (lv' := [(6, .int (w6_L23 + (1 : Int32))), (0, .ref (am 0)), (1, .int p1), (2, .int p2), (3, .int r1.1), (4, .int w4_L23), (5, .int w5_L23), (7, .int w7_L30), (8, .int w8_L30)]) F.1 F.2.1 (dd D_X9_court 69 rfl) hl (k := 6) rfl (congrArg (fun z => w6_L23 + z) ki_1) (Nat.le_of_ble_eq_true rfl) rfl (fun ls hl => ?_)
                    refine lv_goto (tgt := 22) F.1 F.2.1 (dd D_X9_court 70 rfl) rfl ?_
                    exact ih_L23 w4_L23 w5_L23 (w6_L23 + (1 : Int32)) _ _ ls hP hD hS (lv_sub hl [1, 2, 3, 4, 5, 6, 0] rfl) h
                  · refine lv_aload_n F.1 F.2.1 (dd D_X9_court 59 rfl) rfl (lv_at hl 0 rfl) ?_
                    refine getF F hK hP lf_X9_21 (0) (mp_0 cA am r1.2) rfl (dd D_X9_court 60 rfl) ?_
                    refine lv_iload_n F.1 F.2.1 (dd D_X9_court 61 rfl) rfl (lv_at hl 1 rfl) ?_
                    refine aldA (g := fun j => am (5+j)) F hK hP (4) (mp_4 cA am r1.2) 5 rfl (fun _ => rfl) h (dd D_X9_court 62 rfl) (fun z33 h => ?_)
                    have hk34 : (Int32.toNatClampNeg p1) < 8 := inb_lt z33
                    refine lv_iload F.1 F.2.1 (dd D_X9_court 63 rfl) (lv_at hl 6 rfl) ?_
                    refine aldL F hK hP (5+(Int32.toNatClampNeg p1)) (mp_row cA am r1.2 (Int32.toNatClampNeg p1) hk34) h (dd D_X9_court 64 rfl) (fun z35 h => ?_)
                    refine lv_l2i (v := (Int64.toInt32 ((m_rows r1.2 (Int32.toNatClampNeg p1)) (Int32.toNatClampNeg w6_L23)))) F.1 F.2.1 (dd D_X9_court 65 rfl) rfl ?_
                    refine lv_istore (lv' := [(4, .int (Int64.toInt32 ((m_rows r1.2 (Int32.toNatClampNeg p1)) (Int32.toNatClampNeg w6_L23)))), (0, .ref (am 0)), (1, .int p1), (2, .int p2), (3, .int r1.1), (5, .int w5_L23), (6, .int w6_L23), (7, .int w7_L30), (8, .int w8_L30)]) F.1 F.2.1 (dd D_X9_court 66 rfl) hl (Nat.le_of_ble_eq_true rfl) rfl (fun ls hl => ?_)
                    refine lv_iload F.1 F.2.1 (dd D_X9_court 67 rfl) (lv_at hl 7 rfl) ?_
                    refine lv_istore (lv' := [(5, .int w7_L30), (4, .int (Int64.toInt32 ((m_rows r1.2 (Int32.toNatClampNeg p1)) (Int32.toNatClampNeg w6_L23)))), (0, .ref (am 0)), (1, .int p1), (2, .int p2), (3, .int r1.1), (6, .int w6_L23), (7, .int w7_L30), (8, .int w8_L30)]) F.1 F.2.1 (dd D_X9_court 68 rfl) hl (Nat.le_of_ble_eq_true rfl) rfl (fun ls hl => ?_)
                    refine lv_iinc (v := (w6_L23 + (1 : Int32))) (lv' := [(6, .int (w6_L23 + (1 : Int32))), (5, .int w7_L30), (4, .int (Int64.toInt32 ((m_rows r1.2 (Int32.toNatClampNeg p1)) (Int32.toNatClampNeg w6_L23)))), (0, .ref (am 0)), (1, .int p1), (2, .int p2), (3, .int r1.1), (7, .int w7_L30), (8, .int w8_L30)]) F.1 F.2.1 (dd D_X9_court 69 rfl) hl (k := 6) rfl (congrArg (fun z => w6_L23 + z) ki_1) (Nat.le_of_ble_eq_true rfl) rfl (fun ls hl => ?_)
                    refine lv_goto (tgt := 22) F.1 F.2.1 (dd D_X9_court 70 rfl) rfl ?_
                    exact ih_L23 (Int64.toInt32 ((m_rows r1.2 (Int32.toNatClampNeg p1)) (Int32.toNatClampNeg w6_L23))) w7_L30 (w6_L23 + (1 : Int32)) _ _ ls hP hD hS (lv_sub hl [3, 4, 5, 6, 2, 1, 0] rfl) h
                · refine lv_iload F.1 F.2.1 (dd D_X9_court 34 rfl) (lv_at hl 7 rfl) ?_
                  refine lv_aload_n F.1 F.2.1 (dd D_X9_court 35 rfl) rfl (lv_at hl 0 rfl) ?_
                  refine getF F hK hP lf_X9_21 (0) (mp_0 cA am r1.2) rfl (dd D_X9_court 36 rfl) ?_
                  refine lv_iload_n F.1 F.2.1 (dd D_X9_court 37 rfl) rfl (lv_at hl 1 rfl) ?_
                  refine aldA (g := fun j => am (5+j)) F hK hP (4) (mp_4 cA am r1.2) 5 rfl (fun _ => rfl) h (dd D_X9_court 38 rfl) (fun z36 h => ?_)
                  have hk37 : (Int32.toNatClampNeg p1) < 8 := inb_lt z36
                  refine lv_iload F.1 F.2.1 (dd D_X9_court 39 rfl) (lv_at hl 8 rfl) ?_
                  refine aldL F hK hP (5+(Int32.toNatClampNeg p1)) (mp_row cA am r1.2 (Int32.toNatClampNeg p1) hk37) h (dd D_X9_court 40 rfl) (fun z38 h => ?_)
                  refine lv_aload_n F.1 F.2.1 (dd D_X9_court 41 rfl) rfl (lv_at hl 0 rfl) ?_
                  refine getF F hK hP lf_X9_21 (0) (mp_0 cA am r1.2) rfl (dd D_X9_court 42 rfl) ?_
                  refine lv_iload_n F.1 F.2.1 (dd D_X9_court 43 rfl) rfl (lv_at hl 1 rfl) ?_
                  refine aldA (g := fun j => am (5+j)) F hK hP (4) (mp_4 cA am r1.2) 5 rfl (fun _ => rfl) h (dd D_X9_court 44 rfl) (fun z39 h => ?_)
                  have hk40 : (Int32.toNatClampNeg p1) < 8 := inb_lt z39
                  refine lv_iload F.1 F.2.1 (dd D_X9_court 45 rfl) (lv_at hl 6 rfl) ?_
                  refine aldL F hK hP (5+(Int32.toNatClampNeg p1)) (mp_row cA am r1.2 (Int32.toNatClampNeg p1) hk40) h (dd D_X9_court 46 rfl) (fun z41 h => ?_)
                  refine W.lcmp F.1 F.2.1 (dd D_X9_court 47 rfl) ?_
                  refine x_if_ne (tgt := 84) F.1 F.2.1 (dd D_X9_court 48 rfl) rfl h (fun c42 h => ?_) (fun c42 h => ?_)
                  · refine lv_iconst (v := (0 : Int32)) F.1 F.2.1 (dd D_X9_court 51 rfl) ki_0 ?_
                    refine lv_iadd F.1 F.2.1 (dd D_X9_court 52 rfl) ?_
                    refine lv_istore (lv' := [(7, .int (w7_L30 + (0 : Int32))), (0, .ref (am 0)), (1, .int p1), (2, .int p2), (3, .int r1.1), (4, .int w4_L23), (5, .int w5_L23), (6, .int w6_L23), (8, .int w8_L30)]) F.1 F.2.1 (dd D_X9_court 53 rfl) hl (Nat.le_of_ble_eq_true rfl) rfl (fun ls hl => ?_)
                    refine lv_iinc (v := (w8_L30 + (1 : Int32))) (lv' := [(8, .int (w8_L30 + (1 : Int32))), (7, .int (w7_L30 + (0 : Int32))), (0, .ref (am 0)), (1, .int p1), (2, .int p2), (3, .int r1.1), (4, .int w4_L23), (5, .int w5_L23), (6, .int w6_L23)]) F.1 F.2.1 (dd D_X9_court 54 rfl) hl (k := 8) rfl (congrArg (fun z => w8_L30 + z) ki_1) (Nat.le_of_ble_eq_true rfl) rfl (fun ls hl => ?_)
                    refine lv_goto (tgt := 50) F.1 F.2.1 (dd D_X9_court 55 rfl) rfl ?_
                    exact ih_L30 (w7_L30 + (0 : Int32)) (w8_L30 + (1 : Int32)) _ _ ls hP hD hS (lv_sub hl [2, 3, 4, 5, 6, 7, 8, 1, 0] rfl) h
                  · refine lv_iconst (v := (1 : Int32)) F.1 F.2.1 (dd D_X9_court 49 rfl) ki_1 ?_
                    refine lv_goto (tgt := 85) F.1 F.2.1 (dd D_X9_court 50 rfl) rfl ?_
                    refine lv_iadd F.1 F.2.1 (dd D_X9_court 52 rfl) ?_
                    refine lv_istore (lv' := [(7, .int (w7_L30 + (1 : Int32))), (0, .ref (am 0)), (1, .int p1), (2, .int p2), (3, .int r1.1), (4, .int w4_L23), (5, .int w5_L23), (6, .int w6_L23), (8, .int w8_L30)]) F.1 F.2.1 (dd D_X9_court 53 rfl) hl (Nat.le_of_ble_eq_true rfl) rfl (fun ls hl => ?_)
                    refine lv_iinc (v := (w8_L30 + (1 : Int32))) (lv' := [(8, .int (w8_L30 + (1 : Int32))), (7, .int (w7_L30 + (1 : Int32))), (0, .ref (am 0)), (1, .int p1), (2, .int p2), (3, .int r1.1), (4, .int w4_L23), (5, .int w5_L23), (6, .int w6_L23)]) F.1 F.2.1 (dd D_X9_court 54 rfl) hl (k := 8) rfl (congrArg (fun z => w8_L30 + z) ki_1) (Nat.le_of_ble_eq_true rfl) rfl (fun ls hl => ?_)
                    refine lv_goto (tgt := 50) F.1 F.2.1 (dd D_X9_court 55 rfl) rfl ?_
                    exact ih_L30 (w7_L30 + (1 : Int32)) (w8_L30 + (1 : Int32)) _ _ ls hP hD hS (lv_sub hl [2, 3, 4, 5, 6, 7, 8, 1, 0] rfl) h
            exact L30 n (0 : Int32) (0 : Int32) _ _ ls hP hD hS (lv_sub hl [2, 3, 4, 5, 6, 7, 8, 1, 0] rfl) h
    exact L23 n (-1 : Int32) (0 : Int32) (0 : Int32) _ _ ls hP hD hS (lv_sub hl [4, 5, 6, 3, 2, 1, 0] rfl) h
  · refine lv_iload_n F.1 F.2.1 (dd D_X9_court 7 rfl) rfl (lv_at hl 0 rfl) ?_
    obtain rfl := Option.some.inj h
    exact rw_i (R := rmOf 3 0 0) F hP hD hS hr hlk ⟨Nat.le_of_ble_eq_true rfl, Nat.le_of_ble_eq_true rfl⟩ ⟨rfl, rfl⟩ (dd D_X9_court 8 rfl)
