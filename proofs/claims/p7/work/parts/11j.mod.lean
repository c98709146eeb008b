def F_X9_isHit_L3 (n : Nat) (u0 : MS) (v1 : Int32) (v2 : Int32) (v3 : Int32) (v4 : Int32) : Nat → Int32 → Option Bool
  | 0, _ => none
  | kf + 1, w5 => (if (F_X9_lastOf v2 v3) < w5 then some (false) else (((F_X9_degreeUp n u0 w5)).bind fun r2 => (if v4 < (r2 - v1) then F_X9_isHit_L3 n u0 v1 v2 v3 v4 kf (w5 + (1 : Int32)) else (if v4 < (-(r2 - v1)) then F_X9_isHit_L3 n u0 v1 v2 v3 v4 kf (w5 + (1 : Int32)) else some (true)))))
def F_X9_isHit (n : Nat) (s : MS) (p1 : Int32) (p2 : Int32) (p3 : Int32) (p4 : Int32) : Option Bool := F_X9_isHit_L3 n s p1 p2 p3 p4 n p2
set_option maxHeartbeats 4000000 in
set_option maxRecDepth 100000 in
theorem c_X9_isHit (D : va_G) (cA : Nat → ClassId) (am : Nat → Nat) (s : MS) (n : Nat) (p1 : Int32) (p2 : Int32) (p3 : Int32) (p4 : Int32) (r : Bool) (h : F_X9_isHit n s p1 p2 p3 p4 = some r) : RO m_X9_isHit 5 D cA [.ref (am 0), .int p1, .int p2, .int p3, .int p4] (mW cA am s) (some (.int (bI r))) := by
  refine RO.ofW gy_X9_isHit.2.2 (Nat.le_of_ble_eq_true rfl) ?_
  intro l p e sM m below meth c F hr hlk hK hP hS hAb ls hl
  have hl : lv_has ls 7 [(0, .ref (am 0)), (1, .int p1), (2, .int p2), (3, .int p3), (4, .int p4)] := hl
  unfold F_X9_isHit at h
  refine lv_iload_n F.1 F.2.1 (dd D_X9_isHit 0 rfl) rfl (lv_at hl 2 rfl) ?_
  refine lv_istore (lv' := [(5, .int p2), (0, .ref (am 0)), (1, .int p1), (2, .int p2), (3, .int p3), (4, .int p4)]) F.1 F.2.1 (dd D_X9_isHit 1 rfl) hl (Nat.le_of_ble_eq_true rfl) rfl (fun ls hl => ?_)
  have L6 : ∀ (kf : Nat) (w5_L6 : Int32) (ls : Array Slot), lv_has ls 7 [(0, .ref (am 0)), (1, .int p1), (2, .int p2), (3, .int p3), (4, .int p4), (5, .int w5_L6)] → F_X9_isHit_L3 n s p1 p2 p3 p4 kf w5_L6 = some r → Wro 5 (some (.int (bI r))) p l e sM m ([.ref (am 0), .int p1, .int p2, .int p3, .int p4] : List Value).toArray below meth c 3 ls [] := by
    intro kf
    induction kf with
    | zero =>
      intro w5_L6 ls hl h
      cases (show none = some r from h)
    | succ k_L6 ih_L6 =>
      intro w5_L6 ls hl h
      unfold F_X9_isHit_L3 at h
      refine lv_iload F.1 F.2.1 (dd D_X9_isHit 2 rfl) (lv_at hl 5 rfl) ?_
      refine lv_iload_n F.1 F.2.1 (dd D_X9_isHit 3 rfl) rfl (lv_at hl 2 rfl) ?_
      refine lv_iload_n F.1 F.2.1 (dd D_X9_isHit 4 rfl) rfl (lv_at hl 3 rfl) ?_
      refine ro_go (st' := [.int (F_X9_lastOf p2 p3), .int w5_L6]) (rS (rest := [.int w5_L6]) F (c_X9_lastOf D cA p2 p3 l) lk_X9_273 (Nat.le_of_ble_eq_true rfl) (preRO hK hS hAb (emP)) rfl hl rfl (Nat.le_of_ble_eq_true rfl) (dd D_X9_isHit 5 rfl) ⟨Nat.le_of_ble_eq_true rfl, Nat.le_of_ble_eq_true rfl⟩) rfl ?_
      refine x_icmp_gt (tgt := 46) F.1 F.2.1 (dd D_X9_isHit 6 rfl) rfl h (fun c7 h => ?_) (fun c7 h => ?_)
      · refine lv_iconst (v := (0 : Int32)) F.1 F.2.1 (dd D_X9_isHit 24 rfl) ki_0 ?_
        exact ro_z (R := rmOf 5 0 0) F hr rfl hlk (congrArg (Option.map fun z => Value.int (bI z)) h) (dd D_X9_isHit 25 rfl)
      · refine lv_aload_n F.1 F.2.1 (dd D_X9_isHit 7 rfl) rfl (lv_at hl 0 rfl) ?_
        refine lv_iload F.1 F.2.1 (dd D_X9_isHit 8 rfl) (lv_at hl 5 rfl) ?_
        obtain ⟨r8, e9, h⟩ := Option.bind_eq_some_iff.mp h
        refine ro_go (st' := [.int r8]) (rV (rest := []) F (c_X9_degreeUp D cA am s n w5_L6 r8 e9 l) lk_X9_256 (Nat.le_of_ble_eq_true rfl) (preRO hK hS hAb hP) (rcv_9 hK hP (q0 := (0)) (mp_0 cA am s)) rfl hl rfl (Nat.le_of_ble_eq_true rfl) (dd D_X9_isHit 9 rfl) ⟨Nat.le_of_ble_eq_true rfl, Nat.le_of_ble_eq_true rfl⟩) rfl ?_
        refine lv_iload_n F.1 F.2.1 (dd D_X9_isHit 10 rfl) rfl (lv_at hl 1 rfl) ?_
        refine lv_isub F.1 F.2.1 (dd D_X9_isHit 11 rfl) ?_
        refine lv_istore (lv' := [(6, .int (r8 - p1)), (0, .ref (am 0)), (1, .int p1), (2, .int p2), (3, .int p3), (4, .int p4), (5, .int w5_L6)]) F.1 F.2.1 (dd D_X9_isHit 12 rfl) hl (Nat.le_of_ble_eq_true rfl) rfl (fun ls hl => ?_)
        refine lv_iload F.1 F.2.1 (dd D_X9_isHit 13 rfl) (lv_at hl 0 rfl) ?_
        refine lv_iload F.1 F.2.1 (dd D_X9_isHit 14 rfl) (lv_at hl 5 rfl) ?_
        refine x_icmp_gt (tgt := 40) F.1 F.2.1 (dd D_X9_isHit 15 rfl) rfl h (fun c10 h => ?_) (fun c10 h => ?_)
        · refine lv_iinc (v := (w5_L6 + (1 : Int32))) (lv' := [(5, .int (w5_L6 + (1 : Int32))), (6, .int (r8 - p1)), (0, .ref (am 0)), (1, .int p1), (2, .int p2), (3, .int p3), (4, .int p4)]) F.1 F.2.1 (dd D_X9_isHit 22 rfl) hl (k := 6) rfl (congrArg (fun z => w5_L6 + z) ki_1) (Nat.le_of_ble_eq_true rfl) rfl (fun ls hl => ?_)
          refine lv_goto (tgt := 3) F.1 F.2.1 (dd D_X9_isHit 23 rfl) rfl ?_
          exact ih_L6 (w5_L6 + (1 : Int32)) ls (lv_sub hl [2, 3, 4, 5, 6, 0] rfl) h
        · refine lv_iload F.1 F.2.1 (dd D_X9_isHit 16 rfl) (lv_at hl 0 rfl) ?_
          refine lv_ineg F.1 F.2.1 (dd D_X9_isHit 17 rfl) ?_
          refine lv_iload F.1 F.2.1 (dd D_X9_isHit 18 rfl) (lv_at hl 5 rfl) ?_
          refine x_icmp_gt (tgt := 40) F.1 F.2.1 (dd D_X9_isHit 19 rfl) rfl h (fun c11 h => ?_) (fun c11 h => ?_)
          · refine lv_iinc (v := (w5_L6 + (1 : Int32))) (lv' := [(5, .int (w5_L6 + (1 : Int32))), (6, .int (r8 - p1)), (0, .ref (am 0)), (1, .int p1), (2, .int p2), (3, .int p3), (4, .int p4)]) F.1 F.2.1 (dd D_X9_isHit 22 rfl) hl (k := 6) rfl (congrArg (fun z => w5_L6 + z) ki_1) (Nat.le_of_ble_eq_true rfl) rfl (fun ls hl => ?_)
            refine lv_goto (tgt := 3) F.1 F.2.1 (dd D_X9_isHit 23 rfl) rfl ?_
            exact ih_L6 (w5_L6 + (1 : Int32)) ls (lv_sub hl [2, 3, 4, 5, 6, 0] rfl) h
          · refine lv_iconst (v := (1 : Int32)) F.1 F.2.1 (dd D_X9_isHit 20 rfl) ki_1 ?_
            exact ro_z (R := rmOf 5 0 0) F hr rfl hlk (congrArg (Option.map fun z => Value.int (bI z)) h) (dd D_X9_isHit 21 rfl)
  exact L6 n p2 ls (lv_sub hl [1, 2, 3, 4, 5, 0] rfl) h
def F_X9_isNear (p0 : Int32) : Bool := ((F_X9_in (Int32.toInt64 p0) (0 : Int64) (20 : Int64)))
set_option maxHeartbeats 4000000 in
set_option maxRecDepth 100000 in
theorem c_X9_isNear (D : va_G) (cA : Nat → ClassId)  (p0 : Int32) : RO m_X9_isNear 1 D cA [.int p0] [] (some (.int (bI (F_X9_isNear p0)))) := by
  obtain ⟨r, h⟩ : ∃ r, F_X9_isNear p0 = r := ⟨_, rfl⟩
  rw [h]
  refine RO.ofW gy_X9_isNear.2.2 (Nat.le_of_ble_eq_true rfl) ?_
  intro l p e sM m below meth c F hr hlk hK hP hS hAb ls hl
  have hl : lv_has ls 1 [(0, .int p0)] := hl
  unfold F_X9_isNear at h
  refine lv_iload_n F.1 F.2.1 (dd D_X9_isNear 0 rfl) rfl (lv_at hl 0 rfl) ?_
  refine lv_i2l (v := (Int32.toInt64 p0)) F.1 F.2.1 (dd D_X9_isNear 1 rfl) rfl ?_
  refine lv_lconst (v := (0 : Int64)) F.1 F.2.1 (dd D_X9_isNear 2 rfl) kl_0 ?_
  refine lv_ldc2 (own := RX9) (v := (20 : Int64)) F.1 F.2.1 F.2.2.2.1 (F.2.2.2.2 _ (kL_X9_318)) (dd D_X9_isNear 3 rfl) ?_
  refine ro_go (st' := [.int (bI (F_X9_in (Int32.toInt64 p0) (0 : Int64) (20 : Int64)))]) (rS (rest := []) F (c_X9_in D cA (Int32.toInt64 p0) (0 : Int64) (20 : Int64) l) lk_X9_63 (Nat.le_of_ble_eq_true rfl) (preRO hK hS hAb (emP)) rfl hl rfl (Nat.le_of_ble_eq_true rfl) (dd D_X9_isNear 4 rfl) ⟨Nat.le_of_ble_eq_true rfl, Nat.le_of_ble_eq_true rfl⟩) rfl ?_
  exact ro_z (R := rmOf 1 0 0) F hr (bI_nar _) hlk (congrArg (fun z => some (Value.int (bI z))) h) (dd D_X9_isNear 5 rfl)
def F_X9_hits_L28 (n : Nat) (u0 : MS) (v1 : Int32) (v2 : Int32) (v3 : Int32) : Nat → Int32 → Int32 → Option (Int32 × MS)
  | 0, _, _ => none
  | kf + 1, w4, w5 => (if (m_stones u0) ≤ w5 then some (w4, u0) else gd (inb w5 6) ((((F_X9_isHit n u0 ((m_stone u0) (Int32.toNatClampNeg w5)) v1 v2 v3)).bind fun r5 => bf r5 (F_X9_hits_L28 n u0 v1 v2 v3 kf (w4 ||| ((1 : Int32) <<< (w5 &&& 31))) (w5 + (1 : Int32))) (F_X9_hits_L28 n u0 v1 v2 v3 kf (w4 ||| (0 : Int32)) (w5 + (1 : Int32))))))
def F_X9_hits (n : Nat) (s : MS) (p1 : Int32) (p2 : Int32) (p3 : Int32) : Option (Int32 × MS) := bf (F_X9_areDays p1 p2) (bf (F_X9_isNear p3) (F_X9_hits_L28 n s p1 p2 p3 n (0 : Int32) (0 : Int32)) ((((F_X9_refuse n s (-2 : Int32))).bind fun r14 => some (r14.1, r14.2)))) ((((F_X9_refuse n s (-2 : Int32))).bind fun r1 => some (r1.1, r1.2)))
set_option maxHeartbeats 4000000 in
set_option maxRecDepth 100000 in
theorem c_X9_hits (D : va_G) (cA : Nat → ClassId) (am : Nat → Nat) (s : MS) (n : Nat) (p1 : Int32) (p2 : Int32) (p3 : Int32) (r : (Int32 × MS)) (h : F_X9_hits n s p1 p2 p3 = some r) : RW m_X9_hits 6 0 0 D cA [.ref (am 0), .int p1, .int p2, .int p3] (mW cA am s) (exq (some (.int r.1)) (mW cA am r.2)) := by
  refine RW.ofW gy_X9_hits.2.2 (Nat.le_of_ble_eq_true rfl) ?_
  intro l p e sM m below meth c A H locs F hr hlk hnm hK hP hD hS hA hAb ls hl
  have hl : lv_has ls 6 [(0, .ref (am 0)), (1, .int p1), (2, .int p2), (3, .int p3)] := hl
  unfold F_X9_hits at h
  refine lv_iload_n F.1 F.2.1 (dd D_X9_hits 0 rfl) rfl (lv_at hl 1 rfl) ?_
  refine lv_iload_n F.1 F.2.1 (dd D_X9_hits 1 rfl) rfl (lv_at hl 2 rfl) ?_
  refine ro_go (st' := [.int (bI (F_X9_areDays p1 p2))]) (rS (rest := []) F (c_X9_areDays D cA p1 p2 l) lk_X9_276 (Nat.le_of_ble_eq_true rfl) (preRO hK hS hAb (emP)) rfl hl rfl (Nat.le_of_ble_eq_true rfl) (dd D_X9_hits 2 rfl) ⟨Nat.le_of_ble_eq_true rfl, Nat.le_of_ble_eq_true rfl⟩) rfl ?_
  refine x_bif_eq (tgt := 15) F.1 F.2.1 (dd D_X9_hits 3 rfl) rfl h (fun c17 h => ?_) (fun c17 h => ?_)
  · refine lv_aload_n F.1 F.2.1 (dd D_X9_hits 7 rfl) rfl (lv_at hl 0 rfl) ?_
    refine lv_bipush (v := (-2 : Int32)) F.1 F.2.1 (dd D_X9_hits 8 rfl) kb_m2 ?_
    obtain ⟨r1, e2, h⟩ := Option.bind_eq_some_iff.mp h
    refine rwe_all (st' := [.int r1.1]) hD hS hA (rV (rest := []) F (c_X9_refuse D cA am s n (-2 : Int32) r1 e2 l H.size) lk_X9_79 (Nat.le_of_ble_eq_true rfl) (preRW hK hS hAb hP hD) (rcv_9 hK hP (q0 := (0)) (mp_0 cA am s)) rfl hl rfl (Nat.le_of_ble_eq_true rfl) (dd D_X9_hits 9 rfl) ⟨Nat.le_of_ble_eq_true rfl, Nat.le_of_ble_eq_true rfl⟩) rfl (fun H locs hP hD hS => ?_)
    obtain rfl := Option.some.inj h
    exact rw_i (R := rmOf 6 0 0) F hP hD hS hr hlk ⟨Nat.le_of_ble_eq_true rfl, Nat.le_of_ble_eq_true rfl⟩ ⟨rfl, rfl⟩ (dd D_X9_hits 10 rfl)
  · refine lv_iload_n F.1 F.2.1 (dd D_X9_hits 4 rfl) rfl (lv_at hl 3 rfl) ?_
    refine ro_go (st' := [.int (bI (F_X9_isNear p3))]) (rS (rest := []) F (c_X9_isNear D cA p3 l) lk_X9_320 (Nat.le_of_ble_eq_true rfl) (preRO hK hS hAb (emP)) rfl hl rfl (Nat.le_of_ble_eq_true rfl) (dd D_X9_hits 5 rfl) ⟨Nat.le_of_ble_eq_true rfl, Nat.le_of_ble_eq_true rfl⟩) rfl ?_
    refine x_bif_ne (tgt := 22) F.1 F.2.1 (dd D_X9_hits 6 rfl) rfl h (fun c16 h => ?_) (fun c16 h => ?_)
    · refine lv_iconst (v := (0 : Int32)) F.1 F.2.1 (dd D_X9_hits 11 rfl) ki_0 ?_
      refine lv_istore (lv' := [(4, .int (0 : Int32)), (0, .ref (am 0)), (1, .int p1), (2, .int p2), (3, .int p3)]) F.1 F.2.1 (dd D_X9_hits 12 rfl) hl (Nat.le_of_ble_eq_true rfl) rfl (fun ls hl => ?_)
      refine lv_iconst (v := (0 : Int32)) F.1 F.2.1 (dd D_X9_hits 13 rfl) ki_0 ?_
      refine lv_istore (lv' := [(5, .int (0 : Int32)), (4, .int (0 : Int32)), (0, .ref (am 0)), (1, .int p1), (2, .int p2), (3, .int p3)]) F.1 F.2.1 (dd D_X9_hits 14 rfl) hl (Nat.le_of_ble_eq_true rfl) rfl (fun ls hl => ?_)
      have L8 : ∀ (kf : Nat) (w4_L8 : Int32) (w5_L8 : Int32) (H : Heap) (locs : List Loc) (ls : Array Slot), va_P D vwCl (mW cA am s) H → va_D A (mW cA am s) → va_S A sM.heap H locs → lv_has ls 6 [(0, .ref (am 0)), (1, .int p1), (2, .int p2), (3, .int p3), (4, .int w4_L8), (5, .int w5_L8)] → F_X9_hits_L28 n s p1 p2 p3 kf w4_L8 w5_L8 = some r → Wrw 6 0 0 D A (exq (some (.int r.1)) (mW cA am r.2)) p l e sM m ([.ref (am 0), .int p1, .int p2, .int p3] : List Value).toArray below meth c H locs 0 0 28 ls [] := by
        intro kf
        induction kf with
        | zero =>
          intro w4_L8 w5_L8 H locs ls hP hD hS hl h
          cases (show none = some r from h)
        | succ k_L8 ih_L8 =>
          intro w4_L8 w5_L8 H locs ls hP hD hS hl h
          unfold F_X9_hits_L28 at h
          refine lv_iload F.1 F.2.1 (dd D_X9_hits 15 rfl) (lv_at hl 5 rfl) ?_
          refine lv_aload_n F.1 F.2.1 (dd D_X9_hits 16 rfl) rfl (lv_at hl 0 rfl) ?_
          refine getF F hK hP lf_X9_127 (0) (mp_0 cA am s) rfl (dd D_X9_hits 17 rfl) ?_
          refine x_icmp_ge (tgt := 73) F.1 F.2.1 (dd D_X9_hits 18 rfl) rfl h (fun c9 h => ?_) (fun c9 h => ?_)
          · refine lv_iload F.1 F.2.1 (dd D_X9_hits 39 rfl) (lv_at hl 4 rfl) ?_
            obtain rfl := Option.some.inj h
            exact rw_i (R := rmOf 6 0 0) F hP hD hS hr hlk ⟨Nat.le_of_ble_eq_true rfl, Nat.le_of_ble_eq_true rfl⟩ ⟨rfl, rfl⟩ (dd D_X9_hits 40 rfl)
          · refine lv_iload F.1 F.2.1 (dd D_X9_hits 19 rfl) (lv_at hl 4 rfl) ?_
            refine lv_aload_n F.1 F.2.1 (dd D_X9_hits 20 rfl) rfl (lv_at hl 0 rfl) ?_
            refine lv_aload_n F.1 F.2.1 (dd D_X9_hits 21 rfl) rfl (lv_at hl 0 rfl) ?_
            refine getF F hK hP lf_X9_48 (0) (mp_0 cA am s) rfl (dd D_X9_hits 22 rfl) ?_
            refine lv_iload F.1 F.2.1 (dd D_X9_hits 23 rfl) (lv_at hl 5 rfl) ?_
            refine aldI F hK hP (28) (mp_28 cA am s) h (dd D_X9_hits 24 rfl) (fun z10 h => ?_)
            refine lv_iload_n F.1 F.2.1 (dd D_X9_hits 25 rfl) rfl (lv_at hl 1 rfl) ?_
            refine lv_iload_n F.1 F.2.1 (dd D_X9_hits 26 rfl) rfl (lv_at hl 2 rfl) ?_
            refine lv_iload_n F.1 F.2.1 (dd D_X9_hits 27 rfl) rfl (lv_at hl 3 rfl) ?_
            obtain ⟨r11, e12, h⟩ := Option.bind_eq_some_iff.mp h
            refine ro_go (st' := [.int (bI r11), .int w4_L8]) (rV (rest := [.int w4_L8]) F (c_X9_isHit D cA am s n ((m_stone s) (Int32.toNatClampNeg w5_L8)) p1 p2 p3 r11 e12 l) lk_X9_323 (Nat.le_of_ble_eq_true rfl) (preRO hK hS hAb hP) (rcv_9 hK hP (q0 := (0)) (mp_0 cA am s)) rfl hl rfl (Nat.le_of_ble_eq_true rfl) (dd D_X9_hits 28 rfl) ⟨Nat.le_of_ble_eq_true rfl, Nat.le_of_ble_eq_true rfl⟩) rfl ?_
            refine x_bif_eq (tgt := 63) F.1 F.2.1 (dd D_X9_hits 29 rfl) rfl h (fun c13 h => ?_) (fun c13 h => ?_)
            · refine lv_iconst (v := (0 : Int32)) F.1 F.2.1 (dd D_X9_hits 34 rfl) ki_0 ?_
              refine lv_ior F.1 F.2.1 (dd D_X9_hits 35 rfl) ?_
              refine lv_istore (lv' := [(4, .int (w4_L8 ||| (0 : Int32))), (0, .ref (am 0)), (1, .int p1), (2, .int p2), (3, .int p3), (5, .int w5_L8)]) F.1 F.2.1 (dd D_X9_hits 36 rfl) hl (Nat.le_of_ble_eq_true rfl) rfl (fun ls hl => ?_)
              refine lv_iinc (v := (w5_L8 + (1 : Int32))) (lv' := [(5, .int (w5_L8 + (1 : Int32))), (4, .int (w4_L8 ||| (0 : Int32))), (0, .ref (am 0)), (1, .int p1), (2, .int p2), (3, .int p3)]) F.1 F.2.1 (dd D_X9_hits 37 rfl) hl (k := 5) rfl (congrArg (fun z => w5_L8 + z) ki_1) (Nat.le_of_ble_eq_true rfl) rfl (fun ls hl => ?_)
              refine lv_goto (tgt := 28) F.1 F.2.1 (dd D_X9_hits 38 rfl) rfl ?_
              exact ih_L8 (w4_L8 ||| (0 : Int32)) (w5_L8 + (1 : Int32)) _ _ ls hP hD hS (lv_sub hl [2, 3, 4, 5, 1, 0] rfl) h
            · refine lv_iconst (v := (1 : Int32)) F.1 F.2.1 (dd D_X9_hits 30 rfl) ki_1 ?_
              refine lv_iload F.1 F.2.1 (dd D_X9_hits 31 rfl) (lv_at hl 5 rfl) ?_
              refine lv_ishl F.1 F.2.1 (dd D_X9_hits 32 rfl) ?_
              refine lv_goto (tgt := 64) F.1 F.2.1 (dd D_X9_hits 33 rfl) rfl ?_
              refine lv_ior F.1 F.2.1 (dd D_X9_hits 35 rfl) ?_
              refine lv_istore (lv' := [(4, .int (w4_L8 ||| ((1 : Int32) <<< (w5_L8 &&& 31)))), (0, .ref (am 0)), (1, .int p1), (2, .int p2), (3, .int p3), (5, .int w5_L8)]) F.1 F.2.1 (dd D_X9_hits 36 rfl) hl (Nat.le_of_ble_eq_true rfl) rfl (fun ls hl => ?_)
              refine lv_iinc (v := (w5_L8 + (1 : Int32))) (lv' := [(5, .int (w5_L8 + (1 : Int32))), (4, .int (w4_L8 ||| ((1 : Int32) <<< (w5_L8 &&& 31)))), (0, .ref (am 0)), (1, .int p1), (2, .int p2), (3, .int p3)]) F.1 F.2.1 (dd D_X9_hits 37 rfl) hl (k := 5) rfl (congrArg (fun z => w5_L8 + z) ki_1) (Nat.le_of_ble_eq_true rfl) rfl (fun ls hl => ?_)
              refine lv_goto (tgt := 28) F.1 F.2.1 (dd D_X9_hits 38 rfl) rfl ?_
              exact ih_L8 (w4_L8 ||| ((1 : Int32) <<< (w5_L8 &&& 31))) (w5_L8 + (1 : Int32)) _ _ ls hP hD hS (lv_sub hl [2, 3, 4, 5, 1, 0] rfl) h
      exact L8 n (0 : Int32) (0 : Int32) _ _ ls hP hD hS (lv_sub hl [2, 3, 4, 5, 1, 0] rfl) h
    · refine lv_aload_n F.1 F.2.1 (dd D_X9_hits 7 rfl) rfl (lv_at hl 0 rfl) ?_
      refine lv_bipush (v := (-2 : Int32)) F.1 F.2.1 (dd D_X9_hits 8 rfl) kb_m2 ?_
      obtain ⟨r14, e15, h⟩ := Option.bind_eq_some_iff.mp h
      refine rwe_all (st' := [.int r14.1]) hD hS hA (rV (rest := []) F (c_X9_refuse D cA am s n (-2 : Int32) r14 e15 l H.size) lk_X9_79 (Nat.le_of_ble_eq_true rfl) (preRW hK hS hAb hP hD) (rcv_9 hK hP (q0 := (0)) (mp_0 cA am s)) rfl hl rfl (Nat.le_of_ble_eq_true rfl) (dd D_X9_hits 9 rfl) ⟨Nat.le_of_ble_eq_true rfl, Nat.le_of_ble_eq_true rfl⟩) rfl (fun H locs hP hD hS => ?_)
      obtain rfl := Option.some.inj h
      exact rw_i (R := rmOf 6 0 0) F hP hD hS hr hlk ⟨Nat.le_of_ble_eq_true rfl, Nat.le_of_ble_eq_true rfl⟩ ⟨rfl, rfl⟩ (dd D_X9_hits 10 rfl)
def F_X9_chanceOf_L80 (n : Nat) (K : Int32 → MS → (Nat → Int32) → Option (Int32 × MS)) (u0 : MS) (u1 : (Nat → Int32)) (v1 : Int32) (v2 : Int32) (v3 : Int32) : Nat → Int32 → Int32 → Option (Int32 × MS)
  | 0, _, _ => none
  | kf + 1, w5, w6 => (if (180 : Int32) ≤ w6 then some (w5, u0) else gd (inb w6 180) ((if (u1 (Int32.toNatClampNeg w6)) = 0 then F_X9_chanceOf_L80 n K u0 u1 v1 v2 v3 kf (w5 + (0 : Int32)) (w6 + (1 : Int32)) else F_X9_chanceOf_L80 n K u0 u1 v1 v2 v3 kf (w5 + (1 : Int32)) (w6 + (1 : Int32)))))
def F_X9_chanceOf_L34 (n : Nat) (K : Int32 → MS → (Nat → Int32) → Option (Int32 × MS)) (v1 : Int32) (v2 : Int32) (v3 : Int32) (v5 : Int32) (v6 : Int32) : Nat → Int32 → MS → (Nat → Int32) → Option (Int32 × MS)
  | 0, _, _, _ => none
  | kf + 1, w7, u0, u1 => (if (v6 + v3) < w7 then K (v5 + (1 : Int32)) u0 u1 else bf (F_X9_in (Int32.toInt64 w7) (0 : Int64) (179 : Int64)) (gd (inb w7 180) (F_X9_chanceOf_L34 n K v1 v2 v3 v5 v6 kf (w7 + (1 : Int32)) u0 (upd u1 (Int32.toNatClampNeg w7) (vp_nar .boolean (1 : Int32))))) (F_X9_chanceOf_L34 n K v1 v2 v3 v5 v6 kf (w7 + (1 : Int32)) u0 u1))
def F_X9_chanceOf_L10 (n : Nat) (v1 : Int32) (v2 : Int32) (v3 : Int32) : Nat → Int32 → MS → (Nat → Int32) → Option (Int32 × MS)
  | 0, _, _, _ => none
  | kf + 1, w5, u0, u1 => (if (F_X9_lastOf v1 v2) < w5 then F_X9_chanceOf_L80 n (F_X9_chanceOf_L10 n v1 v2 v3 kf) u0 u1 v1 v2 v3 n (0 : Int32) (0 : Int32) else (((F_X9_degreeUp n u0 w5)).bind fun r6 => F_X9_chanceOf_L34 n (F_X9_chanceOf_L10 n v1 v2 v3 kf) v1 v2 v3 w5 r6 n (r6 - v3) u0 u1))
def F_X9_chanceOf (n : Nat) (s : MS) (p1 : Int32) (p2 : Int32) (p3 : Int32) : Option (Int32 × MS) := F_X9_chanceOf_L10 n p1 p2 p3 n p1 s (fun _ => 0)
set_option maxHeartbeats 4000000 in
set_option maxRecDepth 100000 in
theorem c_X9_chanceOf (D : va_G) (cA : Nat → ClassId) (am : Nat → Nat) (s : MS) (n : Nat) (p1 : Int32) (p2 : Int32) (p3 : Int32) (r : (Int32 × MS)) (h : F_X9_chanceOf n s p1 p2 p3 = some r) : RW m_X9_chanceOf 5 1 180 D cA [.ref (am 0), .int p1, .int p2, .int p3] (mW cA am s) (exq (some (.int r.1)) (mW cA am r.2)) := by
  refine RW.ofW gy_X9_chanceOf.2.2 (Nat.le_of_ble_eq_true rfl) ?_
  intro l p e sM m below meth c A H locs F hr hlk hnm hK hP hD hS hA hAb ls hl
  have hl : lv_has ls 8 [(0, .ref (am 0)), (1, .int p1), (2, .int p2), (3, .int p3)] := hl
  unfold F_X9_chanceOf at h
  refine lv_sipush (v := (180 : Int32)) F.1 F.2.1 (dd D_X9_chanceOf 0 rfl) ks_180 ?_
  refine newA (t0 := 2) (ty := .boolean) F hK hP hD hS hA aC_bool rfl rfl ra_bool (vc_bool _) knn_180.1 knn_180.2 (Nat.le_of_ble_eq_true rfl) (Nat.le_of_ble_eq_true rfl) (Nat.le_of_ble_eq_true rfl) (dd D_X9_chanceOf 1 rfl) (fun q1 H hP hD hS => ?_)
  refine lv_astore (lv' := [(4, .ref (q1)), (0, .ref (am 0)), (1, .int p1), (2, .int p2), (3, .int p3)]) F.1 F.2.1 (dd D_X9_chanceOf 2 rfl) hl (Nat.le_of_ble_eq_true rfl) rfl (fun ls hl => ?_)
  refine lv_iload_n F.1 F.2.1 (dd D_X9_chanceOf 3 rfl) rfl (lv_at hl 2 rfl) ?_
  refine lv_istore (lv' := [(5, .int p1), (4, .ref (q1)), (0, .ref (am 0)), (1, .int p1), (2, .int p2), (3, .int p3)]) F.1 F.2.1 (dd D_X9_chanceOf 4 rfl) hl (Nat.le_of_ble_eq_true rfl) rfl (fun ls hl => ?_)
  have L11 : ∀ (kf : Nat) (w5_L11 : Int32) (u0_L11 : MS) (u1_L11 : (Nat → Int32)) (H : Heap) (locs : List Loc) (ls : Array Slot), va_P D vwCl ((mW cA am u0_L11) ++ [(q1, .inl (cA 2, 180, .inl u1_L11))]) H → va_D A ((mW cA am u0_L11) ++ [(q1, .inl (cA 2, 180, .inl u1_L11))]) → va_S A sM.heap H locs → lv_has ls 8 [(0, .ref (am 0)), (1, .int p1), (2, .int p2), (3, .int p3), (4, .ref (q1)), (5, .int w5_L11)] → F_X9_chanceOf_L10 n p1 p2 p3 kf w5_L11 u0_L11 u1_L11 = some r → Wrw 5 1 180 D A (exq (some (.int r.1)) (mW cA am r.2)) p l e sM m ([.ref (am 0), .int p1, .int p2, .int p3] : List Value).toArray below meth c H locs 1 180 10 ls [] := by
    intro kf
    induction kf with
    | zero =>
      intro w5_L11 u0_L11 u1_L11 H locs ls hP hD hS hl h
      cases (show none = some r from h)
    | succ k_L11 ih_L11 =>
      intro w5_L11 u0_L11 u1_L11 H locs ls hP hD hS hl h
      unfold F_X9_chanceOf_L10 at h
      refine lv_iload F.1 F.2.1 (dd D_X9_chanceOf 5 rfl) (lv_at hl 5 rfl) ?_
      refine lv_iload_n F.1 F.2.1 (dd D_X9_chanceOf 6 rfl) rfl (lv_at hl 1 rfl) ?_
      refine lv_iload_n F.1 F.2.1 (dd D_X9_chanceOf 7 rfl) rfl (lv_at hl 2 rfl) ?_
      refine ro_go (st' := [.int (F_X9_lastOf p1 p2), .int w5_L11]) (rS (rest := [.int w5_L11]) F (c_X9_lastOf D cA p1 p2 l) lk_X9_273 (Nat.le_of_ble_eq_true rfl) (preRO hK hS hAb (emP)) rfl hl rfl (Nat.le_of_ble_eq_true rfl) (dd D_X9_chanceOf 8 rfl) ⟨Nat.le_of_ble_eq_true rfl, Nat.le_of_ble_eq_true rfl⟩) rfl ?_
      refine x_icmp_gt (tgt := 74) F.1 F.2.1 (dd D_X9_chanceOf 9 rfl) rfl h (fun c12 h => ?_) (fun c12 h => ?_)
      · refine lv_iconst (v := (0 : Int32)) F.1 F.2.1 (dd D_X9_chanceOf 37 rfl) ki_0 ?_
        refine lv_istore (lv' := [(5, .int (0 : Int32)), (0, .ref (am 0)), (1, .int p1), (2, .int p2), (3, .int p3), (4, .ref (q1))]) F.1 F.2.1 (dd D_X9_chanceOf 38 rfl) hl (Nat.le_of_ble_eq_true rfl) rfl (fun ls hl => ?_)
        refine lv_iconst (v := (0 : Int32)) F.1 F.2.1 (dd D_X9_chanceOf 39 rfl) ki_0 ?_
        refine lv_istore (lv' := [(6, .int (0 : Int32)), (5, .int (0 : Int32)), (0, .ref (am 0)), (1, .int p1), (2, .int p2), (3, .int p3), (4, .ref (q1))]) F.1 F.2.1 (dd D_X9_chanceOf 40 rfl) hl (Nat.le_of_ble_eq_true rfl) rfl (fun ls hl => ?_)
        have L13 : ∀ (kf : Nat) (w5_L13 : Int32) (w6_L13 : Int32) (H : Heap) (locs : List Loc) (ls : Array Slot), va_P D vwCl ((mW cA am u0_L11) ++ [(q1, .inl (cA 2, 180, .inl u1_L11))]) H → va_D A ((mW cA am u0_L11) ++ [(q1, .inl (cA 2, 180, .inl u1_L11))]) → va_S A sM.heap H locs → lv_has ls 8 [(0, .ref (am 0)), (1, .int p1), (2, .int p2), (3, .int p3), (4, .ref (q1)), (5, .int w5_L13), (6, .int w6_L13)] → F_X9_chanceOf_L80 n (F_X9_chanceOf_L10 n p1 p2 p3 k_L11) u0_L11 u1_L11 p1 p2 p3 kf w5_L13 w6_L13 = some r → Wrw 5 1 180 D A (exq (some (.int r.1)) (mW cA am r.2)) p l e sM m ([.ref (am 0), .int p1, .int p2, .int p3] : List Value).toArray below meth c H locs 1 180 80 ls [] := by
          intro kf
          induction kf with
          | zero =>
            intro w5_L13 w6_L13 H locs ls hP hD hS hl h
            cases (show none = some r from h)
          | succ k_L13 ih_L13 =>
            intro w5_L13 w6_L13 H locs ls hP hD hS hl h
            unfold F_X9_chanceOf_L80 at h
            refine lv_iload F.1 F.2.1 (dd D_X9_chanceOf 41 rfl) (lv_at hl 6 rfl) ?_
            refine lv_sipush (v := (180 : Int32)) F.1 F.2.1 (dd D_X9_chanceOf 42 rfl) ks_180 ?_
            refine x_icmp_ge (tgt := 112) F.1 F.2.1 (dd D_X9_chanceOf 43 rfl) rfl h (fun c14 h => ?_) (fun c14 h => ?_)
            · refine lv_iload F.1 F.2.1 (dd D_X9_chanceOf 56 rfl) (lv_at hl 5 rfl) ?_
              have hP := preP hP
              have hD := preD hD
              obtain rfl := Option.some.inj h
              exact rw_i (R := rmOf 5 1 180) F hP hD hS hr hlk ⟨Nat.le_of_ble_eq_true rfl, Nat.le_of_ble_eq_true rfl⟩ ⟨rfl, rfl⟩ (dd D_X9_chanceOf 57 rfl)
            · refine lv_iload F.1 F.2.1 (dd D_X9_chanceOf 44 rfl) (lv_at hl 5 rfl) ?_
              refine lv_aload F.1 F.2.1 (dd D_X9_chanceOf 45 rfl) (lv_at hl 4 rfl) ?_
              refine lv_iload F.1 F.2.1 (dd D_X9_chanceOf 46 rfl) (lv_at hl 6 rfl) ?_
              refine aldZ F hK hP (31+0) (gR (mp_len cA am u0_L11) rfl) h (dd D_X9_chanceOf 47 rfl) (fun z15 h => ?_)
              refine x_if_eq (tgt := 102) F.1 F.2.1 (dd D_X9_chanceOf 48 rfl) rfl h (fun c16 h => ?_) (fun c16 h => ?_)
              · refine lv_iconst (v := (0 : Int32)) F.1 F.2.1 (dd D_X9_chanceOf 51 rfl) ki_0 ?_
                refine lv_iadd F.1 F.2.1 (dd D_X9_chanceOf 52 rfl) ?_
                refine lv_istore (lv' := [(5, .int (w5_L13 + (0 : Int32))), (0, .ref (am 0)), (1, .int p1), (2, .int p2), (3, .int p3), (4, .ref (q1)), (6, .int w6_L13)]) F.1 F.2.1 (dd D_X9_chanceOf 53 rfl) hl (Nat.le_of_ble_eq_true rfl) rfl (fun ls hl => ?_)
                refine lv_iinc (v := (w6_L13 + (1 : Int32))) (lv' := [(6, .int (w6_L13 + (1 : Int32))), (5, .int (w5_L13 + (0 : Int32))), (0, .ref (am 0)), (1, .int p1), (2, .int p2), (3, .int p3), (4, .ref (q1))]) F.1 F.2.1 (dd D_X9_chanceOf 54 rfl) hl (k := 6) rfl (congrArg (fun z => w6_L13 + z) ki_1) (Nat.le_of_ble_eq_true rfl) rfl (fun ls hl => ?_)
                refine lv_goto (tgt := 80) F.1 F.2.1 (dd D_X9_chanceOf 55 rfl) rfl ?_
                exact ih_L13 (w5_L13 + (0 : Int32)) (w6_L13 + (1 : Int32)) _ _ ls hP hD hS (lv_sub hl [2, 3, 4, 5, 6, 1, 0] rfl) h
              · refine lv_iconst (v := (1 : Int32)) F.1 F.2.1 (dd D_X9_chanceOf 49 rfl) ki_1 ?_
                refine lv_goto (tgt := 103) F.1 F.2.1 (dd D_X9_chanceOf 50 rfl) rfl ?_
                refine lv_iadd F.1 F.2.1 (dd D_X9_chanceOf 52 rfl) ?_
                refine lv_istore (lv' := [(5, .int (w5_L13 + (1 : Int32))), (0, .ref (am 0)), (1, .int p1), (2, .int p2), (3, .int p3), (4, .ref (q1)), (6, .int w6_L13)]) F.1 F.2.1 (dd D_X9_chanceOf 53 rfl) hl (Nat.le_of_ble_eq_true rfl) rfl (fun ls hl => ?_)
                refine lv_iinc (v := (w6_L13 + (1 : Int32))) (lv' := [(6, .int (w6_L13 + (1 : Int32))), (5, .int (w5_L13 + (1 : Int32))), (0, .ref (am 0)), (1, .int p1), (2, .int p2), (3, .int p3), (4, .ref (q1))]) F.1 F.2.1 (dd D_X9_chanceOf 54 rfl) hl (k := 6) rfl (congrArg (fun z => w6_L13 + z) ki_1) (Nat.le_of_ble_eq_true rfl) rfl (fun ls hl => ?_)
                refine lv_goto (tgt := 80) F.1 F.2.1 (dd D_X9_chanceOf 55 rfl) rfl ?_
                exact ih_L13 (w5_L13 + (1 : Int32)) (w6_L13 + (1 : Int32)) _ _ ls hP hD hS (lv_sub hl [2, 3, 4, 5, 6, 1, 0] rfl) h
        exact L13 n (0 : Int32) (0 : Int32) _ _ ls hP hD hS (lv_sub hl [2, 3, 4, 5, 6, 1, 0] rfl) h
      · refine lv_aload_n F.1 F.2.1 (dd D_X9_chanceOf 10 rfl) rfl (lv_at hl 0 rfl) ?_
        refine lv_iload F.1 F.2.1 (dd D_X9_chanceOf 11 rfl) (lv_at hl 5 rfl) ?_
        obtain ⟨r17, e18, h⟩ := Option.bind_eq_some_iff.mp h
        refine ro_go (st' := [.int r17]) (rV (rest := []) F (c_X9_degreeUp D cA am u0_L11 n w5_L11 r17 e18 l) lk_X9_256 (Nat.le_of_ble_eq_true rfl) (preRO hK hS hAb (preP hP)) (rcv_9 hK hP (q0 := (0)) (gL (mp_0 cA am u0_L11))) rfl hl rfl (Nat.le_of_ble_eq_true rfl) (dd D_X9_chanceOf 12 rfl) ⟨Nat.le_of_ble_eq_true rfl, Nat.le_of_ble_eq_true rfl⟩) rfl ?_
        refine lv_istore (lv' := [(6, .int r17), (0, .ref (am 0)), (1, .int p1), (2, .int p2), (3, .int p3), (4, .ref (q1)), (5, .int w5_L11)]) F.1 F.2.1 (dd D_X9_chanceOf 13 rfl) hl (Nat.le_of_ble_eq_true rfl) rfl (fun ls hl => ?_)
        refine lv_iload F.1 F.2.1 (dd D_X9_chanceOf 14 rfl) (lv_at hl 0 rfl) ?_
        refine lv_iload_n F.1 F.2.1 (dd D_X9_chanceOf 15 rfl) rfl (lv_at hl 4 rfl) ?_
        refine lv_isub F.1 F.2.1 (dd D_X9_chanceOf 16 rfl) ?_
        refine lv_istore (lv' := [(7, .int (r17 - p3)), (6, .int r17), (0, .ref (am 0)), (1, .int p1), (2, .int p2), (3, .int p3), (4, .ref (q1)), (5, .int w5_L11)]) F.1 F.2.1 (dd D_X9_chanceOf 17 rfl) hl (Nat.le_of_ble_eq_true rfl) rfl (fun ls hl => ?_)
        have L19 : ∀ (kf : Nat) (w7_L19 : Int32) (u0_L19 : MS) (u1_L19 : (Nat → Int32)) (H : Heap) (locs : List Loc) (ls : Array Slot), va_P D vwCl ((mW cA am u0_L19) ++ [(q1, .inl (cA 2, 180, .inl u1_L19))]) H → va_D A ((mW cA am u0_L19) ++ [(q1, .inl (cA 2, 180, .inl u1_L19))]) → va_S A sM.heap H locs → lv_has ls 8 [(0, .ref (am 0)), (1, .int p1), (2, .int p2), (3, .int p3), (4, .ref (q1)), (5, .int w5_L11), (6, .int r17), (7, .int w7_L19)] → F_X9_chanceOf_L34 n (F_X9_chanceOf_L10 n p1 p2 p3 k_L11) p1 p2 p3 w5_L11 r17 kf w7_L19 u0_L19 u1_L19 = some r → Wrw 5 1 180 D A (exq (some (.int r.1)) (mW cA am r.2)) p l e sM m ([.ref (am 0), .int p1, .int p2, .int p3] : List Value).toArray below meth c H locs 1 180 34 ls [] := by
          intro kf
          induction kf with
          | zero =>
            intro w7_L19 u0_L19 u1_L19 H locs ls hP hD hS hl h
            cases (show none = some r from h)
          | succ k_L19 ih_L19 =>
            intro w7_L19 u0_L19 u1_L19 H locs ls hP hD hS hl h
            unfold F_X9_chanceOf_L34 at h
            refine lv_iload F.1 F.2.1 (dd D_X9_chanceOf 18 rfl) (lv_at hl 7 rfl) ?_
            refine lv_iload F.1 F.2.1 (dd D_X9_chanceOf 19 rfl) (lv_at hl 6 rfl) ?_
            refine lv_iload_n F.1 F.2.1 (dd D_X9_chanceOf 20 rfl) rfl (lv_at hl 3 rfl) ?_
            refine lv_iadd F.1 F.2.1 (dd D_X9_chanceOf 21 rfl) ?_
            refine x_icmp_gt (tgt := 68) F.1 F.2.1 (dd D_X9_chanceOf 22 rfl) rfl h (fun c20 h => ?_) (fun c20 h => ?_)
            · refine lv_iinc (v := (w5_L11 + (1 : Int32))) (lv' := [(5, .int (w5_L11 + (1 : Int32))), (0, .ref (am 0)), (1, .int p1), (2, .int p2), (3, .int p3), (4, .ref (q1)), (6, .int r17), (7, .int w7_L19)]) F.1 F.2.1 (dd D_X9_chanceOf 35 rfl) hl (k := 5) rfl (congrArg (fun z => w5_L11 + z) ki_1) (Nat.le_of_ble_eq_true rfl) rfl (fun ls hl => ?_)
              refine lv_goto (tgt := 10) F.1 F.2.1 (dd D_X9_chanceOf 36 rfl) rfl ?_
              exact ih_L11 (w5_L11 + (1 : Int32)) u0_L19 u1_L19 _ _ ls hP hD hS (lv_sub hl [1, 2, 3, 4, 5, 0] rfl) h
            · refine lv_iload F.1 F.2.1 (dd D_X9_chanceOf 23 rfl) (lv_at hl 7 rfl) ?_
              refine lv_i2l (v := (Int32.toInt64 w7_L19)) F.1 F.2.1 (dd D_X9_chanceOf 24 rfl) rfl ?_
              refine lv_lconst (v := (0 : Int64)) F.1 F.2.1 (dd D_X9_chanceOf 25 rfl) kl_0 ?_
              refine lv_ldc2 (own := RX9) (v := (179 : Int64)) F.1 F.2.1 F.2.2.2.1 (F.2.2.2.2 _ (kL_X9_119)) (dd D_X9_chanceOf 26 rfl) ?_
              refine ro_go (st' := [.int (bI (F_X9_in (Int32.toInt64 w7_L19) (0 : Int64) (179 : Int64)))]) (rS (rest := []) F (c_X9_in D cA (Int32.toInt64 w7_L19) (0 : Int64) (179 : Int64) l) lk_X9_63 (Nat.le_of_ble_eq_true rfl) (preRO hK hS hAb (emP)) rfl hl rfl (Nat.le_of_ble_eq_true rfl) (dd D_X9_chanceOf 27 rfl) ⟨Nat.le_of_ble_eq_true rfl, Nat.le_of_ble_eq_true rfl⟩) rfl ?_
              refine x_bif_eq (tgt := 62) F.1 F.2.1 (dd D_X9_chanceOf 28 rfl) rfl h (fun c22 h => ?_) (fun c22 h => ?_)
              · refine lv_iinc (v := (w7_L19 + (1 : Int32))) (lv' := [(7, .int (w7_L19 + (1 : Int32))), (0, .ref (am 0)), (1, .int p1), (2, .int p2), (3, .int p3), (4, .ref (q1)), (5, .int w5_L11), (6, .int r17)]) F.1 F.2.1 (dd D_X9_chanceOf 33 rfl) hl (k := 7) rfl (congrArg (fun z => w7_L19 + z) ki_1) (Nat.le_of_ble_eq_true rfl) rfl (fun ls hl => ?_)
                refine lv_goto (tgt := 34) F.1 F.2.1 (dd D_X9_chanceOf 34 rfl) rfl ?_
                exact ih_L19 (w7_L19 + (1 : Int32)) u0_L19 u1_L19 _ _ ls hP hD hS (lv_sub hl [1, 2, 3, 4, 5, 6, 7, 0] rfl) h
              · refine lv_aload F.1 F.2.1 (dd D_X9_chanceOf 29 rfl) (lv_at hl 4 rfl) ?_
                refine lv_iload F.1 F.2.1 (dd D_X9_chanceOf 30 rfl) (lv_at hl 7 rfl) ?_
                refine lv_iconst (v := (1 : Int32)) F.1 F.2.1 (dd D_X9_chanceOf 31 rfl) ki_1 ?_
                refine astZ F hK hP hD hS (31+0) (gR (mp_len cA am u0_L19) rfl) h (ws' := ((mW cA am u0_L19) ++ [(q1, .inl (cA 2, 180, .inl (upd u1_L19 (Int32.toNatClampNeg w7_L19) (vp_nar .boolean (1 : Int32)))))])) (sR (mp_len cA am u0_L19) rfl) (dd D_X9_chanceOf 32 rfl) (fun z21 h H locs hP hD hS => ?_)
                refine lv_iinc (v := (w7_L19 + (1 : Int32))) (lv' := [(7, .int (w7_L19 + (1 : Int32))), (0, .ref (am 0)), (1, .int p1), (2, .int p2), (3, .int p3), (4, .ref (q1)), (5, .int w5_L11), (6, .int r17)]) F.1 F.2.1 (dd D_X9_chanceOf 33 rfl) hl (k := 7) rfl (congrArg (fun z => w7_L19 + z) ki_1) (Nat.le_of_ble_eq_true rfl) rfl (fun ls hl => ?_)
                refine lv_goto (tgt := 34) F.1 F.2.1 (dd D_X9_chanceOf 34 rfl) rfl ?_
                exact ih_L19 (w7_L19 + (1 : Int32)) u0_L19 (upd u1_L19 (Int32.toNatClampNeg w7_L19) (vp_nar .boolean (1 : Int32))) _ _ ls hP hD hS (lv_sub hl [1, 2, 3, 4, 5, 6, 7, 0] rfl) h
        exact L19 n (r17 - p3) u0_L11 u1_L11 _ _ ls hP hD hS (lv_sub hl [2, 3, 4, 5, 6, 7, 1, 0] rfl) h
  exact L11 n p1 s (fun _ => 0) _ _ ls hP hD hS (lv_sub hl [2, 3, 4, 5, 1, 0] rfl) h
def F_X9_chance (n : Nat) (s : MS) (p1 : Int32) (p2 : Int32) (p3 : Int32) : Option (Int32 × MS) := bf (F_X9_areDays p1 p2) (bf (F_X9_isNear p3) ((((F_X9_chanceOf n s p1 p2 p3)).bind fun r5 => some (r5.1, r5.2))) ((((F_X9_refuse n s (-2 : Int32))).bind fun r3 => some (r3.1, r3.2)))) ((((F_X9_refuse n s (-2 : Int32))).bind fun r1 => some (r1.1, r1.2)))
set_option maxHeartbeats 4000000 in
set_option maxRecDepth 100000 in
theorem c_X9_chance (D : va_G) (cA : Nat → ClassId) (am : Nat → Nat) (s : MS) (n : Nat) (p1 : Int32) (p2 : Int32) (p3 : Int32) (r : (Int32 × MS)) (h : F_X9_chance n s p1 p2 p3 = some r) : RW m_X9_chance 6 1 180 D cA [.ref (am 0), .int p1, .int p2, .int p3] (mW cA am s) (exq (some (.int r.1)) (mW cA am r.2)) := by
  refine RW.ofW gy_X9_chance.2.2 (Nat.le_of_ble_eq_true rfl) ?_
  intro l p e sM m below meth c A H locs F hr hlk hnm hK hP hD hS hA hAb ls hl
  have hl : lv_has ls 4 [(0, .ref (am 0)), (1, .int p1), (2, .int p2), (3, .int p3)] := hl
  unfold F_X9_chance at h
  refine lv_iload_n F.1 F.2.1 (dd D_X9_chance 0 rfl) rfl (lv_at hl 1 rfl) ?_
  refine lv_iload_n F.1 F.2.1 (dd D_X9_chance 1 rfl) rfl (lv_at hl 2 rfl) ?_
  refine ro_go (st' := [.int (bI (F_X9_areDays p1 p2))]) (rS (rest := []) F (c_X9_areDays D cA p1 p2 l) lk_X9_276 (Nat.le_of_ble_eq_true rfl) (preRO hK hS hAb (emP)) rfl hl rfl (Nat.le_of_ble_eq_true rfl) (dd D_X9_chance 2 rfl) ⟨Nat.le_of_ble_eq_true rfl, Nat.le_of_ble_eq_true rfl⟩) rfl ?_
  refine x_bif_eq (tgt := 25) F.1 F.2.1 (dd D_X9_chance 3 rfl) rfl h (fun c8 h => ?_) (fun c8 h => ?_)
  · refine lv_aload_n F.1 F.2.1 (dd D_X9_chance 13 rfl) rfl (lv_at hl 0 rfl) ?_
    refine lv_bipush (v := (-2 : Int32)) F.1 F.2.1 (dd D_X9_chance 14 rfl) kb_m2 ?_
    obtain ⟨r1, e2, h⟩ := Option.bind_eq_some_iff.mp h
    refine rwe_all (st' := [.int r1.1]) hD hS hA (rV (rest := []) F (c_X9_refuse D cA am s n (-2 : Int32) r1 e2 l H.size) lk_X9_79 (Nat.le_of_ble_eq_true rfl) (preRW hK hS hAb hP hD) (rcv_9 hK hP (q0 := (0)) (mp_0 cA am s)) rfl hl rfl (Nat.le_of_ble_eq_true rfl) (dd D_X9_chance 15 rfl) ⟨Nat.le_of_ble_eq_true rfl, Nat.le_of_ble_eq_true rfl⟩) rfl (fun H locs hP hD hS => ?_)
    obtain rfl := Option.some.inj h
    exact rw_i (R := rmOf 6 1 180) F hP hD hS hr hlk ⟨Nat.le_of_ble_eq_true rfl, Nat.le_of_ble_eq_true rfl⟩ ⟨rfl, rfl⟩ (dd D_X9_chance 16 rfl)
  · refine lv_iload_n F.1 F.2.1 (dd D_X9_chance 4 rfl) rfl (lv_at hl 3 rfl) ?_
    refine ro_go (st' := [.int (bI (F_X9_isNear p3))]) (rS (rest := []) F (c_X9_isNear D cA p3 l) lk_X9_320 (Nat.le_of_ble_eq_true rfl) (preRO hK hS hAb (emP)) rfl hl rfl (Nat.le_of_ble_eq_true rfl) (dd D_X9_chance 5 rfl) ⟨Nat.le_of_ble_eq_true rfl, Nat.le_of_ble_eq_true rfl⟩) rfl ?_
    refine x_bif_eq (tgt := 25) F.1 F.2.1 (dd D_X9_chance 6 rfl) rfl h (fun c7 h => ?_) (fun c7 h => ?_)
    · refine lv_aload_n F.1 F.2.1 (dd D_X9_chance 13 rfl) rfl (lv_at hl 0 rfl) ?_
      refine lv_bipush (v := (-2 : Int32)) F.1 F.2.1 (dd D_X9_chance 14 rfl) kb_m2 ?_
      obtain ⟨r3, e4, h⟩ := Option.bind_eq_some_iff.mp h
      refine rwe_all (st' := [.int r3.1]) hD hS hA (rV (rest := []) F (c_X9_refuse D cA am s n (-2 : Int32) r3 e4 l H.size) lk_X9_79 (Nat.le_of_ble_eq_true rfl) (preRW hK hS hAb hP hD) (rcv_9 hK hP (q0 := (0)) (mp_0 cA am s)) rfl hl rfl (Nat.le_of_ble_eq_true rfl) (dd D_X9_chance 15 rfl) ⟨Nat.le_of_ble_eq_true rfl, Nat.le_of_ble_eq_true rfl⟩) rfl (fun H locs hP hD hS => ?_)
      obtain rfl := Option.some.inj h
      exact rw_i (R := rmOf 6 1 180) F hP hD hS hr hlk ⟨Nat.le_of_ble_eq_true rfl, Nat.le_of_ble_eq_true rfl⟩ ⟨rfl, rfl⟩ (dd D_X9_chance 16 rfl)
    · refine lv_aload_n F.1 F.2.1 (dd D_X9_chance 7 rfl) rfl (lv_at hl 0 rfl) ?_
      refine lv_iload_n F.1 F.2.1 (dd D_X9_chance 8 rfl) rfl (lv_at hl 1 rfl) ?_
      refine lv_iload_n F.1 F.2.1 (dd D_X9_chance 9 rfl) rfl (lv_at hl 2 rfl) ?_
      refine lv_iload_n F.1 F.2.1 (dd D_X9_chance 10 rfl) rfl (lv_at hl 3 rfl) ?_
      obtain ⟨r5, e6, h⟩ := Option.bind_eq_some_iff.mp h
      refine rwe_all (st' := [.int r5.1]) hD hS hA (rV (rest := []) F (c_X9_chanceOf D cA am s n p1 p2 p3 r5 e6 l H.size) lk_X9_327 (Nat.le_of_ble_eq_true rfl) (preRW hK hS hAb hP hD) (rcv_9 hK hP (q0 := (0)) (mp_0 cA am s)) rfl hl rfl (Nat.le_of_ble_eq_true rfl) (dd D_X9_chance 11 rfl) ⟨Nat.le_of_ble_eq_true rfl, Nat.le_of_ble_eq_true rfl⟩) rfl (fun H locs hP hD hS => ?_)
      refine lv_goto (tgt := 31) F.1 F.2.1 (dd D_X9_chance 12 rfl) rfl ?_
      obtain rfl := Option.some.inj h
      exact rw_i (R := rmOf 6 1 180) F hP hD hS hr hlk ⟨Nat.le_of_ble_eq_true rfl, Nat.le_of_ble_eq_true rfl⟩ ⟨rfl, rfl⟩ (dd D_X9_chance 16 rfl)
def F_X9_meant_L50 (n : Nat) (u0 : MS) (v1 : Int32) (v2 : Int32) (v3 : Int32) : Nat → Int32 → Int32 → Option (Int32 × MS)
  | 0, _, _ => none
  | kf + 1, w4, w5 => (if (m_stones u0) ≤ w5 then gd (decide (¬ (m_stones u0) = 0)) ((((F_X9_chanceOf n u0 v1 v2 v3)).bind fun r6 => some ((((w4 * (1000 : Int32)) / (m_stones u0)) - ((r6.1 * (1000 : Int32)) / (180 : Int32))), r6.2))) else gd (inb w5 6) ((((F_X9_isHit n u0 ((m_stone u0) (Int32.toNatClampNeg w5)) v1 v2 v3)).bind fun r9 => bf r9 (F_X9_meant_L50 n u0 v1 v2 v3 kf (w4 + (1 : Int32)) (w5 + (1 : Int32))) (F_X9_meant_L50 n u0 v1 v2 v3 kf (w4 + (0 : Int32)) (w5 + (1 : Int32))))))
def F_X9_meant (n : Nat) (s : MS) (p1 : Int32) (p2 : Int32) (p3 : Int32) : Option (Int32 × MS) := bf (F_X9_areDays p1 p2) (bf (F_X9_isNear p3) ((if (m_stones s) = 0 then (((F_X9_refuse n s (-5 : Int32))).bind fun r21 => some (((-1000000 : Int32) + r21.1), r21.2)) else F_X9_meant_L50 n s p1 p2 p3 n (0 : Int32) (0 : Int32))) ((((F_X9_refuse n s (-2 : Int32))).bind fun r23 => some (((-1000000 : Int32) + r23.1), r23.2)))) ((((F_X9_refuse n s (-2 : Int32))).bind fun r1 => some (((-1000000 : Int32) + r1.1), r1.2)))
set_option maxHeartbeats 4000000 in
set_option maxRecDepth 100000 in
theorem c_X9_meant (D : va_G) (cA : Nat → ClassId) (am : Nat → Nat) (s : MS) (n : Nat) (p1 : Int32) (p2 : Int32) (p3 : Int32) (r : (Int32 × MS)) (h : F_X9_meant n s p1 p2 p3 = some r) : RW m_X9_meant 6 1 180 D cA [.ref (am 0), .int p1, .int p2, .int p3] (mW cA am s) (exq (some (.int r.1)) (mW cA am r.2)) := by
  refine RW.ofW gy_X9_meant.2.2 (Nat.le_of_ble_eq_true rfl) ?_
  intro l p e sM m below meth c A H locs F hr hlk hnm hK hP hD hS hA hAb ls hl
  have hl : lv_has ls 6 [(0, .ref (am 0)), (1, .int p1), (2, .int p2), (3, .int p3)] := hl
  unfold F_X9_meant at h
  refine lv_iload_n F.1 F.2.1 (dd D_X9_meant 0 rfl) rfl (lv_at hl 1 rfl) ?_
  refine lv_iload_n F.1 F.2.1 (dd D_X9_meant 1 rfl) rfl (lv_at hl 2 rfl) ?_
  refine ro_go (st' := [.int (bI (F_X9_areDays p1 p2))]) (rS (rest := []) F (c_X9_areDays D cA p1 p2 l) lk_X9_276 (Nat.le_of_ble_eq_true rfl) (preRO hK hS hAb (emP)) rfl hl rfl (Nat.le_of_ble_eq_true rfl) (dd D_X9_meant 2 rfl) ⟨Nat.le_of_ble_eq_true rfl, Nat.le_of_ble_eq_true rfl⟩) rfl ?_
  refine x_bif_eq (tgt := 15) F.1 F.2.1 (dd D_X9_meant 3 rfl) rfl h (fun c26 h => ?_) (fun c26 h => ?_)
  · refine lv_ldcw (own := RX9) (v := (-1000000 : Int32)) F.1 F.2.1 F.2.2.2.1 (F.2.2.2.2 _ (w_1463)) (dd D_X9_meant 7 rfl) ?_
    refine lv_aload_n F.1 F.2.1 (dd D_X9_meant 8 rfl) rfl (lv_at hl 0 rfl) ?_
    refine lv_bipush (v := (-2 : Int32)) F.1 F.2.1 (dd D_X9_meant 9 rfl) kb_m2 ?_
    obtain ⟨r1, e2, h⟩ := Option.bind_eq_some_iff.mp h
    refine rwe_all (st' := [.int r1.1, .int (-1000000 : Int32)]) hD hS hA (rV (rest := [.int (-1000000 : Int32)]) F (c_X9_refuse D cA am s n (-2 : Int32) r1 e2 l H.size) lk_X9_79 (Nat.le_of_ble_eq_true rfl) (preRW hK hS hAb hP hD) (rcv_9 hK hP (q0 := (0)) (mp_0 cA am s)) rfl hl rfl (Nat.le_of_ble_eq_true rfl) (dd D_X9_meant 10 rfl) ⟨Nat.le_of_ble_eq_true rfl, Nat.le_of_ble_eq_true rfl⟩) rfl (fun H locs hP hD hS => ?_)
    refine lv_iadd F.1 F.2.1 (dd D_X9_meant 11 rfl) ?_
    obtain rfl := Option.some.inj h
    exact rw_i (R := rmOf 6 1 180) F hP hD hS hr hlk ⟨Nat.le_of_ble_eq_true rfl, Nat.le_of_ble_eq_true rfl⟩ ⟨rfl, rfl⟩ (dd D_X9_meant 12 rfl)
  · refine lv_iload_n F.1 F.2.1 (dd D_X9_meant 4 rfl) rfl (lv_at hl 3 rfl) ?_
    refine ro_go (st' := [.int (bI (F_X9_isNear p3))]) (rS (rest := []) F (c_X9_isNear D cA p3 l) lk_X9_320 (Nat.le_of_ble_eq_true rfl) (preRO hK hS hAb (emP)) rfl hl rfl (Nat.le_of_ble_eq_true rfl) (dd D_X9_meant 5 rfl) ⟨Nat.le_of_ble_eq_true rfl, Nat.le_of_ble_eq_true rfl⟩) rfl ?_
    refine x_bif_ne (tgt := 26) F.1 F.2.1 (dd D_X9_meant 6 rfl) rfl h (fun c25 h => ?_) (fun c25 h => ?_)
    · refine lv_aload_n F.1 F.2.1 (dd D_X9_meant 13 rfl) rfl (lv_at hl 0 rfl) ?_
      refine getF F hK hP lf_X9_127 (0) (mp_0 cA am s) rfl (dd D_X9_meant 14 rfl) ?_
      refine x_if_ne (tgt := 44) F.1 F.2.1 (dd D_X9_meant 15 rfl) rfl h (fun c3 h => ?_) (fun c3 h => ?_)
      · refine lv_iconst (v := (0 : Int32)) F.1 F.2.1 (dd D_X9_meant 22 rfl) ki_0 ?_
        refine lv_istore (lv' := [(4, .int (0 : Int32)), (0, .ref (am 0)), (1, .int p1), (2, .int p2), (3, .int p3)]) F.1 F.2.1 (dd D_X9_meant 23 rfl) hl (Nat.le_of_ble_eq_true rfl) rfl (fun ls hl => ?_)
        refine lv_iconst (v := (0 : Int32)) F.1 F.2.1 (dd D_X9_meant 24 rfl) ki_0 ?_
        refine lv_istore (lv' := [(5, .int (0 : Int32)), (4, .int (0 : Int32)), (0, .ref (am 0)), (1, .int p1), (2, .int p2), (3, .int p3)]) F.1 F.2.1 (dd D_X9_meant 25 rfl) hl (Nat.le_of_ble_eq_true rfl) rfl (fun ls hl => ?_)
        have L12 : ∀ (kf : Nat) (w4_L12 : Int32) (w5_L12 : Int32) (H : Heap) (locs : List Loc) (ls : Array Slot), va_P D vwCl (mW cA am s) H → va_D A (mW cA am s) → va_S A sM.heap H locs → lv_has ls 6 [(0, .ref (am 0)), (1, .int p1), (2, .int p2), (3, .int p3), (4, .int w4_L12), (5, .int w5_L12)] → F_X9_meant_L50 n s p1 p2 p3 kf w4_L12 w5_L12 = some r → Wrw 6 1 180 D A (exq (some (.int r.1)) (mW cA am r.2)) p l e sM m ([.ref (am 0), .int p1, .int p2, .int p3] : List Value).toArray below meth c H locs 0 0 50 ls [] := by
          intro kf
          induction kf with
          | zero =>
            intro w4_L12 w5_L12 H locs ls hP hD hS hl h
            cases (show none = some r from h)
          | succ k_L12 ih_L12 =>
            intro w4_L12 w5_L12 H locs ls hP hD hS hl h
            unfold F_X9_meant_L50 at h
            refine lv_iload F.1 F.2.1 (dd D_X9_meant 26 rfl) (lv_at hl 5 rfl) ?_
            refine lv_aload_n F.1 F.2.1 (dd D_X9_meant 27 rfl) rfl (lv_at hl 0 rfl) ?_
            refine getF F hK hP lf_X9_127 (0) (mp_0 cA am s) rfl (dd D_X9_meant 28 rfl) ?_
            refine x_icmp_ge (tgt := 92) F.1 F.2.1 (dd D_X9_meant 29 rfl) rfl h (fun c13 h => ?_) (fun c13 h => ?_)
            · refine lv_iload F.1 F.2.1 (dd D_X9_meant 48 rfl) (lv_at hl 4 rfl) ?_
              refine lv_sipush (v := (1000 : Int32)) F.1 F.2.1 (dd D_X9_meant 49 rfl) ks_1000 ?_
              refine lv_imul F.1 F.2.1 (dd D_X9_meant 50 rfl) ?_
              refine lv_aload_n F.1 F.2.1 (dd D_X9_meant 51 rfl) rfl (lv_at hl 0 rfl) ?_
              refine getF F hK hP lf_X9_127 (0) (mp_0 cA am s) rfl (dd D_X9_meant 52 rfl) ?_
              obtain ⟨z14, h⟩ := gd_some h
              refine lv_idiv F.1 F.2.1 (dd D_X9_meant 53 rfl) (of_decide_eq_true z14) ?_
              refine lv_aload_n F.1 F.2.1 (dd D_X9_meant 54 rfl) rfl (lv_at hl 0 rfl) ?_
              refine lv_iload_n F.1 F.2.1 (dd D_X9_meant 55 rfl) rfl (lv_at hl 1 rfl) ?_
              refine lv_iload_n F.1 F.2.1 (dd D_X9_meant 56 rfl) rfl (lv_at hl 2 rfl) ?_
              refine lv_iload_n F.1 F.2.1 (dd D_X9_meant 57 rfl) rfl (lv_at hl 3 rfl) ?_
              obtain ⟨r15, e16, h⟩ := Option.bind_eq_some_iff.mp h
              refine rwe_all (st' := [.int r15.1, .int ((w4_L12 * (1000 : Int32)) / (m_stones s))]) hD hS hA (rV (rest := [.int ((w4_L12 * (1000 : Int32)) / (m_stones s))]) F (c_X9_chanceOf D cA am s n p1 p2 p3 r15 e16 l H.size) lk_X9_327 (Nat.le_of_ble_eq_true rfl) (preRW hK hS hAb hP hD) (rcv_9 hK hP (q0 := (0)) (mp_0 cA am s)) rfl hl rfl (Nat.le_of_ble_eq_true rfl) (dd D_X9_meant 58 rfl) ⟨Nat.le_of_ble_eq_true rfl, Nat.le_of_ble_eq_true rfl⟩) rfl (fun H locs hP hD hS => ?_)
              refine lv_sipush (v := (1000 : Int32)) F.1 F.2.1 (dd D_X9_meant 59 rfl) ks_1000 ?_
              refine lv_imul F.1 F.2.1 (dd D_X9_meant 60 rfl) ?_
              refine lv_sipush (v := (180 : Int32)) F.1 F.2.1 (dd D_X9_meant 61 rfl) ks_180 ?_
              refine lv_idiv F.1 F.2.1 (dd D_X9_meant 62 rfl) kd_180 ?_
              refine lv_isub F.1 F.2.1 (dd D_X9_meant 63 rfl) ?_
              obtain rfl := Option.some.inj h
              exact rw_i (R := rmOf 6 1 180) F hP hD hS hr hlk ⟨Nat.le_of_ble_eq_true rfl, Nat.le_of_ble_eq_true rfl⟩ ⟨rfl, rfl⟩ (dd D_X9_meant 64 rfl)
            · refine lv_iload F.1 F.2.1 (dd D_X9_meant 30 rfl) (lv_at hl 4 rfl) ?_
              refine lv_aload_n F.1 F.2.1 (dd D_X9_meant 31 rfl) rfl (lv_at hl 0 rfl) ?_
              refine lv_aload_n F.1 F.2.1 (dd D_X9_meant 32 rfl) rfl (lv_at hl 0 rfl) ?_
              refine getF F hK hP lf_X9_48 (0) (mp_0 cA am s) rfl (dd D_X9_meant 33 rfl) ?_
              refine lv_iload F.1 F.2.1 (dd D_X9_meant 34 rfl) (lv_at hl 5 rfl) ?_
              refine aldI F hK hP (28) (mp_28 cA am s) h (dd D_X9_meant 35 rfl) (fun z17 h => ?_)
              refine lv_iload_n F.1 F.2.1 (dd D_X9_meant 36 rfl) rfl (lv_at hl 1 rfl) ?_
              refine lv_iload_n F.1 F.2.1 (dd D_X9_meant 37 rfl) rfl (lv_at hl 2 rfl) ?_
              refine lv_iload_n F.1 F.2.1 (dd D_X9_meant 38 rfl) rfl (lv_at hl 3 rfl) ?_
              obtain ⟨r18, e19, h⟩ := Option.bind_eq_some_iff.mp h
              refine ro_go (st' := [.int (bI r18), .int w4_L12]) (rV (rest := [.int w4_L12]) F (c_X9_isHit D cA am s n ((m_stone s) (Int32.toNatClampNeg w5_L12)) p1 p2 p3 r18 e19 l) lk_X9_323 (Nat.le_of_ble_eq_true rfl) (preRO hK hS hAb hP) (rcv_9 hK hP (q0 := (0)) (mp_0 cA am s)) rfl hl rfl (Nat.le_of_ble_eq_true rfl) (dd D_X9_meant 39 rfl) ⟨Nat.le_of_ble_eq_true rfl, Nat.le_of_ble_eq_true rfl⟩) rfl ?_
              refine x_bif_eq (tgt := 82) F.1 F.2.1 (dd D_X9_meant 40 rfl) rfl h (fun c20 h => ?_) (fun c20 h => ?_)
              · refine lv_iconst (v := (0 : Int32)) F.1 F.2.1 (dd D_X9_meant 43 rfl) ki_0 ?_
                refine lv_iadd F.1 F.2.1 (dd D_X9_meant 44 rfl) ?_
                refine lv_istore (lv' := [(4, .int (w4_L12 + (0 : Int32))), (0, .ref (am 0)), (1, .int p1), (2, .int p2), (3, .int p3), (5, .int w5_L12)]) F.1 F.2.1 (dd D_X9_meant 45 rfl) hl (Nat.le_of_ble_eq_true rfl) rfl (fun ls hl => ?_)
                refine lv_iinc (v := (w5_L12 + (1 : Int32))) (lv' := [(5, .int (w5_L12 + (1 : Int32))), (4, .int (w4_L12 + (0 : Int32))), (0, .ref (am 0)), (1, .int p1), (2, .int p2), (3, .int p3)]) F.1 F.2.1 (dd D_X9_meant 46 rfl) hl (k := 5) rfl (congrArg (fun z => w5_L12 + z) ki_1) (Nat.le_of_ble_eq_true rfl) rfl (fun ls hl => ?_)
                refine lv_goto (tgt := 50) F.1 F.2.1 (dd D_X9_meant 47 rfl) rfl ?_
                exact ih_L12 (w4_L12 + (0 : Int32)) (w5_L12 + (1 : Int32)) _ _ ls hP hD hS (lv_sub hl [2, 3, 4, 5, 1, 0] rfl) h
              · refine lv_iconst (v := (1 : Int32)) F.1 F.2.1 (dd D_X9_meant 41 rfl) ki_1 ?_
                refine lv_goto (tgt := 83) F.1 F.2.1 (dd D_X9_meant 42 rfl) rfl ?_
                refine lv_iadd F.1 F.2.1 (dd D_X9_meant 44 rfl) ?_
                refine lv_istore (lv' := [(4, .int (w4_L12 + (1 : Int32))), (0, .ref (am 0)), (1, .int p1), (2, .int p2), (3, .int p3), (5, .int w5_L12)]) F.1 F.2.1 (dd D_X9_meant 45 rfl) hl (Nat.le_of_ble_eq_true rfl) rfl (fun ls hl => ?_)
                refine lv_iinc (v := (w5_L12 + (1 : Int32))) (lv' := [(5, .int (w5_L12 + (1 : Int32))), (4, .int (w4_L12 + (1 : Int32))), (0, .ref (am 0)), (1, .int p1), (2, .int p2), (3, .int p3)]) F.1 F.2.1 (dd D_X9_meant 46 rfl) hl (k := 5) rfl (congrArg (fun z => w5_L12 + z) ki_1) (Nat.le_of_ble_eq_true rfl) rfl (fun ls hl => ?_)
                refine lv_goto (tgt := 50) F.1 F.2.1 (dd D_X9_meant 47 rfl) rfl ?_
                exact ih_L12 (w4_L12 + (1 : Int32)) (w5_L12 + (1 : Int32)) _ _ ls hP hD hS (lv_sub hl [2, 3, 4, 5, 1, 0] rfl) h
        exact L12 n (0 : Int32) (0 : Int32) _ _ ls hP hD hS (lv_sub hl [2, 3, 4, 5, 1, 0] rfl) h
      · refine lv_ldcw (own := RX9) (v := (-1000000 : Int32)) F.1 F.2.1 F.2.2.2.1 (F.2.2.2.2 _ (w_1463)) (dd D_X9_meant 16 rfl) ?_
        refine lv_aload_n F.1 F.2.1 (dd D_X9_meant 17 rfl) rfl (lv_at hl 0 rfl) ?_
        refine lv_bipush (v := (-5 : Int32)) F.1 F.2.1 (dd D_X9_meant 18 rfl) kb_m5 ?_
        obtain ⟨r21, e22, h⟩ := Option.bind_eq_some_iff.mp h
        refine rwe_all (st' := [.int r21.1, .int (-1000000 : Int32)]) hD hS hA (rV (rest := [.int (-1000000 : Int32)]) F (c_X9_refuse D cA am s n (-5 : Int32) r21 e22 l H.size) lk_X9_79 (Nat.le_of_ble_eq_true rfl) (preRW hK hS hAb hP hD) (rcv_9 hK hP (q0 := (0)) (mp_0 cA am s)) rfl hl rfl (Nat.le_of_ble_eq_true rfl) (dd D_X9_meant 19 rfl) ⟨Nat.le_of_ble_eq_true rfl, Nat.le_of_ble_eq_true rfl⟩) rfl (fun H locs hP hD hS => ?_)
        refine lv_iadd F.1 F.2.1 (dd D_X9_meant 20 rfl) ?_
        obtain rfl := Option.some.inj h
        exact rw_i (R := rmOf 6 1 180) F hP hD hS hr hlk ⟨Nat.le_of_ble_eq_true rfl, Nat.le_of_ble_eq_true rfl⟩ ⟨rfl, rfl⟩ (dd D_X9_meant 21 rfl)
    · refine lv_ldcw (own := RX9) (v := (-1000000 : Int32)) F.1 F.2.1 F.2.2.2.1 (F.2.2.2.2 _ (w_1463)) (dd D_X9_meant 7 rfl) ?_
      refine lv_aload_n F.1 F.2.1 (dd D_X9_meant 8 rfl) rfl (lv_at hl 0 rfl) ?_
      refine lv_bipush (v := (-2 : Int32)) F.1 F.2.1 (dd D_X9_meant 9 rfl) kb_m2 ?_
      obtain ⟨r23, e24, h⟩ := Option.bind_eq_some_iff.mp h
      refine rwe_all (st' := [.int r23.1, .int (-1000000 : Int32)]) hD hS hA (rV (rest := [.int (-1000000 : Int32)]) F (c_X9_refuse D cA am s n (-2 : Int32) r23 e24 l H.size) lk_X9_79 (Nat.le_of_ble_eq_true rfl) (preRW hK hS hAb hP hD) (rcv_9 hK hP (q0 := (0)) (mp_0 cA am s)) rfl hl rfl (Nat.le_of_ble_eq_true rfl) (dd D_X9_meant 10 rfl) ⟨Nat.le_of_ble_eq_true rfl, Nat.le_of_ble_eq_true rfl⟩) rfl (fun H locs hP hD hS => ?_)
      refine lv_iadd F.1 F.2.1 (dd D_X9_meant 11 rfl) ?_
      obtain rfl := Option.some.inj h
      exact rw_i (R := rmOf 6 1 180) F hP hD hS hr hlk ⟨Nat.le_of_ble_eq_true rfl, Nat.le_of_ble_eq_true rfl⟩ ⟨rfl, rfl⟩ (dd D_X9_meant 12 rfl)
def F_X9_meets_L41 (n : Nat) (u0 : MS) (v1 : Int32) (v2 : Int32) (v3 : Int32) : Nat → Int32 → Option (Int32 × MS)
  | 0, _ => none
  | kf + 1, w4 => (if (F_X9_lastOf v2 (1000 : Int32)) < w4 then some ((-1 : Int32), u0) else gd (inb v1 6) ((((F_X9_isHit n u0 ((m_stone u0) (Int32.toNatClampNeg v1)) w4 (1 : Int32) v3)).bind fun r7 => bf r7 (some (w4, u0)) (F_X9_meets_L41 n u0 v1 v2 v3 kf (w4 + (1 : Int32))))))
def F_X9_meets (n : Nat) (s : MS) (p1 : Int32) (p2 : Int32) (p3 : Int32) : Option (Int32 × MS) := bf (F_X9_in (Int32.toInt64 p1) (0 : Int64) (Int32.toInt64 ((m_stones s) - (1 : Int32)))) (bf (F_X9_isDay (Int32.toInt64 p2)) (bf (F_X9_isNear p3) (F_X9_meets_L41 n s p1 p2 p3 n p2) ((((F_X9_refuse n s (-2 : Int32))).bind fun r16 => some (r16.1, r16.2)))) ((((F_X9_refuse n s (-2 : Int32))).bind fun r3 => some (r3.1, r3.2)))) ((((F_X9_refuse n s (-2 : Int32))).bind fun r1 => some (r1.1, r1.2)))
set_option maxHeartbeats 4000000 in
set_option maxRecDepth 100000 in
theorem c_X9_meets (D : va_G) (cA : Nat → ClassId) (am : Nat → Nat) (s : MS) (n : Nat) (p1 : Int32) (p2 : Int32) (p3 : Int32) (r : (Int32 × MS)) (h : F_X9_meets n s p1 p2 p3 = some r) : RW m_X9_meets 6 0 0 D cA [.ref (am 0), .int p1, .int p2, .int p3] (mW cA am s) (exq (some (.int r.1)) (mW cA am r.2)) := by
  refine RW.ofW gy_X9_meets.2.2 (Nat.le_of_ble_eq_true rfl) ?_
  intro l p e sM m below meth c A H locs F hr hlk hnm hK hP hD hS hA hAb ls hl
  have hl : lv_has ls 5 [(0, .ref (am 0)), (1, .int p1), (2, .int p2), (3, .int p3)] := hl
  unfold F_X9_meets at h
  refine lv_iload_n F.1 F.2.1 (dd D_X9_meets 0 rfl) rfl (lv_at hl 1 rfl) ?_
  refine lv_i2l (v := (Int32.toInt64 p1)) F.1 F.2.1 (dd D_X9_meets 1 rfl) rfl ?_
  refine lv_lconst (v := (0 : Int64)) F.1 F.2.1 (dd D_X9_meets 2 rfl) kl_0 ?_
  refine lv_aload_n F.1 F.2.1 (dd D_X9_meets 3 rfl) rfl (lv_at hl 0 rfl) ?_
  refine getF F hK hP lf_X9_127 (0) (mp_0 cA am s) rfl (dd D_X9_meets 4 rfl) ?_
  refine lv_iconst (v := (1 : Int32)) F.1 F.2.1 (dd D_X9_meets 5 rfl) ki_1 ?_
  refine lv_isub F.1 F.2.1 (dd D_X9_meets 6 rfl) ?_
  refine lv_i2l (v := (Int32.toInt64 ((m_stones s) - (1 : Int32)))) F.1 F.2.1 (dd D_X9_meets 7 rfl) rfl ?_
  refine ro_go (st' := [.int (bI (F_X9_in (Int32.toInt64 p1) (0 : Int64) (Int32.toInt64 ((m_stones s) - (1 : Int32)))))]) (rS (rest := []) F (c_X9_in D cA (Int32.toInt64 p1) (0 : Int64) (Int32.toInt64 ((m_stones s) - (1 : Int32))) l) lk_X9_63 (Nat.le_of_ble_eq_true rfl) (preRO hK hS hAb (emP)) rfl hl rfl (Nat.le_of_ble_eq_true rfl) (dd D_X9_meets 8 rfl) ⟨Nat.le_of_ble_eq_true rfl, Nat.le_of_ble_eq_true rfl⟩) rfl ?_
  refine x_bif_eq (tgt := 31) F.1 F.2.1 (dd D_X9_meets 9 rfl) rfl h (fun c20 h => ?_) (fun c20 h => ?_)
  · refine lv_aload_n F.1 F.2.1 (dd D_X9_meets 17 rfl) rfl (lv_at hl 0 rfl) ?_
    refine lv_bipush (v := (-2 : Int32)) F.1 F.2.1 (dd D_X9_meets 18 rfl) kb_m2 ?_
    obtain ⟨r1, e2, h⟩ := Option.bind_eq_some_iff.mp h
    refine rwe_all (st' := [.int r1.1]) hD hS hA (rV (rest := []) F (c_X9_refuse D cA am s n (-2 : Int32) r1 e2 l H.size) lk_X9_79 (Nat.le_of_ble_eq_true rfl) (preRW hK hS hAb hP hD) (rcv_9 hK hP (q0 := (0)) (mp_0 cA am s)) rfl hl rfl (Nat.le_of_ble_eq_true rfl) (dd D_X9_meets 19 rfl) ⟨Nat.le_of_ble_eq_true rfl, Nat.le_of_ble_eq_true rfl⟩) rfl (fun H locs hP hD hS => ?_)
    obtain rfl := Option.some.inj h
    exact rw_i (R := rmOf 6 0 0) F hP hD hS hr hlk ⟨Nat.le_of_ble_eq_true rfl, Nat.le_of_ble_eq_true rfl⟩ ⟨rfl, rfl⟩ (dd D_X9_meets 20 rfl)
  · refine lv_iload_n F.1 F.2.1 (dd D_X9_meets 10 rfl) rfl (lv_at hl 2 rfl) ?_
    refine lv_i2l (v := (Int32.toInt64 p2)) F.1 F.2.1 (dd D_X9_meets 11 rfl) rfl ?_
    refine ro_go (st' := [.int (bI (F_X9_isDay (Int32.toInt64 p2)))]) (rS (rest := []) F (c_X9_isDay D cA (Int32.toInt64 p2) l) lk_X9_67 (Nat.le_of_ble_eq_true rfl) (preRO hK hS hAb (emP)) rfl hl rfl (Nat.le_of_ble_eq_true rfl) (dd D_X9_meets 12 rfl) ⟨Nat.le_of_ble_eq_true rfl, Nat.le_of_ble_eq_true rfl⟩) rfl ?_
    refine x_bif_eq (tgt := 31) F.1 F.2.1 (dd D_X9_meets 13 rfl) rfl h (fun c19 h => ?_) (fun c19 h => ?_)
    · refine lv_aload_n F.1 F.2.1 (dd D_X9_meets 17 rfl) rfl (lv_at hl 0 rfl) ?_
      refine lv_bipush (v := (-2 : Int32)) F.1 F.2.1 (dd D_X9_meets 18 rfl) kb_m2 ?_
      obtain ⟨r3, e4, h⟩ := Option.bind_eq_some_iff.mp h
      refine rwe_all (st' := [.int r3.1]) hD hS hA (rV (rest := []) F (c_X9_refuse D cA am s n (-2 : Int32) r3 e4 l H.size) lk_X9_79 (Nat.le_of_ble_eq_true rfl) (preRW hK hS hAb hP hD) (rcv_9 hK hP (q0 := (0)) (mp_0 cA am s)) rfl hl rfl (Nat.le_of_ble_eq_true rfl) (dd D_X9_meets 19 rfl) ⟨Nat.le_of_ble_eq_true rfl, Nat.le_of_ble_eq_true rfl⟩) rfl (fun H locs hP hD hS => ?_)
      obtain rfl := Option.some.inj h
      exact rw_i (R := rmOf 6 0 0) F hP hD hS hr hlk ⟨Nat.le_of_ble_eq_true rfl, Nat.le_of_ble_eq_true rfl⟩ ⟨rfl, rfl⟩ (dd D_X9_meets 20 rfl)
    · refine lv_iload_n F.1 F.2.1 (dd D_X9_meets 14 rfl) rfl (lv_at hl 3 rfl) ?_
      refine ro_go (st' := [.int (bI (F_X9_isNear p3))]) (rS (rest := []) F (c_X9_isNear D cA p3 l) lk_X9_320 (Nat.le_of_ble_eq_true rfl) (preRO hK hS hAb (emP)) rfl hl rfl (Nat.le_of_ble_eq_true rfl) (dd D_X9_meets 15 rfl) ⟨Nat.le_of_ble_eq_true rfl, Nat.le_of_ble_eq_true rfl⟩) rfl ?_
      refine x_bif_ne (tgt := 38) F.1 F.2.1 (dd D_X9_meets 16 rfl) rfl h (fun c18 h => ?_) (fun c18 h => ?_)
      · refine lv_iload_n F.1 F.2.1 (dd D_X9_meets 21 rfl) rfl (lv_at hl 2 rfl) ?_
        refine lv_istore (lv' := [(4, .int p2), (0, .ref (am 0)), (1, .int p1), (2, .int p2), (3, .int p3)]) F.1 F.2.1 (dd D_X9_meets 22 rfl) hl (Nat.le_of_ble_eq_true rfl) rfl (fun ls hl => ?_)
        have L10 : ∀ (kf : Nat) (w4_L10 : Int32) (H : Heap) (locs : List Loc) (ls : Array Slot), va_P D vwCl (mW cA am s) H → va_D A (mW cA am s) → va_S A sM.heap H locs → lv_has ls 5 [(0, .ref (am 0)), (1, .int p1), (2, .int p2), (3, .int p3), (4, .int w4_L10)] → F_X9_meets_L41 n s p1 p2 p3 kf w4_L10 = some r → Wrw 6 0 0 D A (exq (some (.int r.1)) (mW cA am r.2)) p l e sM m ([.ref (am 0), .int p1, .int p2, .int p3] : List Value).toArray below meth c H locs 0 0 41 ls [] := by
          intro kf
          induction kf with
          | zero =>
            intro w4_L10 H locs ls hP hD hS hl h
            cases (show none = some r from h)
          | succ k_L10 ih_L10 =>
            intro w4_L10 H locs ls hP hD hS hl h
            unfold F_X9_meets_L41 at h
            refine lv_iload F.1 F.2.1 (dd D_X9_meets 23 rfl) (lv_at hl 4 rfl) ?_
            refine lv_iload_n F.1 F.2.1 (dd D_X9_meets 24 rfl) rfl (lv_at hl 2 rfl) ?_
            refine lv_sipush (v := (1000 : Int32)) F.1 F.2.1 (dd D_X9_meets 25 rfl) ks_1000 ?_
            refine ro_go (st' := [.int (F_X9_lastOf p2 (1000 : Int32)), .int w4_L10]) (rS (rest := [.int w4_L10]) F (c_X9_lastOf D cA p2 (1000 : Int32) l) lk_X9_273 (Nat.le_of_ble_eq_true rfl) (preRO hK hS hAb (emP)) rfl hl rfl (Nat.le_of_ble_eq_true rfl) (dd D_X9_meets 26 rfl) ⟨Nat.le_of_ble_eq_true rfl, Nat.le_of_ble_eq_true rfl⟩) rfl ?_
            refine x_icmp_gt (tgt := 79) F.1 F.2.1 (dd D_X9_meets 27 rfl) rfl h (fun c11 h => ?_) (fun c11 h => ?_)
            · refine lv_iconst (v := (-1 : Int32)) F.1 F.2.1 (dd D_X9_meets 42 rfl) ki_m1 ?_
              obtain rfl := Option.some.inj h
              exact rw_i (R := rmOf 6 0 0) F hP hD hS hr hlk ⟨Nat.le_of_ble_eq_true rfl, Nat.le_of_ble_eq_true rfl⟩ ⟨rfl, rfl⟩ (dd D_X9_meets 43 rfl)
            · refine lv_aload_n F.1 F.2.1 (dd D_X9_meets 28 rfl) rfl (lv_at hl 0 rfl) ?_
              refine lv_aload_n F.1 F.2.1 (dd D_X9_meets 29 rfl) rfl (lv_at hl 0 rfl) ?_
              refine getF F hK hP lf_X9_48 (0) (mp_0 cA am s) rfl (dd D_X9_meets 30 rfl) ?_
              refine lv_iload_n F.1 F.2.1 (dd D_X9_meets 31 rfl) rfl (lv_at hl 1 rfl) ?_
              refine aldI F hK hP (28) (mp_28 cA am s) h (dd D_X9_meets 32 rfl) (fun z12 h => ?_)
              refine lv_iload F.1 F.2.1 (dd D_X9_meets 33 rfl) (lv_at hl 4 rfl) ?_
              refine lv_iconst (v := (1 : Int32)) F.1 F.2.1 (dd D_X9_meets 34 rfl) ki_1 ?_
              refine lv_iload_n F.1 F.2.1 (dd D_X9_meets 35 rfl) rfl (lv_at hl 3 rfl) ?_
              obtain ⟨r13, e14, h⟩ := Option.bind_eq_some_iff.mp h
              refine ro_go (st' := [.int (bI r13)]) (rV (rest := []) F (c_X9_isHit D cA am s n ((m_stone s) (Int32.toNatClampNeg p1)) w4_L10 (1 : Int32) p3 r13 e14 l) lk_X9_323 (Nat.le_of_ble_eq_true rfl) (preRO hK hS hAb hP) (rcv_9 hK hP (q0 := (0)) (mp_0 cA am s)) rfl hl rfl (Nat.le_of_ble_eq_true rfl) (dd D_X9_meets 36 rfl) ⟨Nat.le_of_ble_eq_true rfl, Nat.le_of_ble_eq_true rfl⟩) rfl ?_
              refine x_bif_eq (tgt := 73) F.1 F.2.1 (dd D_X9_meets 37 rfl) rfl h (fun c15 h => ?_) (fun c15 h => ?_)
              · refine lv_iinc (v := (w4_L10 + (1 : Int32))) (lv' := [(4, .int (w4_L10 + (1 : Int32))), (0, .ref (am 0)), (1, .int p1), (2, .int p2), (3, .int p3)]) F.1 F.2.1 (dd D_X9_meets 40 rfl) hl (k := 4) rfl (congrArg (fun z => w4_L10 + z) ki_1) (Nat.le_of_ble_eq_true rfl) rfl (fun ls hl => ?_)
                refine lv_goto (tgt := 41) F.1 F.2.1 (dd D_X9_meets 41 rfl) rfl ?_
                exact ih_L10 (w4_L10 + (1 : Int32)) _ _ ls hP hD hS (lv_sub hl [1, 2, 3, 4, 0] rfl) h
              · refine lv_iload F.1 F.2.1 (dd D_X9_meets 38 rfl) (lv_at hl 4 rfl) ?_
                obtain rfl := Option.some.inj h
                exact rw_i (R := rmOf 6 0 0) F hP hD hS hr hlk ⟨Nat.le_of_ble_eq_true rfl, Nat.le_of_ble_eq_true rfl⟩ ⟨rfl, rfl⟩ (dd D_X9_meets 39 rfl)
        exact L10 n p2 _ _ ls hP hD hS (lv_sub hl [1, 2, 3, 4, 0] rfl) h
      · refine lv_aload_n F.1 F.2.1 (dd D_X9_meets 17 rfl) rfl (lv_at hl 0 rfl) ?_
        refine lv_bipush (v := (-2 : Int32)) F.1 F.2.1 (dd D_X9_meets 18 rfl) kb_m2 ?_
        obtain ⟨r16, e17, h⟩ := Option.bind_eq_some_iff.mp h
        refine rwe_all (st' := [.int r16.1]) hD hS hA (rV (rest := []) F (c_X9_refuse D cA am s n (-2 : Int32) r16 e17 l H.size) lk_X9_79 (Nat.le_of_ble_eq_true rfl) (preRW hK hS hAb hP hD) (rcv_9 hK hP (q0 := (0)) (mp_0 cA am s)) rfl hl rfl (Nat.le_of_ble_eq_true rfl) (dd D_X9_meets 19 rfl) ⟨Nat.le_of_ble_eq_true rfl, Nat.le_of_ble_eq_true rfl⟩) rfl (fun H locs hP hD hS => ?_)
        obtain rfl := Option.some.inj h
        exact rw_i (R := rmOf 6 0 0) F hP hD hS hr hlk ⟨Nat.le_of_ble_eq_true rfl, Nat.le_of_ble_eq_true rfl⟩ ⟨rfl, rfl⟩ (dd D_X9_meets 20 rfl)
def F_X9_place_L99 (n : Nat) (K : Int32 → Int32 → Int32 → Option (Int32 × MS)) (u0 : MS) (u1 : (Nat → Int32)) (v1 : Int32) (v2 : Int32) (v3 : Int32) (v5 : Int32) (v6 : Int32) (v7 : Int32) (v8 : Int32) : Nat → Int32 → Int32 → Option (Int32 × MS)
  | 0, _, _ => none
  | kf + 1, w9, w10 => (if v5 ≤ w10 then (if w9 ≤ v7 then K v6 v7 (v8 + (1 : Int32)) else K v8 w9 (v8 + (1 : Int32))) else gd (inb w10 40) (bf (F_X9_in (Int32.toInt64 (u1 (Int32.toNatClampNeg w10))) (Int32.toInt64 (v8 - v3)) (Int32.toInt64 (v8 + v3))) (F_X9_place_L99 n K u0 u1 v1 v2 v3 v5 v6 v7 v8 kf (w9 + (1 : Int32)) (w10 + (1 : Int32))) (F_X9_place_L99 n K u0 u1 v1 v2 v3 v5 v6 v7 v8 kf (w9 + (0 : Int32)) (w10 + (1 : Int32)))))
def F_X9_place_L85 (n : Nat) (K : Int32 → Int32 → MS → (Nat → Int32) → Option (Int32 × MS)) (u0 : MS) (u1 : (Nat → Int32)) (v1 : Int32) (v2 : Int32) (v3 : Int32) (v5 : Int32) : Nat → Int32 → Int32 → Int32 → Option (Int32 × MS)
  | 0, _, _, _ => none
  | kf + 1, w6, w7, w8 => (if (180 : Int32) ≤ w8 then some (w6, u0) else F_X9_place_L99 n (F_X9_place_L85 n K u0 u1 v1 v2 v3 v5 kf) u0 u1 v1 v2 v3 v5 w6 w7 w8 n (0 : Int32) (0 : Int32))
def F_X9_place_L46 (n : Nat) (v1 : Int32) (v2 : Int32) (v3 : Int32) : Nat → Int32 → Int32 → MS → (Nat → Int32) → Option (Int32 × MS)
  | 0, _, _, _, _ => none
  | kf + 1, w5, w6, u0, u1 => (if (F_X9_lastOf v1 v2) < w6 then F_X9_place_L85 n (F_X9_place_L46 n v1 v2 v3 kf) u0 u1 v1 v2 v3 w5 n (0 : Int32) (-1 : Int32) (0 : Int32) else (((F_X9_degreeUp n u0 w6)).bind fun r12 => gd (inb w5 40) (F_X9_place_L46 n v1 v2 v3 kf (w5 + (1 : Int32)) (w6 + (1 : Int32)) u0 (upd u1 (Int32.toNatClampNeg w5) r12))))
def F_X9_place (n : Nat) (s : MS) (p1 : Int32) (p2 : Int32) (p3 : Int32) : Option (Int32 × MS) := bf (F_X9_isDay (Int32.toInt64 p1)) (bf (F_X9_in (Int32.toInt64 p2) (1 : Int64) (40 : Int64)) (bf (F_X9_isNear p3) (F_X9_place_L46 n p1 p2 p3 n (0 : Int32) p1 s (fun _ => 0)) ((((F_X9_refuse n s (-2 : Int32))).bind fun r27 => some (r27.1, r27.2)))) ((((F_X9_refuse n s (-2 : Int32))).bind fun r3 => some (r3.1, r3.2)))) ((((F_X9_refuse n s (-2 : Int32))).bind fun r1 => some (r1.1, r1.2)))
set_option maxHeartbeats 4000000 in
set_option maxRecDepth 100000 in
theorem c_X9_place (D : va_G) (cA : Nat → ClassId) (am : Nat → Nat) (s : MS) (n : Nat) (p1 : Int32) (p2 : Int32) (p3 : Int32) (r : (Int32 × MS)) (h : F_X9_place n s p1 p2 p3 = some r) : RW m_X9_place 5 1 40 D cA [.ref (am 0), .int p1, .int p2, .int p3] (mW cA am s) (exq (some (.int r.1)) (mW cA am r.2)) := by
  refine RW.ofW gy_X9_place.2.2 (Nat.le_of_ble_eq_true rfl) ?_
  intro l p e sM m below meth c A H locs F hr hlk hnm hK hP hD hS hA hAb ls hl
  have hl : lv_has ls 11 [(0, .ref (am 0)), (1, .int p1), (2, .int p2), (3, .int p3)] := hl
  unfold F_X9_place at h
  refine lv_iload_n F.1 F.2.1 (dd D_X9_place 0 rfl) rfl (lv_at hl 1 rfl) ?_
  refine lv_i2l (v := (Int32.toInt64 p1)) F.1 F.2.1 (dd D_X9_place 1 rfl) rfl ?_
  refine ro_go (st' := [.int (bI (F_X9_isDay (Int32.toInt64 p1)))]) (rS (rest := []) F (c_X9_isDay D cA (Int32.toInt64 p1) l) lk_X9_67 (Nat.le_of_ble_eq_true rfl) (preRO hK hS hAb (emP)) rfl hl rfl (Nat.le_of_ble_eq_true rfl) (dd D_X9_place 2 rfl) ⟨Nat.le_of_ble_eq_true rfl, Nat.le_of_ble_eq_true rfl⟩) rfl ?_
  refine x_bif_eq (tgt := 27) F.1 F.2.1 (dd D_X9_place 3 rfl) rfl h (fun c31 h => ?_) (fun c31 h => ?_)
  · refine lv_aload_n F.1 F.2.1 (dd D_X9_place 13 rfl) rfl (lv_at hl 0 rfl) ?_
    refine lv_bipush (v := (-2 : Int32)) F.1 F.2.1 (dd D_X9_place 14 rfl) kb_m2 ?_
    obtain ⟨r1, e2, h⟩ := Option.bind_eq_some_iff.mp h
    refine rwe_all (st' := [.int r1.1]) hD hS hA (rV (rest := []) F (c_X9_refuse D cA am s n (-2 : Int32) r1 e2 l H.size) lk_X9_79 (Nat.le_of_ble_eq_true rfl) (preRW hK hS hAb hP hD) (rcv_9 hK hP (q0 := (0)) (mp_0 cA am s)) rfl hl rfl (Nat.le_of_ble_eq_true rfl) (dd D_X9_place 15 rfl) ⟨Nat.le_of_ble_eq_true rfl, Nat.le_of_ble_eq_true rfl⟩) rfl (fun H locs hP hD hS => ?_)
    obtain rfl := Option.some.inj h
    exact rw_i (R := rmOf 5 1 40) F hP hD hS hr hlk ⟨Nat.le_of_ble_eq_true rfl, Nat.le_of_ble_eq_true rfl⟩ ⟨rfl, rfl⟩ (dd D_X9_place 16 rfl)
  · refine lv_iload_n F.1 F.2.1 (dd D_X9_place 4 rfl) rfl (lv_at hl 2 rfl) ?_
    refine lv_i2l (v := (Int32.toInt64 p2)) F.1 F.2.1 (dd D_X9_place 5 rfl) rfl ?_
    refine lv_lconst (v := (1 : Int64)) F.1 F.2.1 (dd D_X9_place 6 rfl) kl_1 ?_
    refine lv_ldc2 (own := RX9) (v := (40 : Int64)) F.1 F.2.1 F.2.2.2.1 (F.2.2.2.2 _ (kL_X9_77)) (dd D_X9_place 7 rfl) ?_
    refine ro_go (st' := [.int (bI (F_X9_in (Int32.toInt64 p2) (1 : Int64) (40 : Int64)))]) (rS (rest := []) F (c_X9_in D cA (Int32.toInt64 p2) (1 : Int64) (40 : Int64) l) lk_X9_63 (Nat.le_of_ble_eq_true rfl) (preRO hK hS hAb (emP)) rfl hl rfl (Nat.le_of_ble_eq_true rfl) (dd D_X9_place 8 rfl) ⟨Nat.le_of_ble_eq_true rfl, Nat.le_of_ble_eq_true rfl⟩) rfl ?_
    refine x_bif_eq (tgt := 27) F.1 F.2.1 (dd D_X9_place 9 rfl) rfl h (fun c30 h => ?_) (fun c30 h => ?_)
    · refine lv_aload_n F.1 F.2.1 (dd D_X9_place 13 rfl) rfl (lv_at hl 0 rfl) ?_
      refine lv_bipush (v := (-2 : Int32)) F.1 F.2.1 (dd D_X9_place 14 rfl) kb_m2 ?_
      obtain ⟨r3, e4, h⟩ := Option.bind_eq_some_iff.mp h
      refine rwe_all (st' := [.int r3.1]) hD hS hA (rV (rest := []) F (c_X9_refuse D cA am s n (-2 : Int32) r3 e4 l H.size) lk_X9_79 (Nat.le_of_ble_eq_true rfl) (preRW hK hS hAb hP hD) (rcv_9 hK hP (q0 := (0)) (mp_0 cA am s)) rfl hl rfl (Nat.le_of_ble_eq_true rfl) (dd D_X9_place 15 rfl) ⟨Nat.le_of_ble_eq_true rfl, Nat.le_of_ble_eq_true rfl⟩) rfl (fun H locs hP hD hS => ?_)
      obtain rfl := Option.some.inj h
      exact rw_i (R := rmOf 5 1 40) F hP hD hS hr hlk ⟨Nat.le_of_ble_eq_true rfl, Nat.le_of_ble_eq_true rfl⟩ ⟨rfl, rfl⟩ (dd D_X9_place 16 rfl)
    · refine lv_iload_n F.1 F.2.1 (dd D_X9_place 10 rfl) rfl (lv_at hl 3 rfl) ?_
      refine ro_go (st' := [.int (bI (F_X9_isNear p3))]) (rS (rest := []) F (c_X9_isNear D cA p3 l) lk_X9_320 (Nat.le_of_ble_eq_true rfl) (preRO hK hS hAb (emP)) rfl hl rfl (Nat.le_of_ble_eq_true rfl) (dd D_X9_place 11 rfl) ⟨Nat.le_of_ble_eq_true rfl, Nat.le_of_ble_eq_true rfl⟩) rfl ?_
      refine x_bif_ne (tgt := 34) F.1 F.2.1 (dd D_X9_place 12 rfl) rfl h (fun c29 h => ?_) (fun c29 h => ?_)
      · refine lv_bipush (v := (40 : Int32)) F.1 F.2.1 (dd D_X9_place 17 rfl) kb_40 ?_
        refine newA (t0 := 0) (ty := .int) F hK hP hD hS hA aC_int rfl rfl ra_int (vc_int _) knn_40.1 knn_40.2 (Nat.le_of_ble_eq_true rfl) (Nat.le_of_ble_eq_true rfl) (Nat.le_of_ble_eq_true rfl) (dd D_X9_place 18 rfl) (fun q5 H hP hD hS => ?_)
        refine lv_astore (lv' := [(4, .ref (q5)), (0, .ref (am 0)), (1, .int p1), (2, .int p2), (3, .int p3)]) F.1 F.2.1 (dd D_X9_place 19 rfl) hl (Nat.le_of_ble_eq_true rfl) rfl (fun ls hl => ?_)
        refine lv_iconst (v := (0 : Int32)) F.1 F.2.1 (dd D_X9_place 20 rfl) ki_0 ?_
        refine lv_istore (lv' := [(5, .int (0 : Int32)), (4, .ref (q5)), (0, .ref (am 0)), (1, .int p1), (2, .int p2), (3, .int p3)]) F.1 F.2.1 (dd D_X9_place 21 rfl) hl (Nat.le_of_ble_eq_true rfl) rfl (fun ls hl => ?_)
        refine lv_iload_n F.1 F.2.1 (dd D_X9_place 22 rfl) rfl (lv_at hl 3 rfl) ?_
        refine lv_istore (lv' := [(6, .int p1), (5, .int (0 : Int32)), (4, .ref (q5)), (0, .ref (am 0)), (1, .int p1), (2, .int p2), (3, .int p3)]) F.1 F.2.1 (dd D_X9_place 23 rfl) hl (Nat.le_of_ble_eq_true rfl) rfl (fun ls hl => ?_)
        have L15 : ∀ (kf : Nat) (w5_L15 : Int32) (w6_L15 : Int32) (u0_L15 : MS) (u1_L15 : (Nat → Int32)) (H : Heap) (locs : List Loc) (ls : Array Slot), va_P D vwCl ((mW cA am u0_L15) ++ [(q5, .inl (cA 0, 40, .inl u1_L15))]) H → va_D A ((mW cA am u0_L15) ++ [(q5, .inl (cA 0, 40, .inl u1_L15))]) → va_S A sM.heap H locs → lv_has ls 11 [(0, .ref (am 0)), (1, .int p1), (2, .int p2), (3, .int p3), (4, .ref (q5)), (5, .int w5_L15), (6, .int w6_L15)] → F_X9_place_L46 n p1 p2 p3 kf w5_L15 w6_L15 u0_L15 u1_L15 = some r → Wrw 5 1 40 D A (exq (some (.int r.1)) (mW cA am r.2)) p l e sM m ([.ref (am 0), .int p1, .int p2, .int p3] : List Value).toArray below meth c H locs 1 40 46 ls [] := by
          intro kf
          induction kf with
          | zero =>
            intro w5_L15 w6_L15 u0_L15 u1_L15 H locs ls hP hD hS hl h
            cases (show none = some r from h)
          | succ k_L15 ih_L15 =>
            intro w5_L15 w6_L15 u0_L15 u1_L15 H locs ls hP hD hS hl h
            unfold F_X9_place_L46 at h
            refine lv_iload F.1 F.2.1 (dd D_X9_place 24 rfl) (lv_at hl 6 rfl) ?_
            refine lv_iload_n F.1 F.2.1 (dd D_X9_place 25 rfl) rfl (lv_at hl 1 rfl) ?_
            refine lv_iload_n F.1 F.2.1 (dd D_X9_place 26 rfl) rfl (lv_at hl 2 rfl) ?_
            refine ro_go (st' := [.int (F_X9_lastOf p1 p2), .int w6_L15]) (rS (rest := [.int w6_L15]) F (c_X9_lastOf D cA p1 p2 l) lk_X9_273 (Nat.le_of_ble_eq_true rfl) (preRO hK hS hAb (emP)) rfl hl rfl (Nat.le_of_ble_eq_true rfl) (dd D_X9_place 27 rfl) ⟨Nat.le_of_ble_eq_true rfl, Nat.le_of_ble_eq_true rfl⟩) rfl ?_
            refine x_icmp_gt (tgt := 76) F.1 F.2.1 (dd D_X9_place 28 rfl) rfl h (fun c16 h => ?_) (fun c16 h => ?_)
            · refine lv_iconst (v := (0 : Int32)) F.1 F.2.1 (dd D_X9_place 38 rfl) ki_0 ?_
              refine lv_istore (lv' := [(6, .int (0 : Int32)), (0, .ref (am 0)), (1, .int p1), (2, .int p2), (3, .int p3), (4, .ref (q5)), (5, .int w5_L15)]) F.1 F.2.1 (dd D_X9_place 39 rfl) hl (Nat.le_of_ble_eq_true rfl) rfl (fun ls hl => ?_)
              refine lv_iconst (v := (-1 : Int32)) F.1 F.2.1 (dd D_X9_place 40 rfl) ki_m1 ?_
              refine lv_istore (lv' := [(7, .int (-1 : Int32)), (6, .int (0 : Int32)), (0, .ref (am 0)), (1, .int p1), (2, .int p2), (3, .int p3), (4, .ref (q5)), (5, .int w5_L15)]) F.1 F.2.1 (dd D_X9_place 41 rfl) hl (Nat.le_of_ble_eq_true rfl) rfl (fun ls hl => ?_)
              refine lv_iconst (v := (0 : Int32)) F.1 F.2.1 (dd D_X9_place 42 rfl) ki_0 ?_
              refine lv_istore (lv' := [(8, .int (0 : Int32)), (7, .int (-1 : Int32)), (6, .int (0 : Int32)), (0, .ref (am 0)), (1, .int p1), (2, .int p2), (3, .int p3), (4, .ref (q5)), (5, .int w5_L15)]) F.1 F.2.1 (dd D_X9_place 43 rfl) hl (Nat.le_of_ble_eq_true rfl) rfl (fun ls hl => ?_)
              have L17 : ∀ (kf : Nat) (w6_L17 : Int32) (w7_L17 : Int32) (w8_L17 : Int32) (H : Heap) (locs : List Loc) (ls : Array Slot), va_P D vwCl ((mW cA am u0_L15) ++ [(q5, .inl (cA 0, 40, .inl u1_L15))]) H → va_D A ((mW cA am u0_L15) ++ [(q5, .inl (cA 0, 40, .inl u1_L15))]) → va_S A sM.heap H locs → lv_has ls 11 [(0, .ref (am 0)), (1, .int p1), (2, .int p2), (3, .int p3), (4, .ref (q5)), (5, .int w5_L15), (6, .int w6_L17), (7, .int w7_L17), (8, .int w8_L17)] → F_X9_place_L85 n (F_X9_place_L46 n p1 p2 p3 k_L15) u0_L15 u1_L15 p1 p2 p3 w5_L15 kf w6_L17 w7_L17 w8_L17 = some r → Wrw 5 1 40 D A (exq (some (.int r.1)) (mW cA am r.2)) p l e sM m ([.ref (am 0), .int p1, .int p2, .int p3] : List Value).toArray below meth c H locs 1 40 85 ls [] := by
                intro kf
                induction kf with
                | zero =>
                  intro w6_L17 w7_L17 w8_L17 H locs ls hP hD hS hl h
                  cases (show none = some r from h)
                | succ k_L17 ih_L17 =>
                  intro w6_L17 w7_L17 w8_L17 H locs ls hP hD hS hl h
                  unfold F_X9_place_L85 at h
                  refine lv_iload F.1 F.2.1 (dd D_X9_place 44 rfl) (lv_at hl 8 rfl) ?_
                  refine lv_sipush (v := (180 : Int32)) F.1 F.2.1 (dd D_X9_place 45 rfl) ks_180 ?_
                  refine x_icmp_ge (tgt := 165) F.1 F.2.1 (dd D_X9_place 46 rfl) rfl h (fun c18 h => ?_) (fun c18 h => ?_)
                  · refine lv_iload F.1 F.2.1 (dd D_X9_place 85 rfl) (lv_at hl 6 rfl) ?_
                    have hP := preP hP
                    have hD := preD hD
                    obtain rfl := Option.some.inj h
                    exact rw_i (R := rmOf 5 1 40) F hP hD hS hr hlk ⟨Nat.le_of_ble_eq_true rfl, Nat.le_of_ble_eq_true rfl⟩ ⟨rfl, rfl⟩ (dd D_X9_place 86 rfl)
                  · refine lv_iconst (v := (0 : Int32)) F.1 F.2.1 (dd D_X9_place 47 rfl) ki_0 ?_
                    refine lv_istore (lv' := [(9, .int (0 : Int32)), (0, .ref (am 0)), (1, .int p1), (2, .int p2), (3, .int p3), (4, .ref (q5)), (5, .int w5_L15), (6, .int w6_L17), (7, .int w7_L17), (8, .int w8_L17)]) F.1 F.2.1 (dd D_X9_place 48 rfl) hl (Nat.le_of_ble_eq_true rfl) rfl (fun ls hl => ?_)
                    refine lv_iconst (v := (0 : Int32)) F.1 F.2.1 (dd D_X9_place 49 rfl) ki_0 ?_
                    refine lv_istore (lv' := [(10, .int (0 : Int32)), (9, .int (0 : Int32)), (0, .ref (am 0)), (1, .int p1), (2, .int p2), (3, .int p3), (4, .ref (q5)), (5, .int w5_L15), (6, .int w6_L17), (7, .int w7_L17), (8, .int w8_L17)]) F.1 F.2.1 (dd D_X9_place 50 rfl) hl (Nat.le_of_ble_eq_true rfl) rfl (fun ls hl => ?_)
                    have L19 : ∀ (kf : Nat) (w9_L19 : Int32) (w10_L19 : Int32) (H : Heap) (locs : List Loc) (ls : Array Slot), va_P D vwCl ((mW cA am u0_L15) ++ [(q5, .inl (cA 0, 40, .inl u1_L15))]) H → va_D A ((mW cA am u0_L15) ++ [(q5, .inl (cA 0, 40, .inl u1_L15))]) → va_S A sM.heap H locs → lv_has ls 11 [(0, .ref (am 0)), (1, .int p1), (2, .int p2), (3, .int p3), (4, .ref (q5)), (5, .int w5_L15), (6, .int w6_L17), (7, .int w7_L17), (8, .int w8_L17), (9, .int w9_L19), (10, .int w10_L19)] → F_X9_place_L99 n (F_X9_place_L85 n (F_X9_place_L46 n p1 p2 p3 k_L15) u0_L15 u1_L15 p1 p2 p3 w5_L15 k_L17) u0_L15 u1_L15 p1 p2 p3 w5_L15 w6_L17 w7_L17 w8_L17 kf w9_L19 w10_L19 = some r → Wrw 5 1 40 D A (exq (some (.int r.1)) (mW cA am r.2)) p l e sM m ([.ref (am 0), .int p1, .int p2, .int p3] : List Value).toArray below meth c H locs 1 40 99 ls [] := by
                      intro kf
                      induction kf with
                      | zero =>
                        intro w9_L19 w10_L19 H locs ls hP hD hS hl h
                        cases (show none = some r from h)
                      | succ k_L19 ih_L19 =>
                        intro w9_L19 w10_L19 H locs ls hP hD hS hl h
                        unfold F_X9_place_L99 at h
                        refine lv_iload F.1 F.2.1 (dd D_X9_place 51 rfl) (lv_at hl 10 rfl) ?_
                        refine lv_iload F.1 F.2.1 (dd D_X9_place 52 rfl) (lv_at hl 5 rfl) ?_
                        refine x_icmp_ge (tgt := 144) F.1 F.2.1 (dd D_X9_place 53 rfl) rfl h (fun c20 h => ?_) (fun c20 h => ?_)
                        · refine lv_iload F.1 F.2.1 (dd D_X9_place 76 rfl) (lv_at hl 9 rfl) ?_
                          refine lv_iload F.1 F.2.1 (dd D_X9_place 77 rfl) (lv_at hl 7 rfl) ?_
                          refine x_icmp_le (tgt := 159) F.1 F.2.1 (dd D_X9_place 78 rfl) rfl h (fun c21 h => ?_) (fun c21 h => ?_)
                          · refine lv_iinc (v := (w8_L17 + (1 : Int32))) (lv' := [(8, .int (w8_L17 + (1 : Int32))), (0, .ref (am 0)), (1, .int p1), (2, .int p2), (3, .int p3), (4, .ref (q5)), (5, .int w5_L15), (6, .int w6_L17), (7, .int w7_L17), (9, .int w9_L19), (10, .int w10_L19)]) F.1 F.2.1 (dd D_X9_place 83 rfl) hl (k := 8) rfl (congrArg (fun z => w8_L17 + z) ki_1) (Nat.le_of_ble_eq_true rfl) rfl (fun ls hl => ?_)
                            refine lv_goto (tgt := 85) F.1 F.2.1 (dd D_X9_place 84 rfl) rfl ?_
                            exact ih_L17 w6_L17 w7_L17 (w8_L17 + (1 : Int32)) _ _ ls hP hD hS (lv_sub hl [1, 2, 3, 4, 5, 6, 7, 8, 0] rfl) h
                          · refine lv_iload F.1 F.2.1 (dd D_X9_place 79 rfl) (lv_at hl 8 rfl) ?_
                            refine lv_istore (lv' := [(6, .int w8_L17), (0, .ref (am 0)), (1, .int p1), (2, .int p2), (3, .int p3), (4, .ref (q5)), (5, .int w5_L15), (7, .int w7_L17), (8, .int w8_L17), (9, .int w9_L19), (10, .int w10_L19)]) F.1 F.2.1 (dd D_X9_place 80 rfl) hl (Nat.le_of_ble_eq_true rfl) rfl (fun ls hl => ?_)
                            refine lv_iload F.1 F.2.1 (dd D_X9_place 81 rfl) (lv_at hl 9 rfl) ?_
                            refine lv_istore (lv' := [(7, .int w9_L19), (6, .int w8_L17), (0, .ref (am 0)), (1, .int p1), (2, .int p2), (3, .int p3), (4, .ref (q5)), (5, .int w5_L15), (8, .int w8_L17), (9, .int w9_L19), (10, .int w10_L19)]) F.1 F.2.1 (dd D_X9_place 82 rfl) hl (Nat.le_of_ble_eq_true rfl) rfl (fun ls hl => ?_)
                            refine lv_iinc (v := (w8_L17 + (1 : Int32))) (lv' := [(8, .int (w8_L17 + (1 : Int32))), (7, .int w9_L19), (6, .int w8_L17), (0, .ref (am 0)), (1, .int p1), (2, .int p2), (3, .int p3), (4, .ref (q5)), (5, .int w5_L15), (9, .int w9_L19), (10, .int w10_L19)]) F.1 F.2.1 (dd D_X9_place 83 rfl) hl (k := 8) rfl (congrArg (fun z => w8_L17 + z) ki_1) (Nat.le_of_ble_eq_true rfl) rfl (fun ls hl => ?_)
                            refine lv_goto (tgt := 85) F.1 F.2.1 (dd D_X9_place 84 rfl) rfl ?_
                            exact ih_L17 w8_L17 w9_L19 (w8_L17 + (1 : Int32)) _ _ ls hP hD hS (lv_sub hl [3, 4, 5, 6, 7, 8, 2, 1, 0] rfl) h
                        · refine lv_iload F.1 F.2.1 (dd D_X9_place 54 rfl) (lv_at hl 9 rfl) ?_
                          refine lv_aload F.1 F.2.1 (dd D_X9_place 55 rfl) (lv_at hl 4 rfl) ?_
                          refine lv_iload F.1 F.2.1 (dd D_X9_place 56 rfl) (lv_at hl 10 rfl) ?_
                          refine aldI F hK hP (31+0) (gR (mp_len cA am u0_L15) rfl) h (dd D_X9_place 57 rfl) (fun z22 h => ?_)
                          refine lv_i2l (v := (Int32.toInt64 (u1_L15 (Int32.toNatClampNeg w10_L19)))) F.1 F.2.1 (dd D_X9_place 58 rfl) rfl ?_
                          refine lv_iload F.1 F.2.1 (dd D_X9_place 59 rfl) (lv_at hl 8 rfl) ?_
                          refine lv_iload_n F.1 F.2.1 (dd D_X9_place 60 rfl) rfl (lv_at hl 3 rfl) ?_
                          refine lv_isub F.1 F.2.1 (dd D_X9_place 61 rfl) ?_
                          refine lv_i2l (v := (Int32.toInt64 (w8_L17 - p3))) F.1 F.2.1 (dd D_X9_place 62 rfl) rfl ?_
                          refine lv_iload F.1 F.2.1 (dd D_X9_place 63 rfl) (lv_at hl 8 rfl) ?_
                          refine lv_iload_n F.1 F.2.1 (dd D_X9_place 64 rfl) rfl (lv_at hl 3 rfl) ?_
                          refine lv_iadd F.1 F.2.1 (dd D_X9_place 65 rfl) ?_
                          refine lv_i2l (v := (Int32.toInt64 (w8_L17 + p3))) F.1 F.2.1 (dd D_X9_place 66 rfl) rfl ?_
                          refine ro_go (st' := [.int (bI (F_X9_in (Int32.toInt64 (u1_L15 (Int32.toNatClampNeg w10_L19))) (Int32.toInt64 (w8_L17 - p3)) (Int32.toInt64 (w8_L17 + p3)))), .int w9_L19]) (rS (rest := [.int w9_L19]) F (c_X9_in D cA (Int32.toInt64 (u1_L15 (Int32.toNatClampNeg w10_L19))) (Int32.toInt64 (w8_L17 - p3)) (Int32.toInt64 (w8_L17 + p3)) l) lk_X9_63 (Nat.le_of_ble_eq_true rfl) (preRO hK hS hAb (emP)) rfl hl rfl (Nat.le_of_ble_eq_true rfl) (dd D_X9_place 67 rfl) ⟨Nat.le_of_ble_eq_true rfl, Nat.le_of_ble_eq_true rfl⟩) rfl ?_
                          refine x_bif_eq (tgt := 134) F.1 F.2.1 (dd D_X9_place 68 rfl) rfl h (fun c23 h => ?_) (fun c23 h => ?_)
                          · refine lv_iconst (v := (0 : Int32)) F.1 F.2.1 (dd D_X9_place 71 rfl) ki_0 ?_
                            refine lv_iadd F.1 F.2.1 (dd D_X9_place 72 rfl) ?_
                            refine lv_istore (lv' := [(9, .int (w9_L19 + (0 : Int32))), (0, .ref (am 0)), (1, .int p1), (2, .int p2), (3, .int p3), (4, .ref (q5)), (5, .int w5_L15), (6, .int w6_L17), (7, .int w7_L17), (8, .int w8_L17), (10, .int w10_L19)]) F.1 F.2.1 (dd D_X9_place 73 rfl) hl (Nat.le_of_ble_eq_true rfl) rfl (fun ls hl => ?_)
                            refine lv_iinc (v := (w10_L19 + (1 : Int32))) (lv' := [(10, .int (w10_L19 + (1 : Int32))), (9, .int (w9_L19 + (0 : Int32))), (0, .ref (am 0)), (1, .int p1), (2, .int p2), (3, .int p3), (4, .ref (q5)), (5, .int w5_L15), (6, .int w6_L17), (7, .int w7_L17), (8, .int w8_L17)]) F.1 F.2.1 (dd D_X9_place 74 rfl) hl (k := 10) rfl (congrArg (fun z => w10_L19 + z) ki_1) (Nat.le_of_ble_eq_true rfl) rfl (fun ls hl => ?_)
                            refine lv_goto (tgt := 99) F.1 F.2.1 (dd D_X9_place 75 rfl) rfl ?_
                            exact ih_L19 (w9_L19 + (0 : Int32)) (w10_L19 + (1 : Int32)) _ _ ls hP hD hS (lv_sub hl [2, 3, 4, 5, 6, 7, 8, 9, 10, 1, 0] rfl) h
                          · refine lv_iconst (v := (1 : Int32)) F.1 F.2.1 (dd D_X9_place 69 rfl) ki_1 ?_
                            refine lv_goto (tgt := 135) F.1 F.2.1 (dd D_X9_place 70 rfl) rfl ?_
                            refine lv_iadd F.1 F.2.1 (dd D_X9_place 72 rfl) ?_
                            refine lv_istore (lv' := [(9, .int (w9_L19 + (1 : Int32))), (0, .ref (am 0)), (1, .int p1), (2, .int p2), (3, .int p3), (4, .ref (q5)), (5, .int w5_L15), (6, .int w6_L17), (7, .int w7_L17), (8, .int w8_L17), (10, .int w10_L19)]) F.1 F.2.1 (dd D_X9_place 73 rfl) hl (Nat.le_of_ble_eq_true rfl) rfl (fun ls hl => ?_)
                            refine lv_iinc (v := (w10_L19 + (1 : Int32))) (lv' := [(10, .int (w10_L19 + (1 : Int32))), (9, .int (w9_L19 + (1 : Int32))), (0, .ref (am 0)), (1, .int p1), (2, .int p2), (3, .int p3), (4, .ref (q5)), (5, .int w5_L15), (6, .int w6_L17), (7, .int w7_L17), (8, .int w8_L17)]) F.1 F.2.1 (dd D_X9_place 74 rfl) hl (k := 10) rfl (congrArg (fun z => w10_L19 + z) ki_1) (Nat.le_of_ble_eq_true rfl) rfl (fun ls hl => ?_)
                            refine lv_goto (tgt := 99) F.1 F.2.1 (dd D_X9_place 75 rfl) rfl ?_
                            exact ih_L19 (w9_L19 + (1 : Int32)) (w10_L19 + (1 : Int32)) _ _ ls hP hD hS (lv_sub hl [2, 3, 4, 5, 6, 7, 8, 9, 10, 1, 0] rfl) h
                    exact L19 n (0 : Int32) (0 : Int32) _ _ ls hP hD hS (lv_sub hl [2, 3, 4, 5, 6, 7, 8, 9, 10, 1, 0] rfl) h
              exact L17 n (0 : Int32) (-1 : Int32) (0 : Int32) _ _ ls hP hD hS (lv_sub hl [3, 4, 5, 6, 7, 8, 2, 1, 0] rfl) h
            · refine lv_aload F.1 F.2.1 (dd D_X9_place 29 rfl) (lv_at hl 4 rfl) ?_
              refine lv_iload F.1 F.2.1 (dd D_X9_place 30 rfl) (lv_at hl 5 rfl) ?_
              refine lv_iinc (v := (w5_L15 + (1 : Int32))) (lv' := [(5, .int (w5_L15 + (1 : Int32))), (0, .ref (am 0)), (1, .int p1), (2, .int p2), (3, .int p3), (4, .ref (q5)), (6, .int w6_L15)]) F.1 F.2.1 (dd D_X9_place 31 rfl) hl (k := 5) rfl (congrArg (fun z => w5_L15 + z) ki_1) (Nat.le_of_ble_eq_true rfl) rfl (fun ls hl => ?_)
              refine lv_aload_n F.1 F.2.1 (dd D_X9_place 32 rfl) rfl (lv_at hl 1 rfl) ?_
              refine lv_iload F.1 F.2.1 (dd D_X9_place 33 rfl) (lv_at hl 6 rfl) ?_
              obtain ⟨r24, e25, h⟩ := Option.bind_eq_some_iff.mp h
              refine ro_go (st' := [.int r24, .int w5_L15, .ref (q5)]) (rV (rest := [.int w5_L15, .ref (q5)]) F (c_X9_degreeUp D cA am u0_L15 n w6_L15 r24 e25 l) lk_X9_256 (Nat.le_of_ble_eq_true rfl) (preRO hK hS hAb (preP hP)) (rcv_9 hK hP (q0 := (0)) (gL (mp_0 cA am u0_L15))) rfl hl rfl (Nat.le_of_ble_eq_true rfl) (dd D_X9_place 34 rfl) ⟨Nat.le_of_ble_eq_true rfl, Nat.le_of_ble_eq_true rfl⟩) rfl ?_
              refine astI F hK hP hD hS (31+0) (gR (mp_len cA am u0_L15) rfl) h (ws' := ((mW cA am u0_L15) ++ [(q5, .inl (cA 0, 40, .inl (upd u1_L15 (Int32.toNatClampNeg w5_L15) r24)))])) (sR (mp_len cA am u0_L15) rfl) (dd D_X9_place 35 rfl) (fun z26 h H locs hP hD hS => ?_)
              refine lv_iinc (v := (w6_L15 + (1 : Int32))) (lv' := [(6, .int (w6_L15 + (1 : Int32))), (5, .int (w5_L15 + (1 : Int32))), (0, .ref (am 0)), (1, .int p1), (2, .int p2), (3, .int p3), (4, .ref (q5))]) F.1 F.2.1 (dd D_X9_place 36 rfl) hl (k := 6) rfl (congrArg (fun z => w6_L15 + z) ki_1) (Nat.le_of_ble_eq_true rfl) rfl (fun ls hl => ?_)
              refine lv_goto (tgt := 46) F.1 F.2.1 (dd D_X9_place 37 rfl) rfl ?_
              exact ih_L15 (w5_L15 + (1 : Int32)) (w6_L15 + (1 : Int32)) u0_L15 (upd u1_L15 (Int32.toNatClampNeg w5_L15) r24) _ _ ls hP hD hS (lv_sub hl [2, 3, 4, 5, 6, 1, 0] rfl) h
        exact L15 n (0 : Int32) p1 s (fun _ => 0) _ _ ls hP hD hS (lv_sub hl [3, 4, 5, 6, 2, 1, 0] rfl) h
      · refine lv_aload_n F.1 F.2.1 (dd D_X9_place 13 rfl) rfl (lv_at hl 0 rfl) ?_
        refine lv_bipush (v := (-2 : Int32)) F.1 F.2.1 (dd D_X9_place 14 rfl) kb_m2 ?_
        obtain ⟨r27, e28, h⟩ := Option.bind_eq_some_iff.mp h
        refine rwe_all (st' := [.int r27.1]) hD hS hA (rV (rest := []) F (c_X9_refuse D cA am s n (-2 : Int32) r27 e28 l H.size) lk_X9_79 (Nat.le_of_ble_eq_true rfl) (preRW hK hS hAb hP hD) (rcv_9 hK hP (q0 := (0)) (mp_0 cA am s)) rfl hl rfl (Nat.le_of_ble_eq_true rfl) (dd D_X9_place 15 rfl) ⟨Nat.le_of_ble_eq_true rfl, Nat.le_of_ble_eq_true rfl⟩) rfl (fun H locs hP hD hS => ?_)
        obtain rfl := Option.some.inj h
        exact rw_i (R := rmOf 5 1 40) F hP hD hS hr hlk ⟨Nat.le_of_ble_eq_true rfl, Nat.le_of_ble_eq_true rfl⟩ ⟨rfl, rfl⟩ (dd D_X9_place 16 rfl)
def F_X9_told (n : Nat) (s : MS) (p1 : Int32) (p2 : Int32) : Option (Int32 × MS) := bf (F_X9_isDay (Int32.toInt64 p1)) (bf (F_X9_in (Int32.toInt64 p2) (0 : Int64) (2952 : Int64)) (gd (inb (0 : Int32) 4) (gd (inb (0 : Int32) 4) (some (((m_asked (m_set_asked s (upd (m_asked s) (Int32.toNatClampNeg (0 : Int32)) (F_X9_mod (p2 - ((100 : Int32) * p1)) (2953 : Int32))))) (Int32.toNatClampNeg (0 : Int32))), (m_set_asked s (upd (m_asked s) (Int32.toNatClampNeg (0 : Int32)) (F_X9_mod (p2 - ((100 : Int32) * p1)) (2953 : Int32)))))))) ((((F_X9_refuse n s (-2 : Int32))).bind fun r5 => some (r5.1, r5.2)))) ((((F_X9_refuse n s (-2 : Int32))).bind fun r1 => some (r1.1, r1.2)))
set_option maxHeartbeats 4000000 in
set_option maxRecDepth 100000 in
theorem c_X9_told (D : va_G) (cA : Nat → ClassId) (am : Nat → Nat) (s : MS) (n : Nat) (p1 : Int32) (p2 : Int32) (r : (Int32 × MS)) (h : F_X9_told n s p1 p2 = some r) : RW m_X9_told 2 0 0 D cA [.ref (am 0), .int p1, .int p2] (mW cA am s) (exq (some (.int r.1)) (mW cA am r.2)) := by
  refine RW.ofW gy_X9_told.2.2 (Nat.le_of_ble_eq_true rfl) ?_
  intro l p e sM m below meth c A H locs F hr hlk hnm hK hP hD hS hA hAb ls hl
  have hl : lv_has ls 3 [(0, .ref (am 0)), (1, .int p1), (2, .int p2)] := hl
  unfold F_X9_told at h
  refine lv_iload_n F.1 F.2.1 (dd D_X9_told 0 rfl) rfl (lv_at hl 1 rfl) ?_
  refine lv_i2l (v := (Int32.toInt64 p1)) F.1 F.2.1 (dd D_X9_told 1 rfl) rfl ?_
  refine ro_go (st' := [.int (bI (F_X9_isDay (Int32.toInt64 p1)))]) (rS (rest := []) F (c_X9_isDay D cA (Int32.toInt64 p1) l) lk_X9_67 (Nat.le_of_ble_eq_true rfl) (preRO hK hS hAb (emP)) rfl hl rfl (Nat.le_of_ble_eq_true rfl) (dd D_X9_told 2 rfl) ⟨Nat.le_of_ble_eq_true rfl, Nat.le_of_ble_eq_true rfl⟩) rfl ?_
  refine x_bif_eq (tgt := 20) F.1 F.2.1 (dd D_X9_told 3 rfl) rfl h (fun c8 h => ?_) (fun c8 h => ?_)
  · refine lv_aload_n F.1 F.2.1 (dd D_X9_told 10 rfl) rfl (lv_at hl 0 rfl) ?_
    refine lv_bipush (v := (-2 : Int32)) F.1 F.2.1 (dd D_X9_told 11 rfl) kb_m2 ?_
    obtain ⟨r1, e2, h⟩ := Option.bind_eq_some_iff.mp h
    refine rwe_all (st' := [.int r1.1]) hD hS hA (rV (rest := []) F (c_X9_refuse D cA am s n (-2 : Int32) r1 e2 l H.size) lk_X9_79 (Nat.le_of_ble_eq_true rfl) (preRW hK hS hAb hP hD) (rcv_9 hK hP (q0 := (0)) (mp_0 cA am s)) rfl hl rfl (Nat.le_of_ble_eq_true rfl) (dd D_X9_told 12 rfl) ⟨Nat.le_of_ble_eq_true rfl, Nat.le_of_ble_eq_true rfl⟩) rfl (fun H locs hP hD hS => ?_)
    obtain rfl := Option.some.inj h
    exact rw_i (R := rmOf 2 0 0) F hP hD hS hr hlk ⟨Nat.le_of_ble_eq_true rfl, Nat.le_of_ble_eq_true rfl⟩ ⟨rfl, rfl⟩ (dd D_X9_told 13 rfl)
  · refine lv_iload_n F.1 F.2.1 (dd D_X9_told 4 rfl) rfl (lv_at hl 2 rfl) ?_
    refine lv_i2l (v := (Int32.toInt64 p2)) F.1 F.2.1 (dd D_X9_told 5 rfl) rfl ?_
    refine lv_lconst (v := (0 : Int64)) F.1 F.2.1 (dd D_X9_told 6 rfl) kl_0 ?_
    refine lv_ldc2 (own := RX9) (v := (2952 : Int64)) F.1 F.2.1 F.2.2.2.1 (F.2.2.2.2 _ (kL_X9_330)) (dd D_X9_told 7 rfl) ?_
    refine ro_go (st' := [.int (bI (F_X9_in (Int32.toInt64 p2) (0 : Int64) (2952 : Int64)))]) (rS (rest := []) F (c_X9_in D cA (Int32.toInt64 p2) (0 : Int64) (2952 : Int64) l) lk_X9_63 (Nat.le_of_ble_eq_true rfl) (preRO hK hS hAb (emP)) rfl hl rfl (Nat.le_of_ble_eq_true rfl) (dd D_X9_told 8 rfl) ⟨Nat.le_of_ble_eq_true rfl, Nat.le_of_ble_eq_true rfl⟩) rfl ?_
    refine x_bif_ne (tgt := 27) F.1 F.2.1 (dd D_X9_told 9 rfl) rfl h (fun c7 h => ?_) (fun c7 h => ?_)
    · refine lv_aload_n F.1 F.2.1 (dd D_X9_told 14 rfl) rfl (lv_at hl 0 rfl) ?_
      refine getF F hK hP lf_X9_40 (0) (mp_0 cA am s) rfl (dd D_X9_told 15 rfl) ?_
      refine lv_iconst (v := (0 : Int32)) F.1 F.2.1 (dd D_X9_told 16 rfl) ki_0 ?_
      refine lv_iload_n F.1 F.2.1 (dd D_X9_told 17 rfl) rfl (lv_at hl 2 rfl) ?_
      refine lv_bipush (v := (100 : Int32)) F.1 F.2.1 (dd D_X9_told 18 rfl) kb_100 ?_
      refine lv_iload_n F.1 F.2.1 (dd D_X9_told 19 rfl) rfl (lv_at hl 1 rfl) ?_
      refine lv_imul F.1 F.2.1 (dd D_X9_told 20 rfl) ?_
      refine lv_isub F.1 F.2.1 (dd D_X9_told 21 rfl) ?_
      refine lv_sipush (v := (2953 : Int32)) F.1 F.2.1 (dd D_X9_told 22 rfl) ks_2953 ?_
      refine ro_go (st' := [.int (F_X9_mod (p2 - ((100 : Int32) * p1)) (2953 : Int32)), .int (0 : Int32), .ref (am 18)]) (rS (rest := [.int (0 : Int32), .ref (am 18)]) F (c_X9_mod D cA (p2 - ((100 : Int32) * p1)) (2953 : Int32) kd_2953 l) lk_X9_230 (Nat.le_of_ble_eq_true rfl) (preRO hK hS hAb (emP)) rfl hl rfl (Nat.le_of_ble_eq_true rfl) (dd D_X9_told 23 rfl) ⟨Nat.le_of_ble_eq_true rfl, Nat.le_of_ble_eq_true rfl⟩) rfl ?_
      refine astI F hK hP hD hS (18) (mp_18 cA am s) h (ws' := (mW cA am (m_set_asked s (upd (m_asked s) (Int32.toNatClampNeg (0 : Int32)) (F_X9_mod (p2 - ((100 : Int32) * p1)) (2953 : Int32)))))) (ms_18 cA am s (upd (m_asked s) (Int32.toNatClampNeg (0 : Int32)) (F_X9_mod (p2 - ((100 : Int32) * p1)) (2953 : Int32)))) (dd D_X9_told 24 rfl) (fun z3 h H locs hP hD hS => ?_)
      refine lv_aload_n F.1 F.2.1 (dd D_X9_told 25 rfl) rfl (lv_at hl 0 rfl) ?_
      refine getF F hK hP lf_X9_40 (0) (mp_0 cA am (m_set_asked s (upd (m_asked s) (Int32.toNatClampNeg (0 : Int32)) (F_X9_mod (p2 - ((100 : Int32) * p1)) (2953 : Int32))))) rfl (dd D_X9_told 26 rfl) ?_
      refine lv_iconst (v := (0 : Int32)) F.1 F.2.1 (dd D_X9_told 27 rfl) ki_0 ?_
      refine aldI F hK hP (18) (mp_18 cA am (m_set_asked s (upd (m_asked s) (Int32.toNatClampNeg (0 : Int32)) (F_X9_mod (p2 - ((100 : Int32) * p1)) (2953 : Int32))))) h (dd D_X9_told 28 rfl) (fun z4 h => ?_)
      obtain rfl := Option.some.inj h
      exact rw_i (R := rmOf 2 0 0) F hP hD hS hr hlk ⟨Nat.le_of_ble_eq_true rfl, Nat.le_of_ble_eq_true rfl⟩ ⟨rfl, rfl⟩ (dd D_X9_told 29 rfl)
    · refine lv_aload_n F.1 F.2.1 (dd D_X9_told 10 rfl) rfl (lv_at hl 0 rfl) ?_
      refine lv_bipush (v := (-2 : Int32)) F.1 F.2.1 (dd D_X9_told 11 rfl) kb_m2 ?_
      obtain ⟨r5, e6, h⟩ := Option.bind_eq_some_iff.mp h
      refine rwe_all (st' := [.int r5.1]) hD hS hA (rV (rest := []) F (c_X9_refuse D cA am s n (-2 : Int32) r5 e6 l H.size) lk_X9_79 (Nat.le_of_ble_eq_true rfl) (preRW hK hS hAb hP hD) (rcv_9 hK hP (q0 := (0)) (mp_0 cA am s)) rfl hl rfl (Nat.le_of_ble_eq_true rfl) (dd D_X9_told 12 rfl) ⟨Nat.le_of_ble_eq_true rfl, Nat.le_of_ble_eq_true rfl⟩) rfl (fun H locs hP hD hS => ?_)
      obtain rfl := Option.some.inj h
      exact rw_i (R := rmOf 2 0 0) F hP hD hS hr hlk ⟨Nat.le_of_ble_eq_true rfl, Nat.le_of_ble_eq_true rfl⟩ ⟨rfl, rfl⟩ (dd D_X9_told 13 rfl)
def F_X9_below (s : MS) (p1 : Int32) : (Int32 × MS) := ((jrem (jushr (m_seed (m_set_seed s (((m_seed s) * (1103515245 : Int32)) + (12345 : Int32)))) (16 : Int32)) p1), (m_set_seed s (((m_seed s) * (1103515245 : Int32)) + (12345 : Int32))))
set_option maxHeartbeats 4000000 in
set_option maxRecDepth 100000 in
theorem c_X9_below (D : va_G) (cA : Nat → ClassId) (am : Nat → Nat) (s : MS) (p1 : Int32) (hy0 : ¬ p1 = 0) : RW m_X9_below 0 0 0 D cA [.ref (am 0), .int p1] (mW cA am s) (exq (some (.int (F_X9_below s p1).1)) (mW cA am (F_X9_below s p1).2)) := by
  obtain ⟨r, h⟩ : ∃ r, F_X9_below s p1 = r := ⟨_, rfl⟩
  rw [h]
  refine RW.ofW gy_X9_below.2.2 (Nat.le_of_ble_eq_true rfl) ?_
  intro l p e sM m below meth c A H locs F hr hlk hnm hK hP hD hS hA hAb ls hl
  have hl : lv_has ls 2 [(0, .ref (am 0)), (1, .int p1)] := hl
  unfold F_X9_below at h
  refine lv_aload_n F.1 F.2.1 (dd D_X9_below 0 rfl) rfl (lv_at hl 0 rfl) ?_
  refine lv_aload_n F.1 F.2.1 (dd D_X9_below 1 rfl) rfl (lv_at hl 0 rfl) ?_
  refine getF F hK hP lf_X9_54 (0) (mp_0 cA am s) rfl (dd D_X9_below 2 rfl) ?_
  refine lv_ldcw (own := RX9) (v := (1103515245 : Int32)) F.1 F.2.1 F.2.2.2.1 (F.2.2.2.2 _ (w_1674)) (dd D_X9_below 3 rfl) ?_
  refine lv_imul F.1 F.2.1 (dd D_X9_below 4 rfl) ?_
  refine lv_sipush (v := (12345 : Int32)) F.1 F.2.1 (dd D_X9_below 5 rfl) ks_12345 ?_
  refine lv_iadd F.1 F.2.1 (dd D_X9_below 6 rfl) ?_
  refine putF F hK hP hD hS lp_X9_54 (0) (mp_0 cA am s) (Nat.le_of_ble_eq_true rfl) (nar_int _) (fit_int _) (ws' := (mW cA am (m_set_seed s (((m_seed s) * (1103515245 : Int32)) + (12345 : Int32))))) (ms_0_19 cA am s (((m_seed s) * (1103515245 : Int32)) + (12345 : Int32))) (dd D_X9_below 7 rfl) (fun H locs hP hD hS => ?_)
  refine lv_aload_n F.1 F.2.1 (dd D_X9_below 8 rfl) rfl (lv_at hl 0 rfl) ?_
  refine getF F hK hP lf_X9_54 (0) (mp_0 cA am (m_set_seed s (((m_seed s) * (1103515245 : Int32)) + (12345 : Int32)))) rfl (dd D_X9_below 9 rfl) ?_
  refine lv_bipush (v := (16 : Int32)) F.1 F.2.1 (dd D_X9_below 10 rfl) kb_16 ?_
  refine lv_iushr (v := (jushr (m_seed (m_set_seed s (((m_seed s) * (1103515245 : Int32)) + (12345 : Int32)))) (16 : Int32))) F.1 F.2.1 (dd D_X9_below 11 rfl) rfl ?_
  refine lv_iload_n F.1 F.2.1 (dd D_X9_below 12 rfl) rfl (lv_at hl 1 rfl) ?_
  refine x_irem F.1 F.2.1 (dd D_X9_below 13 rfl) hy0 ?_
  subst h
  exact rw_i (R := rmOf 0 0 0) F hP hD hS hr hlk ⟨Nat.le_of_ble_eq_true rfl, Nat.le_of_ble_eq_true rfl⟩ ⟨rfl, rfl⟩ (dd D_X9_below 14 rfl)
def F_X9_goesBy (n : Nat) (s : MS) : Option (Int32 × MS) := gd (inb (3 : Int32) 4) ((if (F_X9_below s (10 : Int32)).1 < ((m_asked (F_X9_below s (10 : Int32)).2) (Int32.toNatClampNeg (3 : Int32))) then (if (0 : Int32) = 0 then (if (0 : Int32) = 0 then some ((0 : Int32), (m_set_today (m_set_looks (F_X9_below s (10 : Int32)).2 ((m_looks (F_X9_below s (10 : Int32)).2) + (0 : Int32))) ((m_today (m_set_looks (F_X9_below s (10 : Int32)).2 ((m_looks (F_X9_below s (10 : Int32)).2) + (0 : Int32)))) + (1 : Int32)))) else some ((1 : Int32), (m_set_today (m_set_looks (F_X9_below s (10 : Int32)).2 ((m_looks (F_X9_below s (10 : Int32)).2) + (0 : Int32))) ((m_today (m_set_looks (F_X9_below s (10 : Int32)).2 ((m_looks (F_X9_below s (10 : Int32)).2) + (0 : Int32)))) + (1 : Int32))))) else (((F_X9_shinesIn n (F_X9_below s (10 : Int32)).2 (m_today (F_X9_below s (10 : Int32)).2) (1080 : Int32) (1439 : Int32))).bind fun r5 => (if r5 ≤ 0 then (if (0 : Int32) = 0 then some ((0 : Int32), (m_set_today (m_set_looks (F_X9_below s (10 : Int32)).2 ((m_looks (F_X9_below s (10 : Int32)).2) + (0 : Int32))) ((m_today (m_set_looks (F_X9_below s (10 : Int32)).2 ((m_looks (F_X9_below s (10 : Int32)).2) + (0 : Int32)))) + (1 : Int32)))) else some ((1 : Int32), (m_set_today (m_set_looks (F_X9_below s (10 : Int32)).2 ((m_looks (F_X9_below s (10 : Int32)).2) + (0 : Int32))) ((m_today (m_set_looks (F_X9_below s (10 : Int32)).2 ((m_looks (F_X9_below s (10 : Int32)).2) + (0 : Int32)))) + (1 : Int32))))) else (if (0 : Int32) = 0 then some ((0 : Int32), (m_set_today (m_set_looks (F_X9_below s (10 : Int32)).2 ((m_looks (F_X9_below s (10 : Int32)).2) + (1 : Int32))) ((m_today (m_set_looks (F_X9_below s (10 : Int32)).2 ((m_looks (F_X9_below s (10 : Int32)).2) + (1 : Int32)))) + (1 : Int32)))) else some ((1 : Int32), (m_set_today (m_set_looks (F_X9_below s (10 : Int32)).2 ((m_looks (F_X9_below s (10 : Int32)).2) + (1 : Int32))) ((m_today (m_set_looks (F_X9_below s (10 : Int32)).2 ((m_looks (F_X9_below s (10 : Int32)).2) + (1 : Int32)))) + (1 : Int32)))))))) else (if (1 : Int32) = 0 then (if (1 : Int32) = 0 then some ((0 : Int32), (m_set_today (m_set_looks (F_X9_below s (10 : Int32)).2 ((m_looks (F_X9_below s (10 : Int32)).2) + (0 : Int32))) ((m_today (m_set_looks (F_X9_below s (10 : Int32)).2 ((m_looks (F_X9_below s (10 : Int32)).2) + (0 : Int32)))) + (1 : Int32)))) else some ((1 : Int32), (m_set_today (m_set_looks (F_X9_below s (10 : Int32)).2 ((m_looks (F_X9_below s (10 : Int32)).2) + (0 : Int32))) ((m_today (m_set_looks (F_X9_below s (10 : Int32)).2 ((m_looks (F_X9_below s (10 : Int32)).2) + (0 : Int32)))) + (1 : Int32))))) else (((F_X9_shinesIn n (F_X9_below s (10 : Int32)).2 (m_today (F_X9_below s (10 : Int32)).2) (1080 : Int32) (1439 : Int32))).bind fun r12 => (if r12 ≤ 0 then (if (1 : Int32) = 0 then some ((0 : Int32), (m_set_today (m_set_looks (F_X9_below s (10 : Int32)).2 ((m_looks (F_X9_below s (10 : Int32)).2) + (0 : Int32))) ((m_today (m_set_looks (F_X9_below s (10 : Int32)).2 ((m_looks (F_X9_below s (10 : Int32)).2) + (0 : Int32)))) + (1 : Int32)))) else some ((1 : Int32), (m_set_today (m_set_looks (F_X9_below s (10 : Int32)).2 ((m_looks (F_X9_below s (10 : Int32)).2) + (0 : Int32))) ((m_today (m_set_looks (F_X9_below s (10 : Int32)).2 ((m_looks (F_X9_below s (10 : Int32)).2) + (0 : Int32)))) + (1 : Int32))))) else (if (1 : Int32) = 0 then some ((0 : Int32), (m_set_today (m_set_looks (F_X9_below s (10 : Int32)).2 ((m_looks (F_X9_below s (10 : Int32)).2) + (1 : Int32))) ((m_today (m_set_looks (F_X9_below s (10 : Int32)).2 ((m_looks (F_X9_below s (10 : Int32)).2) + (1 : Int32)))) + (1 : Int32)))) else some ((1 : Int32), (m_set_today (m_set_looks (F_X9_below s (10 : Int32)).2 ((m_looks (F_X9_below s (10 : Int32)).2) + (1 : Int32))) ((m_today (m_set_looks (F_X9_below s (10 : Int32)).2 ((m_looks (F_X9_below s (10 : Int32)).2) + (1 : Int32)))) + (1 : Int32))))))))))
