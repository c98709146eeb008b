def F_X9_refuse (n : Nat) (s : MS) (p1 : Int32) : Option (Int32 × MS) := gd (inb (-p1) 8) (gd (inb (-p1) 8) (some (p1, (m_set_refused s (upd (m_refused s) (Int32.toNatClampNeg (-p1)) (((m_refused s) (Int32.toNatClampNeg (-p1))) + (1 : Int32)))))))
set_option maxHeartbeats 4000000 in
set_option maxRecDepth 100000 in
theorem c_X9_refuse (D : va_G) (cA : Nat → ClassId) (am : Nat → Nat) (s : MS) (n : Nat) (p1 : Int32) (r : (Int32 × MS)) (h : F_X9_refuse n s p1 = some r) : RW m_X9_refuse 0 0 0 D cA [.ref (am 0), .int p1] (mW cA am s) (exq (some (.int r.1)) (mW cA am r.2)) := by
  refine RW.ofW gy_X9_refuse.2.2 (Nat.le_of_ble_eq_true rfl) ?_
  intro l p e sM m below meth c A H locs F hr hlk hnm hK hP hD hS hA hAb ls hl
  have hl : lv_has ls 2 [(0, .ref (am 0)), (1, .int p1)] := hl
  unfold F_X9_refuse at h
  refine lv_aload_n F.1 F.2.1 (dd D_X9_refuse 0 rfl) rfl (lv_at hl 0 rfl) ?_
  refine getF F hK hP lf_X9_37 (0) (mp_0 cA am s) rfl (dd D_X9_refuse 1 rfl) ?_
  refine lv_iload_n F.1 F.2.1 (dd D_X9_refuse 2 rfl) rfl (lv_at hl 1 rfl) ?_
  refine lv_ineg F.1 F.2.1 (dd D_X9_refuse 3 rfl) ?_
  refine lv_dup2_11 F.1 F.2.1 (dd D_X9_refuse 4 rfl) rfl rfl ?_
  refine aldI F hK hP (17) (mp_17 cA am s) h (dd D_X9_refuse 5 rfl) (fun z1 h => ?_)
  refine lv_iconst (v := (1 : Int32)) F.1 F.2.1 (dd D_X9_refuse 6 rfl) ki_1 ?_
  refine lv_iadd F.1 F.2.1 (dd D_X9_refuse 7 rfl) ?_
  refine astI F hK hP hD hS (17) (mp_17 cA am s) h (ws' := (mW cA am (m_set_refused s (upd (m_refused s) (Int32.toNatClampNeg (-p1)) (((m_refused s) (Int32.toNatClampNeg (-p1))) + (1 : Int32)))))) (ms_17 cA am s (upd (m_refused s) (Int32.toNatClampNeg (-p1)) (((m_refused s) (Int32.toNatClampNeg (-p1))) + (1 : Int32)))) (dd D_X9_refuse 8 rfl) (fun z2 h H locs hP hD hS => ?_)
  refine lv_iload_n F.1 F.2.1 (dd D_X9_refuse 9 rfl) rfl (lv_at hl 1 rfl) ?_
  obtain rfl := Option.some.inj h
  exact rw_i (R := rmOf 0 0 0) F hP hD hS hr hlk ⟨Nat.le_of_ble_eq_true rfl, Nat.le_of_ble_eq_true rfl⟩ ⟨rfl, rfl⟩ (dd D_X9_refuse 10 rfl)
def F_X9_in (p0 : Int64) (p1 : Int64) (p2 : Int64) : Bool := (if (lg_cmp p0 p1) < 0 then (false) else (if 0 < (lg_cmp p0 p2) then (false) else (true)))
set_option maxHeartbeats 4000000 in
set_option maxRecDepth 100000 in
theorem c_X9_in (D : va_G) (cA : Nat → ClassId)  (p0 : Int64) (p1 : Int64) (p2 : Int64) : RO m_X9_in 0 D cA [.long p0, .long p1, .long p2] [] (some (.int (bI (F_X9_in p0 p1 p2)))) := by
  obtain ⟨r, h⟩ : ∃ r, F_X9_in p0 p1 p2 = r := ⟨_, rfl⟩
  rw [h]
  refine RO.ofW gy_X9_in.2.2 (Nat.le_of_ble_eq_true rfl) ?_
  intro l p e sM m below meth c F hr hlk hK hP hS hAb ls hl
  have hl : lv_has ls 6 [(0, .long p0), (2, .long p1), (4, .long p2)] := hl
  unfold F_X9_in at h
  refine lv_lload_n F.1 F.2.1 (dd D_X9_in 0 rfl) rfl (lv_at hl 0 rfl) ?_
  refine lv_lload_n F.1 F.2.1 (dd D_X9_in 1 rfl) rfl (lv_at hl 1 rfl) ?_
  refine W.lcmp F.1 F.2.1 (dd D_X9_in 2 rfl) ?_
  refine x_if_lt (tgt := 17) F.1 F.2.1 (dd D_X9_in 3 rfl) rfl h (fun c1 h => ?_) (fun c1 h => ?_)
  · refine lv_iconst (v := (0 : Int32)) F.1 F.2.1 (dd D_X9_in 10 rfl) ki_0 ?_
    exact ro_z (R := rmOf 0 0 0) F hr rfl hlk (congrArg (fun z => some (Value.int (bI z))) h) (dd D_X9_in 11 rfl)
  · refine lv_lload_n F.1 F.2.1 (dd D_X9_in 4 rfl) rfl (lv_at hl 0 rfl) ?_
    refine lv_lload F.1 F.2.1 (dd D_X9_in 5 rfl) (lv_at hl 2 rfl) ?_
    refine W.lcmp F.1 F.2.1 (dd D_X9_in 6 rfl) ?_
    refine x_if_gt (tgt := 17) F.1 F.2.1 (dd D_X9_in 7 rfl) rfl h (fun c2 h => ?_) (fun c2 h => ?_)
    · refine lv_iconst (v := (0 : Int32)) F.1 F.2.1 (dd D_X9_in 10 rfl) ki_0 ?_
      exact ro_z (R := rmOf 0 0 0) F hr rfl hlk (congrArg (fun z => some (Value.int (bI z))) h) (dd D_X9_in 11 rfl)
    · refine lv_iconst (v := (1 : Int32)) F.1 F.2.1 (dd D_X9_in 8 rfl) ki_1 ?_
      refine lv_goto (tgt := 18) F.1 F.2.1 (dd D_X9_in 9 rfl) rfl ?_
      exact ro_z (R := rmOf 0 0 0) F hr rfl hlk (congrArg (fun z => some (Value.int (bI z))) h) (dd D_X9_in 11 rfl)
def F_X9_isDay (p0 : Int64) : Bool := ((F_X9_in p0 (0 : Int64) (9999 : Int64)))
set_option maxHeartbeats 4000000 in
set_option maxRecDepth 100000 in
theorem c_X9_isDay (D : va_G) (cA : Nat → ClassId)  (p0 : Int64) : RO m_X9_isDay 1 D cA [.long p0] [] (some (.int (bI (F_X9_isDay p0)))) := by
  obtain ⟨r, h⟩ : ∃ r, F_X9_isDay p0 = r := ⟨_, rfl⟩
  rw [h]
  refine RO.ofW gy_X9_isDay.2.2 (Nat.le_of_ble_eq_true rfl) ?_
  intro l p e sM m below meth c F hr hlk hK hP hS hAb ls hl
  have hl : lv_has ls 2 [(0, .long p0)] := hl
  unfold F_X9_isDay at h
  refine lv_lload_n F.1 F.2.1 (dd D_X9_isDay 0 rfl) rfl (lv_at hl 0 rfl) ?_
  refine lv_lconst (v := (0 : Int64)) F.1 F.2.1 (dd D_X9_isDay 1 rfl) kl_0 ?_
  refine lv_ldc2 (own := RX9) (v := (9999 : Int64)) F.1 F.2.1 F.2.2.2.1 (F.2.2.2.2 _ (kL_X9_61)) (dd D_X9_isDay 2 rfl) ?_
  refine ro_go (st' := [.int (bI (F_X9_in p0 (0 : Int64) (9999 : Int64)))]) (rS (rest := []) F (c_X9_in D cA p0 (0 : Int64) (9999 : Int64) l) lk_X9_63 (Nat.le_of_ble_eq_true rfl) (preRO hK hS hAb (emP)) rfl hl rfl (Nat.le_of_ble_eq_true rfl) (dd D_X9_isDay 3 rfl) ⟨Nat.le_of_ble_eq_true rfl, Nat.le_of_ble_eq_true rfl⟩) rfl ?_
  exact ro_z (R := rmOf 1 0 0) F hr (bI_nar _) hlk (congrArg (fun z => some (Value.int (bI z))) h) (dd D_X9_isDay 4 rfl)
def F_X9_areDays (p0 : Int32) (p1 : Int32) : Bool := bf (F_X9_isDay (Int32.toInt64 p0)) (bf (F_X9_in (Int32.toInt64 p1) (1 : Int64) (1000 : Int64)) ((true)) ((false))) ((false))
set_option maxHeartbeats 4000000 in
set_option maxRecDepth 100000 in
theorem c_X9_areDays (D : va_G) (cA : Nat → ClassId)  (p0 : Int32) (p1 : Int32) : RO m_X9_areDays 2 D cA [.int p0, .int p1] [] (some (.int (bI (F_X9_areDays p0 p1)))) := by
  obtain ⟨r, h⟩ : ∃ r, F_X9_areDays p0 p1 = r := ⟨_, rfl⟩
  rw [h]
  refine RO.ofW gy_X9_areDays.2.2 (Nat.le_of_ble_eq_true rfl) ?_
  intro l p e sM m below meth c F hr hlk hK hP hS hAb ls hl
  have hl : lv_has ls 2 [(0, .int p0), (1, .int p1)] := hl
  unfold F_X9_areDays at h
  refine lv_iload_n F.1 F.2.1 (dd D_X9_areDays 0 rfl) rfl (lv_at hl 0 rfl) ?_
  refine lv_i2l (v := (Int32.toInt64 p0)) F.1 F.2.1 (dd D_X9_areDays 1 rfl) rfl ?_
  refine ro_go (st' := [.int (bI (F_X9_isDay (Int32.toInt64 p0)))]) (rS (rest := []) F (c_X9_isDay D cA (Int32.toInt64 p0) l) lk_X9_67 (Nat.le_of_ble_eq_true rfl) (preRO hK hS hAb (emP)) rfl hl rfl (Nat.le_of_ble_eq_true rfl) (dd D_X9_areDays 2 rfl) ⟨Nat.le_of_ble_eq_true rfl, Nat.le_of_ble_eq_true rfl⟩) rfl ?_
  refine x_bif_eq (tgt := 24) F.1 F.2.1 (dd D_X9_areDays 3 rfl) rfl h (fun c2 h => ?_) (fun c2 h => ?_)
  · refine lv_iconst (v := (0 : Int32)) F.1 F.2.1 (dd D_X9_areDays 12 rfl) ki_0 ?_
    exact ro_z (R := rmOf 2 0 0) F hr rfl hlk (congrArg (fun z => some (Value.int (bI z))) h) (dd D_X9_areDays 13 rfl)
  · refine lv_iload_n F.1 F.2.1 (dd D_X9_areDays 4 rfl) rfl (lv_at hl 1 rfl) ?_
    refine lv_i2l (v := (Int32.toInt64 p1)) F.1 F.2.1 (dd D_X9_areDays 5 rfl) rfl ?_
    refine lv_lconst (v := (1 : Int64)) F.1 F.2.1 (dd D_X9_areDays 6 rfl) kl_1 ?_
    refine lv_ldc2 (own := RX9) (v := (1000 : Int64)) F.1 F.2.1 F.2.2.2.1 (F.2.2.2.2 _ (kL_X9_71)) (dd D_X9_areDays 7 rfl) ?_
    refine ro_go (st' := [.int (bI (F_X9_in (Int32.toInt64 p1) (1 : Int64) (1000 : Int64)))]) (rS (rest := []) F (c_X9_in D cA (Int32.toInt64 p1) (1 : Int64) (1000 : Int64) l) lk_X9_63 (Nat.le_of_ble_eq_true rfl) (preRO hK hS hAb (emP)) rfl hl rfl (Nat.le_of_ble_eq_true rfl) (dd D_X9_areDays 8 rfl) ⟨Nat.le_of_ble_eq_true rfl, Nat.le_of_ble_eq_true rfl⟩) rfl ?_
    refine x_bif_eq (tgt := 24) F.1 F.2.1 (dd D_X9_areDays 9 rfl) rfl h (fun c1 h => ?_) (fun c1 h => ?_)
    · refine lv_iconst (v := (0 : Int32)) F.1 F.2.1 (dd D_X9_areDays 12 rfl) ki_0 ?_
      exact ro_z (R := rmOf 2 0 0) F hr rfl hlk (congrArg (fun z => some (Value.int (bI z))) h) (dd D_X9_areDays 13 rfl)
    · refine lv_iconst (v := (1 : Int32)) F.1 F.2.1 (dd D_X9_areDays 10 rfl) ki_1 ?_
      refine lv_goto (tgt := 25) F.1 F.2.1 (dd D_X9_areDays 11 rfl) rfl ?_
      exact ro_z (R := rmOf 2 0 0) F hr rfl hlk (congrArg (fun z => some (Value.int (bI z))) h) (dd D_X9_areDays 13 rfl)
def F_X9_lastOf (p0 : Int32) (p1 : Int32) : Int32 := (if (9999 : Int32) ≤ ((p0 + p1) - (1 : Int32)) then ((9999 : Int32)) else (((p0 + p1) - (1 : Int32))))
set_option maxHeartbeats 4000000 in
set_option maxRecDepth 100000 in
theorem c_X9_lastOf (D : va_G) (cA : Nat → ClassId)  (p0 : Int32) (p1 : Int32) : RO m_X9_lastOf 0 D cA [.int p0, .int p1] [] (some (.int (F_X9_lastOf p0 p1))) := by
  obtain ⟨r, h⟩ : ∃ r, F_X9_lastOf p0 p1 = r := ⟨_, rfl⟩
  rw [h]
  refine RO.ofW gy_X9_lastOf.2.2 (Nat.le_of_ble_eq_true rfl) ?_
  intro l p e sM m below meth c F hr hlk hK hP hS hAb ls hl
  have hl : lv_has ls 2 [(0, .int p0), (1, .int p1)] := hl
  unfold F_X9_lastOf at h
  refine lv_iload_n F.1 F.2.1 (dd D_X9_lastOf 0 rfl) rfl (lv_at hl 0 rfl) ?_
  refine lv_iload_n F.1 F.2.1 (dd D_X9_lastOf 1 rfl) rfl (lv_at hl 1 rfl) ?_
  refine lv_iadd F.1 F.2.1 (dd D_X9_lastOf 2 rfl) ?_
  refine lv_iconst (v := (1 : Int32)) F.1 F.2.1 (dd D_X9_lastOf 3 rfl) ki_1 ?_
  refine lv_isub F.1 F.2.1 (dd D_X9_lastOf 4 rfl) ?_
  refine lv_sipush (v := (9999 : Int32)) F.1 F.2.1 (dd D_X9_lastOf 5 rfl) ks_9999 ?_
  refine x_icmp_ge (tgt := 19) F.1 F.2.1 (dd D_X9_lastOf 6 rfl) rfl h (fun c1 h => ?_) (fun c1 h => ?_)
  · refine lv_sipush (v := (9999 : Int32)) F.1 F.2.1 (dd D_X9_lastOf 13 rfl) ks_9999 ?_
    exact ro_i (R := rmOf 0 0 0) F hr hlk (congrArg (fun z => some (Value.int z)) h) (dd D_X9_lastOf 14 rfl)
  · refine lv_iload_n F.1 F.2.1 (dd D_X9_lastOf 7 rfl) rfl (lv_at hl 0 rfl) ?_
    refine lv_iload_n F.1 F.2.1 (dd D_X9_lastOf 8 rfl) rfl (lv_at hl 1 rfl) ?_
    refine lv_iadd F.1 F.2.1 (dd D_X9_lastOf 9 rfl) ?_
    refine lv_iconst (v := (1 : Int32)) F.1 F.2.1 (dd D_X9_lastOf 10 rfl) ki_1 ?_
    refine lv_isub F.1 F.2.1 (dd D_X9_lastOf 11 rfl) ?_
    refine lv_goto (tgt := 22) F.1 F.2.1 (dd D_X9_lastOf 12 rfl) rfl ?_
    exact ro_i (R := rmOf 0 0 0) F hr hlk (congrArg (fun z => some (Value.int z)) h) (dd D_X9_lastOf 14 rfl)
def F_X9_row_L67 (n : Nat) (v1 : Int32) (v2 : Int32) (v3 : Int32) : Nat → Int32 → MS → Option (Int32 × MS)
  | 0, _, _ => none
  | kf + 1, w4, u0 => (if (40 : Int32) ≤ w4 then some ((1 : Int32), u0) else gd (inb v1 8) (gd (inb w4 40) (F_X9_row_L67 n v1 v2 v3 kf (w4 + (1 : Int32)) (m_set_rows u0 (va_up (m_rows u0) (Int32.toNatClampNeg v1) (vp_updL (m_rows u0 (Int32.toNatClampNeg v1)) (Int32.toNatClampNeg w4) (0 : Int64)))))))
def F_X9_row (n : Nat) (s : MS) (p1 : Int32) (p2 : Int32) (p3 : Int32) : Option (Int32 × MS) := bf (F_X9_in (Int32.toInt64 p1) (0 : Int64) (7 : Int64)) (bf (F_X9_in (Int32.toInt64 p2) (0 : Int64) (4 : Int64)) (bf (F_X9_in (Int32.toInt64 p3) (0 : Int64) (40 : Int64)) (gd (inb p1 8) (gd (inb p1 8) (gd (inb p1 8) (F_X9_row_L67 n p1 p2 p3 n (0 : Int32) (m_set_rowSize (m_set_rowSort (m_set_shelf s (upd (m_shelf s) (Int32.toNatClampNeg p1) (1 : Int32))) (upd (m_rowSort (m_set_shelf s (upd (m_shelf s) (Int32.toNatClampNeg p1) (1 : Int32)))) (Int32.toNatClampNeg p1) p2)) (upd (m_rowSize (m_set_rowSort (m_set_shelf s (upd (m_shelf s) (Int32.toNatClampNeg p1) (1 : Int32))) (upd (m_rowSort (m_set_shelf s (upd (m_shelf s) (Int32.toNatClampNeg p1) (1 : Int32)))) (Int32.toNatClampNeg p1) p2))) (Int32.toNatClampNeg p1) p3)))))) ((((F_X9_refuse n s (-2 : Int32))).bind fun r17 => some (r17.1, r17.2)))) ((((F_X9_refuse n s (-2 : Int32))).bind fun r3 => some (r3.1, r3.2)))) ((((F_X9_refuse n s (-2 : Int32))).bind fun r1 => some (r1.1, r1.2)))
set_option maxHeartbeats 4000000 in
set_option maxRecDepth 100000 in
theorem c_X9_row (D : va_G) (cA : Nat → ClassId) (am : Nat → Nat) (s : MS) (n : Nat) (p1 : Int32) (p2 : Int32) (p3 : Int32) (r : (Int32 × MS)) (h : F_X9_row n s p1 p2 p3 = some r) : RW m_X9_row 1 0 0 D cA [.ref (am 0), .int p1, .int p2, .int p3] (mW cA am s) (exq (some (.int r.1)) (mW cA am r.2)) := by
  refine RW.ofW gy_X9_row.2.2 (Nat.le_of_ble_eq_true rfl) ?_
  intro l p e sM m below meth c A H locs F hr hlk hnm hK hP hD hS hA hAb ls hl
  have hl : lv_has ls 5 [(0, .ref (am 0)), (1, .int p1), (2, .int p2), (3, .int p3)] := hl
  unfold F_X9_row at h
  refine lv_iload_n F.1 F.2.1 (dd D_X9_row 0 rfl) rfl (lv_at hl 1 rfl) ?_
  refine lv_i2l (v := (Int32.toInt64 p1)) F.1 F.2.1 (dd D_X9_row 1 rfl) rfl ?_
  refine lv_lconst (v := (0 : Int64)) F.1 F.2.1 (dd D_X9_row 2 rfl) kl_0 ?_
  refine lv_ldc2 (own := RX9) (v := (7 : Int64)) F.1 F.2.1 F.2.2.2.1 (F.2.2.2.2 _ (kL_X9_73)) (dd D_X9_row 3 rfl) ?_
  refine ro_go (st' := [.int (bI (F_X9_in (Int32.toInt64 p1) (0 : Int64) (7 : Int64)))]) (rS (rest := []) F (c_X9_in D cA (Int32.toInt64 p1) (0 : Int64) (7 : Int64) l) lk_X9_63 (Nat.le_of_ble_eq_true rfl) (preRO hK hS hAb (emP)) rfl hl rfl (Nat.le_of_ble_eq_true rfl) (dd D_X9_row 4 rfl) ⟨Nat.le_of_ble_eq_true rfl, Nat.le_of_ble_eq_true rfl⟩) rfl ?_
  refine x_bif_eq (tgt := 36) F.1 F.2.1 (dd D_X9_row 5 rfl) rfl h (fun c21 h => ?_) (fun c21 h => ?_)
  · refine lv_aload_n F.1 F.2.1 (dd D_X9_row 18 rfl) rfl (lv_at hl 0 rfl) ?_
    refine lv_bipush (v := (-2 : Int32)) F.1 F.2.1 (dd D_X9_row 19 rfl) kb_m2 ?_
    obtain ⟨r1, e2, h⟩ := Option.bind_eq_some_iff.mp h
    refine rwe_all (st' := [.int r1.1]) hD hS hA (rV (rest := []) F (c_X9_refuse D cA am s n (-2 : Int32) r1 e2 l H.size) lk_X9_79 (Nat.le_of_ble_eq_true rfl) (preRW hK hS hAb hP hD) (rcv_9 hK hP (q0 := (0)) (mp_0 cA am s)) rfl hl rfl (Nat.le_of_ble_eq_true rfl) (dd D_X9_row 20 rfl) ⟨Nat.le_of_ble_eq_true rfl, Nat.le_of_ble_eq_true rfl⟩) rfl (fun H locs hP hD hS => ?_)
    obtain rfl := Option.some.inj h
    exact rw_i (R := rmOf 1 0 0) F hP hD hS hr hlk ⟨Nat.le_of_ble_eq_true rfl, Nat.le_of_ble_eq_true rfl⟩ ⟨rfl, rfl⟩ (dd D_X9_row 21 rfl)
  · refine lv_iload_n F.1 F.2.1 (dd D_X9_row 6 rfl) rfl (lv_at hl 2 rfl) ?_
    refine lv_i2l (v := (Int32.toInt64 p2)) F.1 F.2.1 (dd D_X9_row 7 rfl) rfl ?_
    refine lv_lconst (v := (0 : Int64)) F.1 F.2.1 (dd D_X9_row 8 rfl) kl_0 ?_
    refine lv_ldc2 (own := RX9) (v := (4 : Int64)) F.1 F.2.1 F.2.2.2.1 (F.2.2.2.2 _ (kL_X9_75)) (dd D_X9_row 9 rfl) ?_
    refine ro_go (st' := [.int (bI (F_X9_in (Int32.toInt64 p2) (0 : Int64) (4 : Int64)))]) (rS (rest := []) F (c_X9_in D cA (Int32.toInt64 p2) (0 : Int64) (4 : Int64) l) lk_X9_63 (Nat.le_of_ble_eq_true rfl) (preRO hK hS hAb (emP)) rfl hl rfl (Nat.le_of_ble_eq_true rfl) (dd D_X9_row 10 rfl) ⟨Nat.le_of_ble_eq_true rfl, Nat.le_of_ble_eq_true rfl⟩) rfl ?_
    refine x_bif_eq (tgt := 36) F.1 F.2.1 (dd D_X9_row 11 rfl) rfl h (fun c20 h => ?_) (fun c20 h => ?_)
    · refine lv_aload_n F.1 F.2.1 (dd D_X9_row 18 rfl) rfl (lv_at hl 0 rfl) ?_
      refine lv_bipush (v := (-2 : Int32)) F.1 F.2.1 (dd D_X9_row 19 rfl) kb_m2 ?_
      obtain ⟨r3, e4, h⟩ := Option.bind_eq_some_iff.mp h
      refine rwe_all (st' := [.int r3.1]) hD hS hA (rV (rest := []) F (c_X9_refuse D cA am s n (-2 : Int32) r3 e4 l H.size) lk_X9_79 (Nat.le_of_ble_eq_true rfl) (preRW hK hS hAb hP hD) (rcv_9 hK hP (q0 := (0)) (mp_0 cA am s)) rfl hl rfl (Nat.le_of_ble_eq_true rfl) (dd D_X9_row 20 rfl) ⟨Nat.le_of_ble_eq_true rfl, Nat.le_of_ble_eq_true rfl⟩) rfl (fun H locs hP hD hS => ?_)
      obtain rfl := Option.some.inj h
      exact rw_i (R := rmOf 1 0 0) F hP hD hS hr hlk ⟨Nat.le_of_ble_eq_true rfl, Nat.le_of_ble_eq_true rfl⟩ ⟨rfl, rfl⟩ (dd D_X9_row 21 rfl)
    · refine lv_iload_n F.1 F.2.1 (dd D_X9_row 12 rfl) rfl (lv_at hl 3 rfl) ?_
      refine lv_i2l (v := (Int32.toInt64 p3)) F.1 F.2.1 (dd D_X9_row 13 rfl) rfl ?_
      refine lv_lconst (v := (0 : Int64)) F.1 F.2.1 (dd D_X9_row 14 rfl) kl_0 ?_
      refine lv_ldc2 (own := RX9) (v := (40 : Int64)) F.1 F.2.1 F.2.2.2.1 (F.2.2.2.2 _ (kL_X9_77)) (dd D_X9_row 15 rfl) ?_
      refine ro_go (st' := [.int (bI (F_X9_in (Int32.toInt64 p3) (0 : Int64) (40 : Int64)))]) (rS (rest := []) F (c_X9_in D cA (Int32.toInt64 p3) (0 : Int64) (40 : Int64) l) lk_X9_63 (Nat.le_of_ble_eq_true rfl) (preRO hK hS hAb (emP)) rfl hl rfl (Nat.le_of_ble_eq_true rfl) (dd D_X9_row 16 rfl) ⟨Nat.le_of_ble_eq_true rfl, Nat.le_of_ble_eq_true rfl⟩) rfl ?_
      refine x_bif_ne (tgt := 43) F.1 F.2.1 (dd D_X9_row 17 rfl) rfl h (fun c19 h => ?_) (fun c19 h => ?_)
      · refine lv_aload_n F.1 F.2.1 (dd D_X9_row 22 rfl) rfl (lv_at hl 0 rfl) ?_
        refine getF F hK hP lf_X9_7 (0) (mp_0 cA am s) rfl (dd D_X9_row 23 rfl) ?_
        refine lv_iload_n F.1 F.2.1 (dd D_X9_row 24 rfl) rfl (lv_at hl 1 rfl) ?_
        refine lv_iconst (v := (1 : Int32)) F.1 F.2.1 (dd D_X9_row 25 rfl) ki_1 ?_
        refine astI F hK hP hD hS (1) (mp_1 cA am s) h (ws' := (mW cA am (m_set_shelf s (upd (m_shelf s) (Int32.toNatClampNeg p1) (1 : Int32))))) (ms_1 cA am s (upd (m_shelf s) (Int32.toNatClampNeg p1) (1 : Int32))) (dd D_X9_row 26 rfl) (fun z5 h H locs hP hD hS => ?_)
        refine lv_aload_n F.1 F.2.1 (dd D_X9_row 27 rfl) rfl (lv_at hl 0 rfl) ?_
        refine getF F hK hP lf_X9_13 (0) (mp_0 cA am (m_set_shelf s (upd (m_shelf s) (Int32.toNatClampNeg p1) (1 : Int32)))) rfl (dd D_X9_row 28 rfl) ?_
        refine lv_iload_n F.1 F.2.1 (dd D_X9_row 29 rfl) rfl (lv_at hl 1 rfl) ?_
        refine lv_iload_n F.1 F.2.1 (dd D_X9_row 30 rfl) rfl (lv_at hl 2 rfl) ?_
        refine astI F hK hP hD hS (2) (mp_2 cA am (m_set_shelf s (upd (m_shelf s) (Int32.toNatClampNeg p1) (1 : Int32)))) h (ws' := (mW cA am (m_set_rowSort (m_set_shelf s (upd (m_shelf s) (Int32.toNatClampNeg p1) (1 : Int32))) (upd (m_rowSort (m_set_shelf s (upd (m_shelf s) (Int32.toNatClampNeg p1) (1 : Int32)))) (Int32.toNatClampNeg p1) p2)))) (ms_2 cA am (m_set_shelf s (upd (m_shelf s) (Int32.toNatClampNeg p1) (1 : Int32))) (upd (m_rowSort (m_set_shelf s (upd (m_shelf s) (Int32.toNatClampNeg p1) (1 : Int32)))) (Int32.toNatClampNeg p1) p2)) (dd D_X9_row 31 rfl) (fun z6 h H locs hP hD hS => ?_)
        refine lv_aload_n F.1 F.2.1 (dd D_X9_row 32 rfl) rfl (lv_at hl 0 rfl) ?_
        refine getF F hK hP lf_X9_16 (0) (mp_0 cA am (m_set_rowSort (m_set_shelf s (upd (m_shelf s) (Int32.toNatClampNeg p1) (1 : Int32))) (upd (m_rowSort (m_set_shelf s (upd (m_shelf s) (Int32.toNatClampNeg p1) (1 : Int32)))) (Int32.toNatClampNeg p1) p2))) rfl (dd D_X9_row 33 rfl) ?_
        refine lv_iload_n F.1 F.2.1 (dd D_X9_row 34 rfl) rfl (lv_at hl 1 rfl) ?_
        refine lv_iload_n F.1 F.2.1 (dd D_X9_row 35 rfl) rfl (lv_at hl 3 rfl) ?_
        refine astI F hK hP hD hS (3) (mp_3 cA am (m_set_rowSort (m_set_shelf s (upd (m_shelf s) (Int32.toNatClampNeg p1) (1 : Int32))) (upd (m_rowSort (m_set_shelf s (upd (m_shelf s) (Int32.toNatClampNeg p1) (1 : Int32)))) (Int32.toNatClampNeg p1) p2))) h (ws' := (mW cA am (m_set_rowSize (m_set_rowSort (m_set_shelf s (upd (m_shelf s) (Int32.toNatClampNeg p1) (1 : Int32))) (upd (m_rowSort (m_set_shelf s (upd (m_shelf s) (Int32.toNatClampNeg p1) (1 : Int32)))) (Int32.toNatClampNeg p1) p2)) (upd (m_rowSize (m_set_rowSort (m_set_shelf s (upd (m_shelf s) (Int32.toNatClampNeg p1) (1 : Int32))) (upd (m_rowSort (m_set_shelf s (upd (m_shelf s) (Int32.toNatClampNeg p1) (1 : Int32)))) (Int32.toNatClampNeg p1) p2))) (Int32.toNatClampNeg p1) p3)))) (ms_3 cA am (m_set_rowSort (m_set_shelf s (upd (m_shelf s) (Int32.toNatClampNeg p1) (1 : Int32))) (upd (m_rowSort (m_set_shelf s (upd (m_shelf s) (Int32.toNatClampNeg p1) (1 : Int32)))) (Int32.toNatClampNeg p1) p2)) (upd (m_rowSize (m_set_rowSort (m_set_shelf s (upd (m_shelf s) (Int32.toNatClampNeg p1) (1 : Int32))) (upd (m_rowSort (m_set_shelf s (upd (m_shelf s) (Int32.toNatClampNeg p1) (1 : Int32)))) (Int32.toNatClampNeg p1) p2))) (Int32.toNatClampNeg p1) p3)) (dd D_X9_row 36 rfl) (fun z7 h H locs hP hD hS => ?_)
        refine lv_iconst (v := (0 : Int32)) F.1 F.2.1 (dd D_X9_row 37 rfl) ki_0 ?_
        refine lv_istore (lv' := [(4, .int (0 : Int32)), (0, .ref (am 0)), (1, .int p1), (2, .int p2), (3, .int p3)]) F.1 F.2.1 (dd D_X9_row 38 rfl) hl (Nat.le_of_ble_eq_true rfl) rfl (fun ls hl => ?_)
        have L12 : ∀ (kf : Nat) (w4_L12 : Int32) (u0_L12 : MS) (H : Heap) (locs : List Loc) (ls : Array Slot), va_P D vwCl (mW cA am u0_L12) H → va_D A (mW cA am u0_L12) → va_S A sM.heap H locs → lv_has ls 5 [(0, .ref (am 0)), (1, .int p1), (2, .int p2), (3, .int p3), (4, .int w4_L12)] → F_X9_row_L67 n p1 p2 p3 kf w4_L12 u0_L12 = some r → Wrw 1 0 0 D A (exq (some (.int r.1)) (mW cA am r.2)) p l e sM m ([.ref (am 0), .int p1, .int p2, .int p3] : List Value).toArray below meth c H locs 0 0 67 ls [] := by
          intro kf
          induction kf with
          | zero =>
            intro w4_L12 u0_L12 H locs ls hP hD hS hl h
            cases (show none = some r from h)
          | succ k_L12 ih_L12 =>
            intro w4_L12 u0_L12 H locs ls hP hD hS hl h
            unfold F_X9_row_L67 at h
            refine lv_iload F.1 F.2.1 (dd D_X9_row 39 rfl) (lv_at hl 4 rfl) ?_
            refine lv_bipush (v := (40 : Int32)) F.1 F.2.1 (dd D_X9_row 40 rfl) kb_40 ?_
            refine x_icmp_ge (tgt := 90) F.1 F.2.1 (dd D_X9_row 41 rfl) rfl h (fun c13 h => ?_) (fun c13 h => ?_)
            · refine lv_iconst (v := (1 : Int32)) F.1 F.2.1 (dd D_X9_row 51 rfl) ki_1 ?_
              obtain rfl := Option.some.inj h
              exact rw_i (R := rmOf 1 0 0) F hP hD hS hr hlk ⟨Nat.le_of_ble_eq_true rfl, Nat.le_of_ble_eq_true rfl⟩ ⟨rfl, rfl⟩ (dd D_X9_row 52 rfl)
            · refine lv_aload_n F.1 F.2.1 (dd D_X9_row 42 rfl) rfl (lv_at hl 0 rfl) ?_
              refine getF F hK hP lf_X9_21 (0) (mp_0 cA am u0_L12) rfl (dd D_X9_row 43 rfl) ?_
              refine lv_iload_n F.1 F.2.1 (dd D_X9_row 44 rfl) rfl (lv_at hl 1 rfl) ?_
              refine aldA (g := fun j => am (5+j)) F hK hP (4) (mp_4 cA am u0_L12) 5 rfl (fun _ => rfl) h (dd D_X9_row 45 rfl) (fun z14 h => ?_)
              have hk15 : (Int32.toNatClampNeg p1) < 8 := inb_lt z14
              refine lv_iload F.1 F.2.1 (dd D_X9_row 46 rfl) (lv_at hl 4 rfl) ?_
              refine lv_lconst (v := (0 : Int64)) F.1 F.2.1 (dd D_X9_row 47 rfl) kl_0 ?_
              refine astL F hK hP hD hS (5+(Int32.toNatClampNeg p1)) (mp_row cA am u0_L12 (Int32.toNatClampNeg p1) hk15) h (ws' := (mW cA am (m_set_rows u0_L12 (va_up (m_rows u0_L12) (Int32.toNatClampNeg p1) (vp_updL (m_rows u0_L12 (Int32.toNatClampNeg p1)) (Int32.toNatClampNeg w4_L12) (0 : Int64)))))) (ms_row cA am u0_L12 (vp_updL (m_rows u0_L12 (Int32.toNatClampNeg p1)) (Int32.toNatClampNeg w4_L12) (0 : Int64)) (Int32.toNatClampNeg p1) hk15) (dd D_X9_row 48 rfl) (fun z16 h H locs hP hD hS => ?_)
              refine lv_iinc (v := (w4_L12 + (1 : Int32))) (lv' := [(4, .int (w4_L12 + (1 : Int32))), (0, .ref (am 0)), (1, .int p1), (2, .int p2), (3, .int p3)]) F.1 F.2.1 (dd D_X9_row 49 rfl) hl (k := 4) rfl (congrArg (fun z => w4_L12 + z) ki_1) (Nat.le_of_ble_eq_true rfl) rfl (fun ls hl => ?_)
              refine lv_goto (tgt := 67) F.1 F.2.1 (dd D_X9_row 50 rfl) rfl ?_
              exact ih_L12 (w4_L12 + (1 : Int32)) (m_set_rows u0_L12 (va_up (m_rows u0_L12) (Int32.toNatClampNeg p1) (vp_updL (m_rows u0_L12 (Int32.toNatClampNeg p1)) (Int32.toNatClampNeg w4_L12) (0 : Int64)))) _ _ ls hP hD hS (lv_sub hl [1, 2, 3, 4, 0] rfl) h
        exact L12 n (0 : Int32) (m_set_rowSize (m_set_rowSort (m_set_shelf s (upd (m_shelf s) (Int32.toNatClampNeg p1) (1 : Int32))) (upd (m_rowSort (m_set_shelf s (upd (m_shelf s) (Int32.toNatClampNeg p1) (1 : Int32)))) (Int32.toNatClampNeg p1) p2)) (upd (m_rowSize (m_set_rowSort (m_set_shelf s (upd (m_shelf s) (Int32.toNatClampNeg p1) (1 : Int32))) (upd (m_rowSort (m_set_shelf s (upd (m_shelf s) (Int32.toNatClampNeg p1) (1 : Int32)))) (Int32.toNatClampNeg p1) p2))) (Int32.toNatClampNeg p1) p3)) _ _ ls hP hD hS (lv_sub hl [1, 2, 3, 4, 0] rfl) h
      · refine lv_aload_n F.1 F.2.1 (dd D_X9_row 18 rfl) rfl (lv_at hl 0 rfl) ?_
        refine lv_bipush (v := (-2 : Int32)) F.1 F.2.1 (dd D_X9_row 19 rfl) kb_m2 ?_
        obtain ⟨r17, e18, h⟩ := Option.bind_eq_some_iff.mp h
        refine rwe_all (st' := [.int r17.1]) hD hS hA (rV (rest := []) F (c_X9_refuse D cA am s n (-2 : Int32) r17 e18 l H.size) lk_X9_79 (Nat.le_of_ble_eq_true rfl) (preRW hK hS hAb hP hD) (rcv_9 hK hP (q0 := (0)) (mp_0 cA am s)) rfl hl rfl (Nat.le_of_ble_eq_true rfl) (dd D_X9_row 20 rfl) ⟨Nat.le_of_ble_eq_true rfl, Nat.le_of_ble_eq_true rfl⟩) rfl (fun H locs hP hD hS => ?_)
        obtain rfl := Option.some.inj h
        exact rw_i (R := rmOf 1 0 0) F hP hD hS hr hlk ⟨Nat.le_of_ble_eq_true rfl, Nat.le_of_ble_eq_true rfl⟩ ⟨rfl, rfl⟩ (dd D_X9_row 21 rfl)
def F_X9_fit (p0 : Int32) (p1 : Int64) : Int64 := (if p0 = (0 : Int32) then ((Int32.toInt64 (Int8.toInt32 (Int32.toInt8 (Int64.toInt32 p1))))) else (if p0 = (1 : Int32) then ((Int32.toInt64 (Int16.toInt32 (Int32.toInt16 (Int64.toInt32 p1))))) else (if p0 = (2 : Int32) then ((Int32.toInt64 (Int64.toInt32 p1))) else (if p0 = (3 : Int32) then (p1) else (if (lg_cmp p1 (0 : Int64)) = 0 then ((0 : Int64)) else ((1 : Int64)))))))
set_option maxHeartbeats 4000000 in
set_option maxRecDepth 100000 in
theorem c_X9_fit (D : va_G) (cA : Nat → ClassId)  (p0 : Int32) (p1 : Int64) : RO m_X9_fit 0 D cA [.int p0, .long p1] [] (some (.long (F_X9_fit p0 p1))) := by
  obtain ⟨r, h⟩ : ∃ r, F_X9_fit p0 p1 = r := ⟨_, rfl⟩
  rw [h]
  refine RO.ofW gy_X9_fit.2.2 (Nat.le_of_ble_eq_true rfl) ?_
  intro l p e sM m below meth c F hr hlk hK hP hS hAb ls hl
  have hl : lv_has ls 3 [(0, .int p0), (1, .long p1)] := hl
  unfold F_X9_fit at h
  refine lv_iload_n F.1 F.2.1 (dd D_X9_fit 0 rfl) rfl (lv_at hl 0 rfl) ?_
  refine x_ts (tgt := 32) F.1 F.2.1 (0 : Int32) (dd D_X9_fit 1 rfl) h (by decide) (by decide) rfl rfl (fun c1_0 h => ?_) (fun c1_0 h => ?_)
  · refine lv_lload_n F.1 F.2.1 (dd D_X9_fit 2 rfl) rfl (lv_at hl 1 rfl) ?_
    refine lv_l2i (v := (Int64.toInt32 p1)) F.1 F.2.1 (dd D_X9_fit 3 rfl) rfl ?_
    refine lv_i2b (v := (Int8.toInt32 (Int32.toInt8 (Int64.toInt32 p1)))) F.1 F.2.1 (dd D_X9_fit 4 rfl) rfl ?_
    refine lv_i2l (v := (Int32.toInt64 (Int8.toInt32 (Int32.toInt8 (Int64.toInt32 p1))))) F.1 F.2.1 (dd D_X9_fit 5 rfl) rfl ?_
    exact ro_l (R := rmOf 0 0 0) F hr hlk (congrArg (fun z => some (Value.long z)) h) (dd D_X9_fit 6 rfl)
  refine x_ts (tgt := 37) F.1 F.2.1 (1 : Int32) (dd D_X9_fit 1 rfl) h (by decide) (by decide) rfl rfl (fun c1_1 h => ?_) (fun c1_1 h => ?_)
  · refine lv_lload_n F.1 F.2.1 (dd D_X9_fit 7 rfl) rfl (lv_at hl 1 rfl) ?_
    refine lv_l2i (v := (Int64.toInt32 p1)) F.1 F.2.1 (dd D_X9_fit 8 rfl) rfl ?_
    refine lv_i2s (v := (Int16.toInt32 (Int32.toInt16 (Int64.toInt32 p1)))) F.1 F.2.1 (dd D_X9_fit 9 rfl) rfl ?_
    refine lv_i2l (v := (Int32.toInt64 (Int16.toInt32 (Int32.toInt16 (Int64.toInt32 p1))))) F.1 F.2.1 (dd D_X9_fit 10 rfl) rfl ?_
    exact ro_l (R := rmOf 0 0 0) F hr hlk (congrArg (fun z => some (Value.long z)) h) (dd D_X9_fit 11 rfl)
  refine x_ts (tgt := 42) F.1 F.2.1 (2 : Int32) (dd D_X9_fit 1 rfl) h (by decide) (by decide) rfl rfl (fun c1_2 h => ?_) (fun c1_2 h => ?_)
  · refine lv_lload_n F.1 F.2.1 (dd D_X9_fit 12 rfl) rfl (lv_at hl 1 rfl) ?_
    refine lv_l2i (v := (Int64.toInt32 p1)) F.1 F.2.1 (dd D_X9_fit 13 rfl) rfl ?_
    refine lv_i2l (v := (Int32.toInt64 (Int64.toInt32 p1))) F.1 F.2.1 (dd D_X9_fit 14 rfl) rfl ?_
    exact ro_l (R := rmOf 0 0 0) F hr hlk (congrArg (fun z => some (Value.long z)) h) (dd D_X9_fit 15 rfl)
  refine x_ts (tgt := 46) F.1 F.2.1 (3 : Int32) (dd D_X9_fit 1 rfl) h (by decide) (by decide) rfl rfl (fun c1_3 h => ?_) (fun c1_3 h => ?_)
  · refine lv_lload_n F.1 F.2.1 (dd D_X9_fit 16 rfl) rfl (lv_at hl 1 rfl) ?_
    exact ro_l (R := rmOf 0 0 0) F hr hlk (congrArg (fun z => some (Value.long z)) h) (dd D_X9_fit 17 rfl)
  refine lv_tableOut (tgt := 48) F.1 F.2.1 (dd D_X9_fit 1 rfl) (ts_out (lo := 0) (vs := [(0 : Int32), (1 : Int32), (2 : Int32), (3 : Int32)]) tsv_0_4 (by intro v hv; simp only [List.mem_cons, List.not_mem_nil, or_false] at hv; rcases hv with rfl | rfl | rfl | rfl <;> assumption)) rfl ?_
  refine lv_lload_n F.1 F.2.1 (dd D_X9_fit 18 rfl) rfl (lv_at hl 1 rfl) ?_
  refine lv_lconst (v := (0 : Int64)) F.1 F.2.1 (dd D_X9_fit 19 rfl) kl_0 ?_
  refine W.lcmp F.1 F.2.1 (dd D_X9_fit 20 rfl) ?_
  refine x_if_eq (tgt := 58) F.1 F.2.1 (dd D_X9_fit 21 rfl) rfl h (fun c2 h => ?_) (fun c2 h => ?_)
  · refine lv_lconst (v := (0 : Int64)) F.1 F.2.1 (dd D_X9_fit 24 rfl) kl_0 ?_
    exact ro_l (R := rmOf 0 0 0) F hr hlk (congrArg (fun z => some (Value.long z)) h) (dd D_X9_fit 25 rfl)
  · refine lv_lconst (v := (1 : Int64)) F.1 F.2.1 (dd D_X9_fit 22 rfl) kl_1 ?_
    refine lv_goto (tgt := 59) F.1 F.2.1 (dd D_X9_fit 23 rfl) rfl ?_
    exact ro_l (R := rmOf 0 0 0) F hr hlk (congrArg (fun z => some (Value.long z)) h) (dd D_X9_fit 25 rfl)
def F_X9_noRow (n : Nat) (s : MS) (p1 : Int32) : Option (Int32 × MS) := bf (F_X9_in (Int32.toInt64 p1) (0 : Int64) (7 : Int64)) (gd (inb p1 8) ((if ((m_shelf s) (Int32.toNatClampNeg p1)) = (2 : Int32) then (((F_X9_refuse n s (-3 : Int32))).bind fun r7 => some (r7.1, r7.2)) else gd (inb p1 8) ((if ((m_shelf s) (Int32.toNatClampNeg p1)) = 0 then (((F_X9_refuse n s (-4 : Int32))).bind fun r5 => some (r5.1, r5.2)) else some ((0 : Int32), s)))))) ((((F_X9_refuse n s (-2 : Int32))).bind fun r9 => some (r9.1, r9.2)))
set_option maxHeartbeats 4000000 in
set_option maxRecDepth 100000 in
theorem c_X9_noRow (D : va_G) (cA : Nat → ClassId) (am : Nat → Nat) (s : MS) (n : Nat) (p1 : Int32) (r : (Int32 × MS)) (h : F_X9_noRow n s p1 = some r) : RW m_X9_noRow 1 0 0 D cA [.ref (am 0), .int p1] (mW cA am s) (exq (some (.int r.1)) (mW cA am r.2)) := by
  refine RW.ofW gy_X9_noRow.2.2 (Nat.le_of_ble_eq_true rfl) ?_
  intro l p e sM m below meth c A H locs F hr hlk hnm hK hP hD hS hA hAb ls hl
  have hl : lv_has ls 2 [(0, .ref (am 0)), (1, .int p1)] := hl
  unfold F_X9_noRow at h
  refine lv_iload_n F.1 F.2.1 (dd D_X9_noRow 0 rfl) rfl (lv_at hl 1 rfl) ?_
  refine lv_i2l (v := (Int32.toInt64 p1)) F.1 F.2.1 (dd D_X9_noRow 1 rfl) rfl ?_
  refine lv_lconst (v := (0 : Int64)) F.1 F.2.1 (dd D_X9_noRow 2 rfl) kl_0 ?_
  refine lv_ldc2 (own := RX9) (v := (7 : Int64)) F.1 F.2.1 F.2.2.2.1 (F.2.2.2.2 _ (kL_X9_73)) (dd D_X9_noRow 3 rfl) ?_
  refine ro_go (st' := [.int (bI (F_X9_in (Int32.toInt64 p1) (0 : Int64) (7 : Int64)))]) (rS (rest := []) F (c_X9_in D cA (Int32.toInt64 p1) (0 : Int64) (7 : Int64) l) lk_X9_63 (Nat.le_of_ble_eq_true rfl) (preRO hK hS hAb (emP)) rfl hl rfl (Nat.le_of_ble_eq_true rfl) (dd D_X9_noRow 4 rfl) ⟨Nat.le_of_ble_eq_true rfl, Nat.le_of_ble_eq_true rfl⟩) rfl ?_
  refine x_bif_ne (tgt := 19) F.1 F.2.1 (dd D_X9_noRow 5 rfl) rfl h (fun c11 h => ?_) (fun c11 h => ?_)
  · refine lv_aload_n F.1 F.2.1 (dd D_X9_noRow 10 rfl) rfl (lv_at hl 0 rfl) ?_
    refine getF F hK hP lf_X9_7 (0) (mp_0 cA am s) rfl (dd D_X9_noRow 11 rfl) ?_
    refine lv_iload_n F.1 F.2.1 (dd D_X9_noRow 12 rfl) rfl (lv_at hl 1 rfl) ?_
    refine aldI F hK hP (1) (mp_1 cA am s) h (dd D_X9_noRow 13 rfl) (fun z1 h => ?_)
    refine lv_iconst (v := (2 : Int32)) F.1 F.2.1 (dd D_X9_noRow 14 rfl) ki_2 ?_
    refine x_icmp_ne (tgt := 36) F.1 F.2.1 (dd D_X9_noRow 15 rfl) rfl h (fun c2 h => ?_) (fun c2 h => ?_)
    · refine lv_aload_n F.1 F.2.1 (dd D_X9_noRow 20 rfl) rfl (lv_at hl 0 rfl) ?_
      refine getF F hK hP lf_X9_7 (0) (mp_0 cA am s) rfl (dd D_X9_noRow 21 rfl) ?_
      refine lv_iload_n F.1 F.2.1 (dd D_X9_noRow 22 rfl) rfl (lv_at hl 1 rfl) ?_
      refine aldI F hK hP (1) (mp_1 cA am s) h (dd D_X9_noRow 23 rfl) (fun z3 h => ?_)
      refine x_if_ne (tgt := 54) F.1 F.2.1 (dd D_X9_noRow 24 rfl) rfl h (fun c4 h => ?_) (fun c4 h => ?_)
      · refine lv_iconst (v := (0 : Int32)) F.1 F.2.1 (dd D_X9_noRow 29 rfl) ki_0 ?_
        obtain rfl := Option.some.inj h
        exact rw_i (R := rmOf 1 0 0) F hP hD hS hr hlk ⟨Nat.le_of_ble_eq_true rfl, Nat.le_of_ble_eq_true rfl⟩ ⟨rfl, rfl⟩ (dd D_X9_noRow 30 rfl)
      · refine lv_aload_n F.1 F.2.1 (dd D_X9_noRow 25 rfl) rfl (lv_at hl 0 rfl) ?_
        refine lv_bipush (v := (-4 : Int32)) F.1 F.2.1 (dd D_X9_noRow 26 rfl) kb_m4 ?_
        obtain ⟨r5, e6, h⟩ := Option.bind_eq_some_iff.mp h
        refine rwe_all (st' := [.int r5.1]) hD hS hA (rV (rest := []) F (c_X9_refuse D cA am s n (-4 : Int32) r5 e6 l H.size) lk_X9_79 (Nat.le_of_ble_eq_true rfl) (preRW hK hS hAb hP hD) (rcv_9 hK hP (q0 := (0)) (mp_0 cA am s)) rfl hl rfl (Nat.le_of_ble_eq_true rfl) (dd D_X9_noRow 27 rfl) ⟨Nat.le_of_ble_eq_true rfl, Nat.le_of_ble_eq_true rfl⟩) rfl (fun H locs hP hD hS => ?_)
        refine lv_goto (tgt := 55) F.1 F.2.1 (dd D_X9_noRow 28 rfl) rfl ?_
        obtain rfl := Option.some.inj h
        exact rw_i (R := rmOf 1 0 0) F hP hD hS hr hlk ⟨Nat.le_of_ble_eq_true rfl, Nat.le_of_ble_eq_true rfl⟩ ⟨rfl, rfl⟩ (dd D_X9_noRow 30 rfl)
    · refine lv_aload_n F.1 F.2.1 (dd D_X9_noRow 16 rfl) rfl (lv_at hl 0 rfl) ?_
      refine lv_bipush (v := (-3 : Int32)) F.1 F.2.1 (dd D_X9_noRow 17 rfl) kb_m3 ?_
      obtain ⟨r7, e8, h⟩ := Option.bind_eq_some_iff.mp h
      refine rwe_all (st' := [.int r7.1]) hD hS hA (rV (rest := []) F (c_X9_refuse D cA am s n (-3 : Int32) r7 e8 l H.size) lk_X9_79 (Nat.le_of_ble_eq_true rfl) (preRW hK hS hAb hP hD) (rcv_9 hK hP (q0 := (0)) (mp_0 cA am s)) rfl hl rfl (Nat.le_of_ble_eq_true rfl) (dd D_X9_noRow 18 rfl) ⟨Nat.le_of_ble_eq_true rfl, Nat.le_of_ble_eq_true rfl⟩) rfl (fun H locs hP hD hS => ?_)
      obtain rfl := Option.some.inj h
      exact rw_i (R := rmOf 1 0 0) F hP hD hS hr hlk ⟨Nat.le_of_ble_eq_true rfl, Nat.le_of_ble_eq_true rfl⟩ ⟨rfl, rfl⟩ (dd D_X9_noRow 19 rfl)
  · refine lv_aload_n F.1 F.2.1 (dd D_X9_noRow 6 rfl) rfl (lv_at hl 0 rfl) ?_
    refine lv_bipush (v := (-2 : Int32)) F.1 F.2.1 (dd D_X9_noRow 7 rfl) kb_m2 ?_
    obtain ⟨r9, e10, h⟩ := Option.bind_eq_some_iff.mp h
    refine rwe_all (st' := [.int r9.1]) hD hS hA (rV (rest := []) F (c_X9_refuse D cA am s n (-2 : Int32) r9 e10 l H.size) lk_X9_79 (Nat.le_of_ble_eq_true rfl) (preRW hK hS hAb hP hD) (rcv_9 hK hP (q0 := (0)) (mp_0 cA am s)) rfl hl rfl (Nat.le_of_ble_eq_true rfl) (dd D_X9_noRow 8 rfl) ⟨Nat.le_of_ble_eq_true rfl, Nat.le_of_ble_eq_true rfl⟩) rfl (fun H locs hP hD hS => ?_)
    obtain rfl := Option.some.inj h
    exact rw_i (R := rmOf 1 0 0) F hP hD hS hr hlk ⟨Nat.le_of_ble_eq_true rfl, Nat.le_of_ble_eq_true rfl⟩ ⟨rfl, rfl⟩ (dd D_X9_noRow 9 rfl)
def F_X9_set (n : Nat) (s : MS) (p1 : Int32) (p2 : Int32) (p3 : Int64) : Option (Int32 × MS) := (((F_X9_noRow n s p1)).bind fun r1 => (if r1.1 = 0 then gd (inb p1 8) (bf (F_X9_in (Int32.toInt64 p2) (0 : Int64) (Int32.toInt64 (((m_rowSize r1.2) (Int32.toNatClampNeg p1)) - (1 : Int32)))) (gd (inb p1 8) (gd (inb p1 8) (gd (inb p2 40) (some ((1 : Int32), (m_set_rows r1.2 (va_up (m_rows r1.2) (Int32.toNatClampNeg p1) (vp_updL (m_rows r1.2 (Int32.toNatClampNeg p1)) (Int32.toNatClampNeg p2) (F_X9_fit ((m_rowSort r1.2) (Int32.toNatClampNeg p1)) p3))))))))) ((((F_X9_refuse n r1.2 (-2 : Int32))).bind fun r9 => some (r9.1, r9.2)))) else some (r1.1, r1.2)))
set_option maxHeartbeats 4000000 in
set_option maxRecDepth 100000 in
theorem c_X9_set (D : va_G) (cA : Nat → ClassId) (am : Nat → Nat) (s : MS) (n : Nat) (p1 : Int32) (p2 : Int32) (p3 : Int64) (r : (Int32 × MS)) (h : F_X9_set n s p1 p2 p3 = some r) : RW m_X9_set 2 0 0 D cA [.ref (am 0), .int p1, .int p2, .long p3] (mW cA am s) (exq (some (.int r.1)) (mW cA am r.2)) := by
  refine RW.ofW gy_X9_set.2.2 (Nat.le_of_ble_eq_true rfl) ?_
  intro l p e sM m below meth c A H locs F hr hlk hnm hK hP hD hS hA hAb ls hl
  have hl : lv_has ls 6 [(0, .ref (am 0)), (1, .int p1), (2, .int p2), (3, .long p3)] := hl
  unfold F_X9_set at h
  refine lv_aload_n F.1 F.2.1 (dd D_X9_set 0 rfl) rfl (lv_at hl 0 rfl) ?_
  refine lv_iload_n F.1 F.2.1 (dd D_X9_set 1 rfl) rfl (lv_at hl 1 rfl) ?_
  obtain ⟨r1, e2, h⟩ := Option.bind_eq_some_iff.mp h
  refine rwe_all (st' := [.int r1.1]) hD hS hA (rV (rest := []) F (c_X9_noRow D cA am s n p1 r1 e2 l H.size) lk_X9_83 (Nat.le_of_ble_eq_true rfl) (preRW hK hS hAb hP hD) (rcv_9 hK hP (q0 := (0)) (mp_0 cA am s)) rfl hl rfl (Nat.le_of_ble_eq_true rfl) (dd D_X9_set 2 rfl) ⟨Nat.le_of_ble_eq_true rfl, Nat.le_of_ble_eq_true rfl⟩) rfl (fun H locs hP hD hS => ?_)
  refine lv_istore (lv' := [(5, .int r1.1), (0, .ref (am 0)), (1, .int p1), (2, .int p2), (3, .long p3)]) F.1 F.2.1 (dd D_X9_set 3 rfl) hl (Nat.le_of_ble_eq_true rfl) rfl (fun ls hl => ?_)
  refine lv_iload F.1 F.2.1 (dd D_X9_set 4 rfl) (lv_at hl 0 rfl) ?_
  refine x_if_eq (tgt := 15) F.1 F.2.1 (dd D_X9_set 5 rfl) rfl h (fun c3 h => ?_) (fun c3 h => ?_)
  · refine lv_iload_n F.1 F.2.1 (dd D_X9_set 8 rfl) rfl (lv_at hl 3 rfl) ?_
    refine lv_i2l (v := (Int32.toInt64 p2)) F.1 F.2.1 (dd D_X9_set 9 rfl) rfl ?_
    refine lv_lconst (v := (0 : Int64)) F.1 F.2.1 (dd D_X9_set 10 rfl) kl_0 ?_
    refine lv_aload_n F.1 F.2.1 (dd D_X9_set 11 rfl) rfl (lv_at hl 1 rfl) ?_
    refine getF F hK hP lf_X9_16 (0) (mp_0 cA am r1.2) rfl (dd D_X9_set 12 rfl) ?_
    refine lv_iload_n F.1 F.2.1 (dd D_X9_set 13 rfl) rfl (lv_at hl 2 rfl) ?_
    refine aldI F hK hP (3) (mp_3 cA am r1.2) h (dd D_X9_set 14 rfl) (fun z4 h => ?_)
    refine lv_iconst (v := (1 : Int32)) F.1 F.2.1 (dd D_X9_set 15 rfl) ki_1 ?_
    refine lv_isub F.1 F.2.1 (dd D_X9_set 16 rfl) ?_
    refine lv_i2l (v := (Int32.toInt64 (((m_rowSize r1.2) (Int32.toNatClampNeg p1)) - (1 : Int32)))) F.1 F.2.1 (dd D_X9_set 17 rfl) rfl ?_
    refine ro_go (st' := [.int (bI (F_X9_in (Int32.toInt64 p2) (0 : Int64) (Int32.toInt64 (((m_rowSize r1.2) (Int32.toNatClampNeg p1)) - (1 : Int32)))))]) (rS (rest := []) F (c_X9_in D cA (Int32.toInt64 p2) (0 : Int64) (Int32.toInt64 (((m_rowSize r1.2) (Int32.toNatClampNeg p1)) - (1 : Int32))) l) lk_X9_63 (Nat.le_of_ble_eq_true rfl) (preRO hK hS hAb (emP)) rfl hl rfl (Nat.le_of_ble_eq_true rfl) (dd D_X9_set 18 rfl) ⟨Nat.le_of_ble_eq_true rfl, Nat.le_of_ble_eq_true rfl⟩) rfl ?_
    refine x_bif_ne (tgt := 40) F.1 F.2.1 (dd D_X9_set 19 rfl) rfl h (fun c11 h => ?_) (fun c11 h => ?_)
    · refine lv_aload_n F.1 F.2.1 (dd D_X9_set 24 rfl) rfl (lv_at hl 1 rfl) ?_
      refine getF F hK hP lf_X9_21 (0) (mp_0 cA am r1.2) rfl (dd D_X9_set 25 rfl) ?_
      refine lv_iload_n F.1 F.2.1 (dd D_X9_set 26 rfl) rfl (lv_at hl 2 rfl) ?_
      refine aldA (g := fun j => am (5+j)) F hK hP (4) (mp_4 cA am r1.2) 5 rfl (fun _ => rfl) h (dd D_X9_set 27 rfl) (fun z5 h => ?_)
      have hk6 : (Int32.toNatClampNeg p1) < 8 := inb_lt z5
      refine lv_iload_n F.1 F.2.1 (dd D_X9_set 28 rfl) rfl (lv_at hl 3 rfl) ?_
      refine lv_aload_n F.1 F.2.1 (dd D_X9_set 29 rfl) rfl (lv_at hl 1 rfl) ?_
      refine getF F hK hP lf_X9_13 (0) (mp_0 cA am r1.2) rfl (dd D_X9_set 30 rfl) ?_
      refine lv_iload_n F.1 F.2.1 (dd D_X9_set 31 rfl) rfl (lv_at hl 2 rfl) ?_
      refine aldI F hK hP (2) (mp_2 cA am r1.2) h (dd D_X9_set 32 rfl) (fun z7 h => ?_)
      refine lv_lload_n F.1 F.2.1 (dd D_X9_set 33 rfl) rfl (lv_at hl 4 rfl) ?_
      refine ro_go (st' := [.long (F_X9_fit ((m_rowSort r1.2) (Int32.toNatClampNeg p1)) p3), .int p2, .ref (am (5+(Int32.toNatClampNeg p1)))]) (rS (rest := [.int p2, .ref (am (5+(Int32.toNatClampNeg p1)))]) F (c_X9_fit D cA ((m_rowSort r1.2) (Int32.toNatClampNeg p1)) p3 l) lk_X9_86 (Nat.le_of_ble_eq_true rfl) (preRO hK hS hAb (emP)) rfl hl rfl (Nat.le_of_ble_eq_true rfl) (dd D_X9_set 34 rfl) ⟨Nat.le_of_ble_eq_true rfl, Nat.le_of_ble_eq_true rfl⟩) rfl ?_
      refine astL F hK hP hD hS (5+(Int32.toNatClampNeg p1)) (mp_row cA am r1.2 (Int32.toNatClampNeg p1) hk6) h (ws' := (mW cA am (m_set_rows r1.2 (va_up (m_rows r1.2) (Int32.toNatClampNeg p1) (vp_updL (m_rows r1.2 (Int32.toNatClampNeg p1)) (Int32.toNatClampNeg p2) (F_X9_fit ((m_rowSort r1.2) (Int32.toNatClampNeg p1)) p3)))))) (ms_row cA am r1.2 (vp_updL (m_rows r1.2 (Int32.toNatClampNeg p1)) (Int32.toNatClampNeg p2) (F_X9_fit ((m_rowSort r1.2) (Int32.toNatClampNeg p1)) p3)) (Int32.toNatClampNeg p1) hk6) (dd D_X9_set 35 rfl) (fun z8 h H locs hP hD hS => ?_)
      refine lv_iconst (v := (1 : Int32)) F.1 F.2.1 (dd D_X9_set 36 rfl) ki_1 ?_
      obtain rfl := Option.some.inj h
      exact rw_i (R := rmOf 2 0 0) F hP hD hS hr hlk ⟨Nat.le_of_ble_eq_true rfl, Nat.le_of_ble_eq_true rfl⟩ ⟨rfl, rfl⟩ (dd D_X9_set 37 rfl)
    · refine lv_aload_n F.1 F.2.1 (dd D_X9_set 20 rfl) rfl (lv_at hl 1 rfl) ?_
      refine lv_bipush (v := (-2 : Int32)) F.1 F.2.1 (dd D_X9_set 21 rfl) kb_m2 ?_
      obtain ⟨r9, e10, h⟩ := Option.bind_eq_some_iff.mp h
      refine rwe_all (st' := [.int r9.1]) hD hS hA (rV (rest := []) F (c_X9_refuse D cA am r1.2 n (-2 : Int32) r9 e10 l H.size) lk_X9_79 (Nat.le_of_ble_eq_true rfl) (preRW hK hS hAb hP hD) (rcv_9 hK hP (q0 := (0)) (mp_0 cA am r1.2)) rfl hl rfl (Nat.le_of_ble_eq_true rfl) (dd D_X9_set 22 rfl) ⟨Nat.le_of_ble_eq_true rfl, Nat.le_of_ble_eq_true rfl⟩) rfl (fun H locs hP hD hS => ?_)
      obtain rfl := Option.some.inj h
      exact rw_i (R := rmOf 2 0 0) F hP hD hS hr hlk ⟨Nat.le_of_ble_eq_true rfl, Nat.le_of_ble_eq_true rfl⟩ ⟨rfl, rfl⟩ (dd D_X9_set 23 rfl)
  · refine lv_iload F.1 F.2.1 (dd D_X9_set 6 rfl) (lv_at hl 0 rfl) ?_
    obtain rfl := Option.some.inj h
    exact rw_i (R := rmOf 2 0 0) F hP hD hS hr hlk ⟨Nat.le_of_ble_eq_true rfl, Nat.le_of_ble_eq_true rfl⟩ ⟨rfl, rfl⟩ (dd D_X9_set 7 rfl)
def F_X9_copy_L225 (n : Nat) (K : Int32 → MS → Option (Int32 × MS)) (v1 : Int32) (v2 : Int32) (v3 : Int32) (v4 : Int32) (v5 : Int32) : Nat → Int32 → MS → Option (Int32 × MS)
  | 0, _, _ => none
  | kf + 1, w6, u0 => (if v5 ≤ w6 then some (v5, u0) else gd (inb v2 8) (gd (inb w6 40) (gd (inb (v4 + w6) 40) (F_X9_copy_L225 n K v1 v2 v3 v4 v5 kf (w6 + (1 : Int32)) (m_set_rows u0 (va_up (m_rows u0) (Int32.toNatClampNeg v2) (vp_updL (m_rows u0 (Int32.toNatClampNeg v2)) (Int32.toNatClampNeg (v4 + w6)) ((m_moved u0) (Int32.toNatClampNeg w6)))))))))
def F_X9_copy_L191 (n : Nat) (v1 : Int32) (v2 : Int32) (v3 : Int32) (v4 : Int32) (v5 : Int32) : Nat → Int32 → MS → Option (Int32 × MS)
  | 0, _, _ => none
  | kf + 1, w6, u0 => (if v5 ≤ w6 then F_X9_copy_L225 n (F_X9_copy_L191 n v1 v2 v3 v4 v5 kf) v1 v2 v3 v4 v5 n (0 : Int32) u0 else gd (inb v1 8) (gd (inb (v3 + w6) 40) (gd (inb w6 40) (F_X9_copy_L191 n v1 v2 v3 v4 v5 kf (w6 + (1 : Int32)) (m_set_moved u0 (vp_updL (m_moved u0) (Int32.toNatClampNeg w6) ((m_rows u0 (Int32.toNatClampNeg v1)) (Int32.toNatClampNeg (v3 + w6)))))))))
def F_X9_copy (n : Nat) (s : MS) (p1 : Int32) (p2 : Int32) (p3 : Int32) (p4 : Int32) (p5 : Int32) : Option (Int32 × MS) := bf (F_X9_in (Int32.toInt64 p1) (0 : Int64) (7 : Int64)) (bf (F_X9_in (Int32.toInt64 p2) (0 : Int64) (7 : Int64)) (gd (inb p1 8) ((if ((m_shelf s) (Int32.toNatClampNeg p1)) = (2 : Int32) then (((F_X9_refuse n s (-3 : Int32))).bind fun r5 => some (r5.1, r5.2)) else gd (inb p2 8) ((if ((m_shelf s) (Int32.toNatClampNeg p2)) = (2 : Int32) then (((F_X9_refuse n s (-3 : Int32))).bind fun r9 => some (r9.1, r9.2)) else gd (inb p1 8) ((if ((m_shelf s) (Int32.toNatClampNeg p1)) = (1 : Int32) then gd (inb p2 8) ((if ((m_shelf s) (Int32.toNatClampNeg p2)) = (1 : Int32) then gd (inb p1 8) (gd (inb p2 8) ((if ((m_rowSort s) (Int32.toNatClampNeg p1)) = ((m_rowSort s) (Int32.toNatClampNeg p2)) then gd (inb p1 8) ((if ((m_shelf s) (Int32.toNatClampNeg p1)) = 0 then (((F_X9_refuse n s (-4 : Int32))).bind fun r120 => some (r120.1, r120.2)) else gd (inb p2 8) ((if ((m_shelf s) (Int32.toNatClampNeg p2)) = 0 then (((F_X9_refuse n s (-4 : Int32))).bind fun r161 => some (r161.1, r161.2)) else (if p5 < 0 then (((F_X9_refuse n s (-2 : Int32))).bind fun r125 => some (r125.1, r125.2)) else (if p3 < 0 then (((F_X9_refuse n s (-2 : Int32))).bind fun r128 => some (r128.1, r128.2)) else (if p4 < 0 then (((F_X9_refuse n s (-2 : Int32))).bind fun r131 => some (r131.1, r131.2)) else gd (inb p1 8) ((if ((m_rowSize s) (Int32.toNatClampNeg p1)) < p5 then (((F_X9_refuse n s (-2 : Int32))).bind fun r135 => some (r135.1, r135.2)) else gd (inb p2 8) ((if ((m_rowSize s) (Int32.toNatClampNeg p2)) < p5 then (((F_X9_refuse n s (-2 : Int32))).bind fun r139 => some (r139.1, r139.2)) else gd (inb p1 8) ((if (((m_rowSize s) (Int32.toNatClampNeg p1)) - p5) < p3 then (((F_X9_refuse n s (-2 : Int32))).bind fun r143 => some (r143.1, r143.2)) else gd (inb p2 8) ((if p4 ≤ (((m_rowSize s) (Int32.toNatClampNeg p2)) - p5) then F_X9_copy_L191 n p1 p2 p3 p4 p5 n (0 : Int32) s else (((F_X9_refuse n s (-2 : Int32))).bind fun r159 => some (r159.1, r159.2))))))))))))))))) else (((F_X9_refuse n s (-3 : Int32))).bind fun r163 => some (r163.1, r163.2))))) else gd (inb p1 8) ((if ((m_shelf s) (Int32.toNatClampNeg p1)) = 0 then (((F_X9_refuse n s (-4 : Int32))).bind fun r72 => some (r72.1, r72.2)) else gd (inb p2 8) ((if ((m_shelf s) (Int32.toNatClampNeg p2)) = 0 then (((F_X9_refuse n s (-4 : Int32))).bind fun r113 => some (r113.1, r113.2)) else (if p5 < 0 then (((F_X9_refuse n s (-2 : Int32))).bind fun r77 => some (r77.1, r77.2)) else (if p3 < 0 then (((F_X9_refuse n s (-2 : Int32))).bind fun r80 => some (r80.1, r80.2)) else (if p4 < 0 then (((F_X9_refuse n s (-2 : Int32))).bind fun r83 => some (r83.1, r83.2)) else gd (inb p1 8) ((if ((m_rowSize s) (Int32.toNatClampNeg p1)) < p5 then (((F_X9_refuse n s (-2 : Int32))).bind fun r87 => some (r87.1, r87.2)) else gd (inb p2 8) ((if ((m_rowSize s) (Int32.toNatClampNeg p2)) < p5 then (((F_X9_refuse n s (-2 : Int32))).bind fun r91 => some (r91.1, r91.2)) else gd (inb p1 8) ((if (((m_rowSize s) (Int32.toNatClampNeg p1)) - p5) < p3 then (((F_X9_refuse n s (-2 : Int32))).bind fun r95 => some (r95.1, r95.2)) else gd (inb p2 8) ((if p4 ≤ (((m_rowSize s) (Int32.toNatClampNeg p2)) - p5) then F_X9_copy_L191 n p1 p2 p3 p4 p5 n (0 : Int32) s else (((F_X9_refuse n s (-2 : Int32))).bind fun r111 => some (r111.1, r111.2))))))))))))))))))) else gd (inb p1 8) ((if ((m_shelf s) (Int32.toNatClampNeg p1)) = 0 then (((F_X9_refuse n s (-4 : Int32))).bind fun r15 => some (r15.1, r15.2)) else gd (inb p2 8) ((if ((m_shelf s) (Int32.toNatClampNeg p2)) = 0 then (((F_X9_refuse n s (-4 : Int32))).bind fun r66 => some (r66.1, r66.2)) else (if p5 < 0 then (((F_X9_refuse n s (-2 : Int32))).bind fun r20 => some (r20.1, r20.2)) else (if p3 < 0 then (((F_X9_refuse n s (-2 : Int32))).bind fun r23 => some (r23.1, r23.2)) else (if p4 < 0 then (((F_X9_refuse n s (-2 : Int32))).bind fun r26 => some (r26.1, r26.2)) else gd (inb p1 8) ((if ((m_rowSize s) (Int32.toNatClampNeg p1)) < p5 then (((F_X9_refuse n s (-2 : Int32))).bind fun r30 => some (r30.1, r30.2)) else gd (inb p2 8) ((if ((m_rowSize s) (Int32.toNatClampNeg p2)) < p5 then (((F_X9_refuse n s (-2 : Int32))).bind fun r34 => some (r34.1, r34.2)) else gd (inb p1 8) ((if (((m_rowSize s) (Int32.toNatClampNeg p1)) - p5) < p3 then (((F_X9_refuse n s (-2 : Int32))).bind fun r38 => some (r38.1, r38.2)) else gd (inb p2 8) ((if p4 ≤ (((m_rowSize s) (Int32.toNatClampNeg p2)) - p5) then F_X9_copy_L191 n p1 p2 p3 p4 p5 n (0 : Int32) s else (((F_X9_refuse n s (-2 : Int32))).bind fun r64 => some (r64.1, r64.2)))))))))))))))))))))))) ((((F_X9_refuse n s (-2 : Int32))).bind fun r165 => some (r165.1, r165.2)))) ((((F_X9_refuse n s (-2 : Int32))).bind fun r1 => some (r1.1, r1.2)))
set_option maxHeartbeats 4000000 in
set_option maxRecDepth 100000 in
theorem c_X9_copy (D : va_G) (cA : Nat → ClassId) (am : Nat → Nat) (s : MS) (n : Nat) (p1 : Int32) (p2 : Int32) (p3 : Int32) (p4 : Int32) (p5 : Int32) (r : (Int32 × MS)) (h : F_X9_copy n s p1 p2 p3 p4 p5 = some r) : RW m_X9_copy 1 0 0 D cA [.ref (am 0), .int p1, .int p2, .int p3, .int p4, .int p5] (mW cA am s) (exq (some (.int r.1)) (mW cA am r.2)) := by
  refine RW.ofW gy_X9_copy.2.2 (Nat.le_of_ble_eq_true rfl) ?_
  intro l p e sM m below meth c A H locs F hr hlk hnm hK hP hD hS hA hAb ls hl
  have hl : lv_has ls 7 [(0, .ref (am 0)), (1, .int p1), (2, .int p2), (3, .int p3), (4, .int p4), (5, .int p5)] := hl
  unfold F_X9_copy at h
  refine lv_iload_n F.1 F.2.1 (dd D_X9_copy 0 rfl) rfl (lv_at hl 1 rfl) ?_
  refine lv_i2l (v := (Int32.toInt64 p1)) F.1 F.2.1 (dd D_X9_copy 1 rfl) rfl ?_
  refine lv_lconst (v := (0 : Int64)) F.1 F.2.1 (dd D_X9_copy 2 rfl) kl_0 ?_
  refine lv_ldc2 (own := RX9) (v := (7 : Int64)) F.1 F.2.1 F.2.2.2.1 (F.2.2.2.2 _ (kL_X9_73)) (dd D_X9_copy 3 rfl) ?_
  refine ro_go (st' := [.int (bI (F_X9_in (Int32.toInt64 p1) (0 : Int64) (7 : Int64)))]) (rS (rest := []) F (c_X9_in D cA (Int32.toInt64 p1) (0 : Int64) (7 : Int64) l) lk_X9_63 (Nat.le_of_ble_eq_true rfl) (preRO hK hS hAb (emP)) rfl hl rfl (Nat.le_of_ble_eq_true rfl) (dd D_X9_copy 4 rfl) ⟨Nat.le_of_ble_eq_true rfl, Nat.le_of_ble_eq_true rfl⟩) rfl ?_
  refine x_bif_eq (tgt := 24) F.1 F.2.1 (dd D_X9_copy 5 rfl) rfl h (fun c168 h => ?_) (fun c168 h => ?_)
  · refine lv_aload_n F.1 F.2.1 (dd D_X9_copy 12 rfl) rfl (lv_at hl 0 rfl) ?_
    refine lv_bipush (v := (-2 : Int32)) F.1 F.2.1 (dd D_X9_copy 13 rfl) kb_m2 ?_
    obtain ⟨r1, e2, h⟩ := Option.bind_eq_some_iff.mp h
    refine rwe_all (st' := [.int r1.1]) hD hS hA (rV (rest := []) F (c_X9_refuse D cA am s n (-2 : Int32) r1 e2 l H.size) lk_X9_79 (Nat.le_of_ble_eq_true rfl) (preRW hK hS hAb hP hD) (rcv_9 hK hP (q0 := (0)) (mp_0 cA am s)) rfl hl rfl (Nat.le_of_ble_eq_true rfl) (dd D_X9_copy 14 rfl) ⟨Nat.le_of_ble_eq_true rfl, Nat.le_of_ble_eq_true rfl⟩) rfl (fun H locs hP hD hS => ?_)
    obtain rfl := Option.some.inj h
    exact rw_i (R := rmOf 1 0 0) F hP hD hS hr hlk ⟨Nat.le_of_ble_eq_true rfl, Nat.le_of_ble_eq_true rfl⟩ ⟨rfl, rfl⟩ (dd D_X9_copy 15 rfl)
  · refine lv_iload_n F.1 F.2.1 (dd D_X9_copy 6 rfl) rfl (lv_at hl 2 rfl) ?_
    refine lv_i2l (v := (Int32.toInt64 p2)) F.1 F.2.1 (dd D_X9_copy 7 rfl) rfl ?_
    refine lv_lconst (v := (0 : Int64)) F.1 F.2.1 (dd D_X9_copy 8 rfl) kl_0 ?_
    refine lv_ldc2 (own := RX9) (v := (7 : Int64)) F.1 F.2.1 F.2.2.2.1 (F.2.2.2.2 _ (kL_X9_73)) (dd D_X9_copy 9 rfl) ?_
    refine ro_go (st' := [.int (bI (F_X9_in (Int32.toInt64 p2) (0 : Int64) (7 : Int64)))]) (rS (rest := []) F (c_X9_in D cA (Int32.toInt64 p2) (0 : Int64) (7 : Int64) l) lk_X9_63 (Nat.le_of_ble_eq_true rfl) (preRO hK hS hAb (emP)) rfl hl rfl (Nat.le_of_ble_eq_true rfl) (dd D_X9_copy 10 rfl) ⟨Nat.le_of_ble_eq_true rfl, Nat.le_of_ble_eq_true rfl⟩) rfl ?_
    refine x_bif_ne (tgt := 31) F.1 F.2.1 (dd D_X9_copy 11 rfl) rfl h (fun c167 h => ?_) (fun c167 h => ?_)
    · refine lv_aload_n F.1 F.2.1 (dd D_X9_copy 16 rfl) rfl (lv_at hl 0 rfl) ?_
      refine getF F hK hP lf_X9_7 (0) (mp_0 cA am s) rfl (dd D_X9_copy 17 rfl) ?_
      refine lv_iload_n F.1 F.2.1 (dd D_X9_copy 18 rfl) rfl (lv_at hl 1 rfl) ?_
      refine aldI F hK hP (1) (mp_1 cA am s) h (dd D_X9_copy 19 rfl) (fun z3 h => ?_)
      refine lv_iconst (v := (2 : Int32)) F.1 F.2.1 (dd D_X9_copy 20 rfl) ki_2 ?_
      refine x_icmp_eq (tgt := 86) F.1 F.2.1 (dd D_X9_copy 21 rfl) rfl h (fun c4 h => ?_) (fun c4 h => ?_)
      · refine lv_aload_n F.1 F.2.1 (dd D_X9_copy 49 rfl) rfl (lv_at hl 0 rfl) ?_
        refine lv_bipush (v := (-3 : Int32)) F.1 F.2.1 (dd D_X9_copy 50 rfl) kb_m3 ?_
        obtain ⟨r5, e6, h⟩ := Option.bind_eq_some_iff.mp h
        refine rwe_all (st' := [.int r5.1]) hD hS hA (rV (rest := []) F (c_X9_refuse D cA am s n (-3 : Int32) r5 e6 l H.size) lk_X9_79 (Nat.le_of_ble_eq_true rfl) (preRW hK hS hAb hP hD) (rcv_9 hK hP (q0 := (0)) (mp_0 cA am s)) rfl hl rfl (Nat.le_of_ble_eq_true rfl) (dd D_X9_copy 51 rfl) ⟨Nat.le_of_ble_eq_true rfl, Nat.le_of_ble_eq_true rfl⟩) rfl (fun H locs hP hD hS => ?_)
        obtain rfl := Option.some.inj h
        exact rw_i (R := rmOf 1 0 0) F hP hD hS hr hlk ⟨Nat.le_of_ble_eq_true rfl, Nat.le_of_ble_eq_true rfl⟩ ⟨rfl, rfl⟩ (dd D_X9_copy 52 rfl)
      · refine lv_aload_n F.1 F.2.1 (dd D_X9_copy 22 rfl) rfl (lv_at hl 0 rfl) ?_
        refine getF F hK hP lf_X9_7 (0) (mp_0 cA am s) rfl (dd D_X9_copy 23 rfl) ?_
        refine lv_iload_n F.1 F.2.1 (dd D_X9_copy 24 rfl) rfl (lv_at hl 2 rfl) ?_
        refine aldI F hK hP (1) (mp_1 cA am s) h (dd D_X9_copy 25 rfl) (fun z7 h => ?_)
        refine lv_iconst (v := (2 : Int32)) F.1 F.2.1 (dd D_X9_copy 26 rfl) ki_2 ?_
        refine x_icmp_eq (tgt := 86) F.1 F.2.1 (dd D_X9_copy 27 rfl) rfl h (fun c8 h => ?_) (fun c8 h => ?_)
        · refine lv_aload_n F.1 F.2.1 (dd D_X9_copy 49 rfl) rfl (lv_at hl 0 rfl) ?_
          refine lv_bipush (v := (-3 : Int32)) F.1 F.2.1 (dd D_X9_copy 50 rfl) kb_m3 ?_
          obtain ⟨r9, e10, h⟩ := Option.bind_eq_some_iff.mp h
          refine rwe_all (st' := [.int r9.1]) hD hS hA (rV (rest := []) F (c_X9_refuse D cA am s n (-3 : Int32) r9 e10 l H.size) lk_X9_79 (Nat.le_of_ble_eq_true rfl) (preRW hK hS hAb hP hD) (rcv_9 hK hP (q0 := (0)) (mp_0 cA am s)) rfl hl rfl (Nat.le_of_ble_eq_true rfl) (dd D_X9_copy 51 rfl) ⟨Nat.le_of_ble_eq_true rfl, Nat.le_of_ble_eq_true rfl⟩) rfl (fun H locs hP hD hS => ?_)
          obtain rfl := Option.some.inj h
          exact rw_i (R := rmOf 1 0 0) F hP hD hS hr hlk ⟨Nat.le_of_ble_eq_true rfl, Nat.le_of_ble_eq_true rfl⟩ ⟨rfl, rfl⟩ (dd D_X9_copy 52 rfl)
        · refine lv_aload_n F.1 F.2.1 (dd D_X9_copy 28 rfl) rfl (lv_at hl 0 rfl) ?_
          refine getF F hK hP lf_X9_7 (0) (mp_0 cA am s) rfl (dd D_X9_copy 29 rfl) ?_
          refine lv_iload_n F.1 F.2.1 (dd D_X9_copy 30 rfl) rfl (lv_at hl 1 rfl) ?_
          refine aldI F hK hP (1) (mp_1 cA am s) h (dd D_X9_copy 31 rfl) (fun z11 h => ?_)
          refine lv_iconst (v := (1 : Int32)) F.1 F.2.1 (dd D_X9_copy 32 rfl) ki_1 ?_
          refine x_icmp_ne (tgt := 93) F.1 F.2.1 (dd D_X9_copy 33 rfl) rfl h (fun c12 h => ?_) (fun c12 h => ?_)
          · refine lv_aload_n F.1 F.2.1 (dd D_X9_copy 53 rfl) rfl (lv_at hl 0 rfl) ?_
            refine getF F hK hP lf_X9_7 (0) (mp_0 cA am s) rfl (dd D_X9_copy 54 rfl) ?_
            refine lv_iload_n F.1 F.2.1 (dd D_X9_copy 55 rfl) rfl (lv_at hl 1 rfl) ?_
            refine aldI F hK hP (1) (mp_1 cA am s) h (dd D_X9_copy 56 rfl) (fun z13 h => ?_)
            refine x_if_eq (tgt := 111) F.1 F.2.1 (dd D_X9_copy 57 rfl) rfl h (fun c14 h => ?_) (fun c14 h => ?_)
            · refine lv_aload_n F.1 F.2.1 (dd D_X9_copy 63 rfl) rfl (lv_at hl 0 rfl) ?_
              refine lv_bipush (v := (-4 : Int32)) F.1 F.2.1 (dd D_X9_copy 64 rfl) kb_m4 ?_
              obtain ⟨r15, e16, h⟩ := Option.bind_eq_some_iff.mp h
              refine rwe_all (st' := [.int r15.1]) hD hS hA (rV (rest := []) F (c_X9_refuse D cA am s n (-4 : Int32) r15 e16 l H.size) lk_X9_79 (Nat.le_of_ble_eq_true rfl) (preRW hK hS hAb hP hD) (rcv_9 hK hP (q0 := (0)) (mp_0 cA am s)) rfl hl rfl (Nat.le_of_ble_eq_true rfl) (dd D_X9_copy 65 rfl) ⟨Nat.le_of_ble_eq_true rfl, Nat.le_of_ble_eq_true rfl⟩) rfl (fun H locs hP hD hS => ?_)
              obtain rfl := Option.some.inj h
              exact rw_i (R := rmOf 1 0 0) F hP hD hS hr hlk ⟨Nat.le_of_ble_eq_true rfl, Nat.le_of_ble_eq_true rfl⟩ ⟨rfl, rfl⟩ (dd D_X9_copy 66 rfl)
            · refine lv_aload_n F.1 F.2.1 (dd D_X9_copy 58 rfl) rfl (lv_at hl 0 rfl) ?_
              refine getF F hK hP lf_X9_7 (0) (mp_0 cA am s) rfl (dd D_X9_copy 59 rfl) ?_
              refine lv_iload_n F.1 F.2.1 (dd D_X9_copy 60 rfl) rfl (lv_at hl 2 rfl) ?_
              refine aldI F hK hP (1) (mp_1 cA am s) h (dd D_X9_copy 61 rfl) (fun z17 h => ?_)
              refine x_if_ne (tgt := 118) F.1 F.2.1 (dd D_X9_copy 62 rfl) rfl h (fun c18 h => ?_) (fun c18 h => ?_)
              · refine lv_iload F.1 F.2.1 (dd D_X9_copy 67 rfl) (lv_at hl 5 rfl) ?_
                refine x_if_lt (tgt := 181) F.1 F.2.1 (dd D_X9_copy 68 rfl) rfl h (fun c19 h => ?_) (fun c19 h => ?_)
                · refine lv_aload_n F.1 F.2.1 (dd D_X9_copy 101 rfl) rfl (lv_at hl 0 rfl) ?_
                  refine lv_bipush (v := (-2 : Int32)) F.1 F.2.1 (dd D_X9_copy 102 rfl) kb_m2 ?_
                  obtain ⟨r20, e21, h⟩ := Option.bind_eq_some_iff.mp h
                  refine rwe_all (st' := [.int r20.1]) hD hS hA (rV (rest := []) F (c_X9_refuse D cA am s n (-2 : Int32) r20 e21 l H.size) lk_X9_79 (Nat.le_of_ble_eq_true rfl) (preRW hK hS hAb hP hD) (rcv_9 hK hP (q0 := (0)) (mp_0 cA am s)) rfl hl rfl (Nat.le_of_ble_eq_true rfl) (dd D_X9_copy 103 rfl) ⟨Nat.le_of_ble_eq_true rfl, Nat.le_of_ble_eq_true rfl⟩) rfl (fun H locs hP hD hS => ?_)
                  obtain rfl := Option.some.inj h
                  exact rw_i (R := rmOf 1 0 0) F hP hD hS hr hlk ⟨Nat.le_of_ble_eq_true rfl, Nat.le_of_ble_eq_true rfl⟩ ⟨rfl, rfl⟩ (dd D_X9_copy 104 rfl)
                · refine lv_iload_n F.1 F.2.1 (dd D_X9_copy 69 rfl) rfl (lv_at hl 3 rfl) ?_
                  refine x_if_lt (tgt := 181) F.1 F.2.1 (dd D_X9_copy 70 rfl) rfl h (fun c22 h => ?_) (fun c22 h => ?_)
                  · refine lv_aload_n F.1 F.2.1 (dd D_X9_copy 101 rfl) rfl (lv_at hl 0 rfl) ?_
                    refine lv_bipush (v := (-2 : Int32)) F.1 F.2.1 (dd D_X9_copy 102 rfl) kb_m2 ?_
                    obtain ⟨r23, e24, h⟩ := Option.bind_eq_some_iff.mp h
                    refine rwe_all (st' := [.int r23.1]) hD hS hA (rV (rest := []) F (c_X9_refuse D cA am s n (-2 : Int32) r23 e24 l H.size) lk_X9_79 (Nat.le_of_ble_eq_true rfl) (preRW hK hS hAb hP hD) (rcv_9 hK hP (q0 := (0)) (mp_0 cA am s)) rfl hl rfl (Nat.le_of_ble_eq_true rfl) (dd D_X9_copy 103 rfl) ⟨Nat.le_of_ble_eq_true rfl, Nat.le_of_ble_eq_true rfl⟩) rfl (fun H locs hP hD hS => ?_)
                    obtain rfl := Option.some.inj h
                    exact rw_i (R := rmOf 1 0 0) F hP hD hS hr hlk ⟨Nat.le_of_ble_eq_true rfl, Nat.le_of_ble_eq_true rfl⟩ ⟨rfl, rfl⟩ (dd D_X9_copy 104 rfl)
                  · refine lv_iload F.1 F.2.1 (dd D_X9_copy 71 rfl) (lv_at hl 4 rfl) ?_
                    refine x_if_lt (tgt := 181) F.1 F.2.1 (dd D_X9_copy 72 rfl) rfl h (fun c25 h => ?_) (fun c25 h => ?_)
                    · refine lv_aload_n F.1 F.2.1 (dd D_X9_copy 101 rfl) rfl (lv_at hl 0 rfl) ?_
                      refine lv_bipush (v := (-2 : Int32)) F.1 F.2.1 (dd D_X9_copy 102 rfl) kb_m2 ?_
                      obtain ⟨r26, e27, h⟩ := Option.bind_eq_some_iff.mp h
                      refine rwe_all (st' := [.int r26.1]) hD hS hA (rV (rest := []) F (c_X9_refuse D cA am s n (-2 : Int32) r26 e27 l H.size) lk_X9_79 (Nat.le_of_ble_eq_true rfl) (preRW hK hS hAb hP hD) (rcv_9 hK hP (q0 := (0)) (mp_0 cA am s)) rfl hl rfl (Nat.le_of_ble_eq_true rfl) (dd D_X9_copy 103 rfl) ⟨Nat.le_of_ble_eq_true rfl, Nat.le_of_ble_eq_true rfl⟩) rfl (fun H locs hP hD hS => ?_)
                      obtain rfl := Option.some.inj h
                      exact rw_i (R := rmOf 1 0 0) F hP hD hS hr hlk ⟨Nat.le_of_ble_eq_true rfl, Nat.le_of_ble_eq_true rfl⟩ ⟨rfl, rfl⟩ (dd D_X9_copy 104 rfl)
                    · refine lv_iload F.1 F.2.1 (dd D_X9_copy 73 rfl) (lv_at hl 5 rfl) ?_
                      refine lv_aload_n F.1 F.2.1 (dd D_X9_copy 74 rfl) rfl (lv_at hl 0 rfl) ?_
                      refine getF F hK hP lf_X9_16 (0) (mp_0 cA am s) rfl (dd D_X9_copy 75 rfl) ?_
                      refine lv_iload_n F.1 F.2.1 (dd D_X9_copy 76 rfl) rfl (lv_at hl 1 rfl) ?_
                      refine aldI F hK hP (3) (mp_3 cA am s) h (dd D_X9_copy 77 rfl) (fun z28 h => ?_)
                      refine x_icmp_gt (tgt := 181) F.1 F.2.1 (dd D_X9_copy 78 rfl) rfl h (fun c29 h => ?_) (fun c29 h => ?_)
                      · refine lv_aload_n F.1 F.2.1 (dd D_X9_copy 101 rfl) rfl (lv_at hl 0 rfl) ?_
                        refine lv_bipush (v := (-2 : Int32)) F.1 F.2.1 (dd D_X9_copy 102 rfl) kb_m2 ?_
                        obtain ⟨r30, e31, h⟩ := Option.bind_eq_some_iff.mp h
                        refine rwe_all (st' := [.int r30.1]) hD hS hA (rV (rest := []) F (c_X9_refuse D cA am s n (-2 : Int32) r30 e31 l H.size) lk_X9_79 (Nat.le_of_ble_eq_true rfl) (preRW hK hS hAb hP hD) (rcv_9 hK hP (q0 := (0)) (mp_0 cA am s)) rfl hl rfl (Nat.le_of_ble_eq_true rfl) (dd D_X9_copy 103 rfl) ⟨Nat.le_of_ble_eq_true rfl, Nat.le_of_ble_eq_true rfl⟩) rfl (fun H locs hP hD hS => ?_)
                        obtain rfl := Option.some.inj h
                        exact rw_i (R := rmOf 1 0 0) F hP hD hS hr hlk ⟨Nat.le_of_ble_eq_true rfl, Nat.le_of_ble_eq_true rfl⟩ ⟨rfl, rfl⟩ (dd D_X9_copy 104 rfl)
                      · refine lv_iload F.1 F.2.1 (dd D_X9_copy 79 rfl) (lv_at hl 5 rfl) ?_
                        refine lv_aload_n F.1 F.2.1 (dd D_X9_copy 80 rfl) rfl (lv_at hl 0 rfl) ?_
                        refine getF F hK hP lf_X9_16 (0) (mp_0 cA am s) rfl (dd D_X9_copy 81 rfl) ?_
                        refine lv_iload_n F.1 F.2.1 (dd D_X9_copy 82 rfl) rfl (lv_at hl 2 rfl) ?_
                        refine aldI F hK hP (3) (mp_3 cA am s) h (dd D_X9_copy 83 rfl) (fun z32 h => ?_)
                        refine x_icmp_gt (tgt := 181) F.1 F.2.1 (dd D_X9_copy 84 rfl) rfl h (fun c33 h => ?_) (fun c33 h => ?_)
                        · refine lv_aload_n F.1 F.2.1 (dd D_X9_copy 101 rfl) rfl (lv_at hl 0 rfl) ?_
                          refine lv_bipush (v := (-2 : Int32)) F.1 F.2.1 (dd D_X9_copy 102 rfl) kb_m2 ?_
                          obtain ⟨r34, e35, h⟩ := Option.bind_eq_some_iff.mp h
                          refine rwe_all (st' := [.int r34.1]) hD hS hA (rV (rest := []) F (c_X9_refuse D cA am s n (-2 : Int32) r34 e35 l H.size) lk_X9_79 (Nat.le_of_ble_eq_true rfl) (preRW hK hS hAb hP hD) (rcv_9 hK hP (q0 := (0)) (mp_0 cA am s)) rfl hl rfl (Nat.le_of_ble_eq_true rfl) (dd D_X9_copy 103 rfl) ⟨Nat.le_of_ble_eq_true rfl, Nat.le_of_ble_eq_true rfl⟩) rfl (fun H locs hP hD hS => ?_)
                          obtain rfl := Option.some.inj h
                          exact rw_i (R := rmOf 1 0 0) F hP hD hS hr hlk ⟨Nat.le_of_ble_eq_true rfl, Nat.le_of_ble_eq_true rfl⟩ ⟨rfl, rfl⟩ (dd D_X9_copy 104 rfl)
                        · refine lv_iload_n F.1 F.2.1 (dd D_X9_copy 85 rfl) rfl (lv_at hl 3 rfl) ?_
                          refine lv_aload_n F.1 F.2.1 (dd D_X9_copy 86 rfl) rfl (lv_at hl 0 rfl) ?_
                          refine getF F hK hP lf_X9_16 (0) (mp_0 cA am s) rfl (dd D_X9_copy 87 rfl) ?_
                          refine lv_iload_n F.1 F.2.1 (dd D_X9_copy 88 rfl) rfl (lv_at hl 1 rfl) ?_
                          refine aldI F hK hP (3) (mp_3 cA am s) h (dd D_X9_copy 89 rfl) (fun z36 h => ?_)
                          refine lv_iload F.1 F.2.1 (dd D_X9_copy 90 rfl) (lv_at hl 5 rfl) ?_
                          refine lv_isub F.1 F.2.1 (dd D_X9_copy 91 rfl) ?_
                          refine x_icmp_gt (tgt := 181) F.1 F.2.1 (dd D_X9_copy 92 rfl) rfl h (fun c37 h => ?_) (fun c37 h => ?_)
                          · refine lv_aload_n F.1 F.2.1 (dd D_X9_copy 101 rfl) rfl (lv_at hl 0 rfl) ?_
                            refine lv_bipush (v := (-2 : Int32)) F.1 F.2.1 (dd D_X9_copy 102 rfl) kb_m2 ?_
                            obtain ⟨r38, e39, h⟩ := Option.bind_eq_some_iff.mp h
                            refine rwe_all (st' := [.int r38.1]) hD hS hA (rV (rest := []) F (c_X9_refuse D cA am s n (-2 : Int32) r38 e39 l H.size) lk_X9_79 (Nat.le_of_ble_eq_true rfl) (preRW hK hS hAb hP hD) (rcv_9 hK hP (q0 := (0)) (mp_0 cA am s)) rfl hl rfl (Nat.le_of_ble_eq_true rfl) (dd D_X9_copy 103 rfl) ⟨Nat.le_of_ble_eq_true rfl, Nat.le_of_ble_eq_true rfl⟩) rfl (fun H locs hP hD hS => ?_)
                            obtain rfl := Option.some.inj h
                            exact rw_i (R := rmOf 1 0 0) F hP hD hS hr hlk ⟨Nat.le_of_ble_eq_true rfl, Nat.le_of_ble_eq_true rfl⟩ ⟨rfl, rfl⟩ (dd D_X9_copy 104 rfl)
                          · refine lv_iload F.1 F.2.1 (dd D_X9_copy 93 rfl) (lv_at hl 4 rfl) ?_
                            refine lv_aload_n F.1 F.2.1 (dd D_X9_copy 94 rfl) rfl (lv_at hl 0 rfl) ?_
                            refine getF F hK hP lf_X9_16 (0) (mp_0 cA am s) rfl (dd D_X9_copy 95 rfl) ?_
                            refine lv_iload_n F.1 F.2.1 (dd D_X9_copy 96 rfl) rfl (lv_at hl 2 rfl) ?_
                            refine aldI F hK hP (3) (mp_3 cA am s) h (dd D_X9_copy 97 rfl) (fun z40 h => ?_)
                            refine lv_iload F.1 F.2.1 (dd D_X9_copy 98 rfl) (lv_at hl 5 rfl) ?_
                            refine lv_isub F.1 F.2.1 (dd D_X9_copy 99 rfl) ?_
                            refine x_icmp_le (tgt := 188) F.1 F.2.1 (dd D_X9_copy 100 rfl) rfl h (fun c41 h => ?_) (fun c41 h => ?_)
                            · refine lv_iconst (v := (0 : Int32)) F.1 F.2.1 (dd D_X9_copy 105 rfl) ki_0 ?_
                              refine lv_istore (lv' := [(6, .int (0 : Int32)), (0, .ref (am 0)), (1, .int p1), (2, .int p2), (3, .int p3), (4, .int p4), (5, .int p5)]) F.1 F.2.1 (dd D_X9_copy 106 rfl) hl (Nat.le_of_ble_eq_true rfl) rfl (fun ls hl => ?_)
                              have L52 : ∀ (kf : Nat) (w6_L52 : Int32) (u0_L52 : MS) (H : Heap) (locs : List Loc) (ls : Array Slot), va_P D vwCl (mW cA am u0_L52) H → va_D A (mW cA am u0_L52) → va_S A sM.heap H locs → lv_has ls 7 [(0, .ref (am 0)), (1, .int p1), (2, .int p2), (3, .int p3), (4, .int p4), (5, .int p5), (6, .int w6_L52)] → F_X9_copy_L191 n p1 p2 p3 p4 p5 kf w6_L52 u0_L52 = some r → Wrw 1 0 0 D A (exq (some (.int r.1)) (mW cA am r.2)) p l e sM m ([.ref (am 0), .int p1, .int p2, .int p3, .int p4, .int p5] : List Value).toArray below meth c H locs 0 0 191 ls [] := by
                                intro kf
                                induction kf with
                                | zero =>
                                  intro w6_L52 u0_L52 H locs ls hP hD hS hl h
                                  cases (show none = some r from h)
                                | succ k_L52 ih_L52 =>
                                  intro w6_L52 u0_L52 H locs ls hP hD hS hl h
                                  unfold F_X9_copy_L191 at h
                                  refine lv_iload F.1 F.2.1 (dd D_X9_copy 107 rfl) (lv_at hl 6 rfl) ?_
                                  refine lv_iload F.1 F.2.1 (dd D_X9_copy 108 rfl) (lv_at hl 5 rfl) ?_
                                  refine x_icmp_ge (tgt := 222) F.1 F.2.1 (dd D_X9_copy 109 rfl) rfl h (fun c53 h => ?_) (fun c53 h => ?_)
                                  · refine lv_iconst (v := (0 : Int32)) F.1 F.2.1 (dd D_X9_copy 124 rfl) ki_0 ?_
                                    refine lv_istore (lv' := [(6, .int (0 : Int32)), (0, .ref (am 0)), (1, .int p1), (2, .int p2), (3, .int p3), (4, .int p4), (5, .int p5)]) F.1 F.2.1 (dd D_X9_copy 125 rfl) hl (Nat.le_of_ble_eq_true rfl) rfl (fun ls hl => ?_)
                                    have L54 : ∀ (kf : Nat) (w6_L54 : Int32) (u0_L54 : MS) (H : Heap) (locs : List Loc) (ls : Array Slot), va_P D vwCl (mW cA am u0_L54) H → va_D A (mW cA am u0_L54) → va_S A sM.heap H locs → lv_has ls 7 [(0, .ref (am 0)), (1, .int p1), (2, .int p2), (3, .int p3), (4, .int p4), (5, .int p5), (6, .int w6_L54)] → F_X9_copy_L225 n (F_X9_copy_L191 n p1 p2 p3 p4 p5 k_L52) p1 p2 p3 p4 p5 kf w6_L54 u0_L54 = some r → Wrw 1 0 0 D A (exq (some (.int r.1)) (mW cA am r.2)) p l e sM m ([.ref (am 0), .int p1, .int p2, .int p3, .int p4, .int p5] : List Value).toArray below meth c H locs 0 0 225 ls [] := by
                                      intro kf
                                      induction kf with
                                      | zero =>
                                        intro w6_L54 u0_L54 H locs ls hP hD hS hl h
                                        cases (show none = some r from h)
                                      | succ k_L54 ih_L54 =>
                                        intro w6_L54 u0_L54 H locs ls hP hD hS hl h
                                        unfold F_X9_copy_L225 at h
                                        refine lv_iload F.1 F.2.1 (dd D_X9_copy 126 rfl) (lv_at hl 6 rfl) ?_
                                        refine lv_iload F.1 F.2.1 (dd D_X9_copy 127 rfl) (lv_at hl 5 rfl) ?_
                                        refine x_icmp_ge (tgt := 257) F.1 F.2.1 (dd D_X9_copy 128 rfl) rfl h (fun c55 h => ?_) (fun c55 h => ?_)
                                        · refine lv_iload F.1 F.2.1 (dd D_X9_copy 143 rfl) (lv_at hl 5 rfl) ?_
                                          obtain rfl := Option.some.inj h
                                          exact rw_i (R := rmOf 1 0 0) F hP hD hS hr hlk ⟨Nat.le_of_ble_eq_true rfl, Nat.le_of_ble_eq_true rfl⟩ ⟨rfl, rfl⟩ (dd D_X9_copy 144 rfl)
                                        · refine lv_aload_n F.1 F.2.1 (dd D_X9_copy 129 rfl) rfl (lv_at hl 0 rfl) ?_
                                          refine getF F hK hP lf_X9_21 (0) (mp_0 cA am u0_L54) rfl (dd D_X9_copy 130 rfl) ?_
                                          refine lv_iload_n F.1 F.2.1 (dd D_X9_copy 131 rfl) rfl (lv_at hl 2 rfl) ?_
                                          refine aldA (g := fun j => am (5+j)) F hK hP (4) (mp_4 cA am u0_L54) 5 rfl (fun _ => rfl) h (dd D_X9_copy 132 rfl) (fun z56 h => ?_)
                                          have hk57 : (Int32.toNatClampNeg p2) < 8 := inb_lt z56
                                          refine lv_iload F.1 F.2.1 (dd D_X9_copy 133 rfl) (lv_at hl 4 rfl) ?_
                                          refine lv_iload F.1 F.2.1 (dd D_X9_copy 134 rfl) (lv_at hl 6 rfl) ?_
                                          refine lv_iadd F.1 F.2.1 (dd D_X9_copy 135 rfl) ?_
                                          refine lv_aload_n F.1 F.2.1 (dd D_X9_copy 136 rfl) rfl (lv_at hl 0 rfl) ?_
                                          refine getF F hK hP lf_X9_24 (0) (mp_0 cA am u0_L54) rfl (dd D_X9_copy 137 rfl) ?_
                                          refine lv_iload F.1 F.2.1 (dd D_X9_copy 138 rfl) (lv_at hl 6 rfl) ?_
                                          refine aldL F hK hP (13) (mp_13 cA am u0_L54) h (dd D_X9_copy 139 rfl) (fun z58 h => ?_)
                                          refine astL F hK hP hD hS (5+(Int32.toNatClampNeg p2)) (mp_row cA am u0_L54 (Int32.toNatClampNeg p2) hk57) h (ws' := (mW cA am (m_set_rows u0_L54 (va_up (m_rows u0_L54) (Int32.toNatClampNeg p2) (vp_updL (m_rows u0_L54 (Int32.toNatClampNeg p2)) (Int32.toNatClampNeg (p4 + w6_L54)) ((m_moved u0_L54) (Int32.toNatClampNeg w6_L54))))))) (ms_row cA am u0_L54 (vp_updL (m_rows u0_L54 (Int32.toNatClampNeg p2)) (Int32.toNatClampNeg (p4 + w6_L54)) ((m_moved u0_L54) (Int32.toNatClampNeg w6_L54))) (Int32.toNatClampNeg p2) hk57) (dd D_X9_copy 140 rfl) (fun z59 h H locs hP hD hS => ?_)
                                          refine lv_iinc (v := (w6_L54 + (1 : Int32))) (lv' := [(6, .int (w6_L54 + (1 : Int32))), (0, .ref (am 0)), (1, .int p1), (2, .int p2), (3, .int p3), (4, .int p4), (5, .int p5)]) F.1 F.2.1 (dd D_X9_copy 141 rfl) hl (k := 6) rfl (congrArg (fun z => w6_L54 + z) ki_1) (Nat.le_of_ble_eq_true rfl) rfl (fun ls hl => ?_)
                                          refine lv_goto (tgt := 225) F.1 F.2.1 (dd D_X9_copy 142 rfl) rfl ?_
                                          exact ih_L54 (w6_L54 + (1 : Int32)) (m_set_rows u0_L54 (va_up (m_rows u0_L54) (Int32.toNatClampNeg p2) (vp_updL (m_rows u0_L54 (Int32.toNatClampNeg p2)) (Int32.toNatClampNeg (p4 + w6_L54)) ((m_moved u0_L54) (Int32.toNatClampNeg w6_L54))))) _ _ ls hP hD hS (lv_sub hl [1, 2, 3, 4, 5, 6, 0] rfl) h
                                    exact L54 n (0 : Int32) u0_L52 _ _ ls hP hD hS (lv_sub hl [1, 2, 3, 4, 5, 6, 0] rfl) h
                                  · refine lv_aload_n F.1 F.2.1 (dd D_X9_copy 110 rfl) rfl (lv_at hl 0 rfl) ?_
                                    refine getF F hK hP lf_X9_24 (0) (mp_0 cA am u0_L52) rfl (dd D_X9_copy 111 rfl) ?_
                                    refine lv_iload F.1 F.2.1 (dd D_X9_copy 112 rfl) (lv_at hl 6 rfl) ?_
                                    refine lv_aload_n F.1 F.2.1 (dd D_X9_copy 113 rfl) rfl (lv_at hl 0 rfl) ?_
                                    refine getF F hK hP lf_X9_21 (0) (mp_0 cA am u0_L52) rfl (dd D_X9_copy 114 rfl) ?_
                                    refine lv_iload_n F.1 F.2.1 (dd D_X9_copy 115 rfl) rfl (lv_at hl 1 rfl) ?_
                                    refine aldA (g := fun j => am (5+j)) F hK hP (4) (mp_4 cA am u0_L52) 5 rfl (fun _ => rfl) h (dd D_X9_copy 116 rfl) (fun z60 h => ?_)
                                    have hk61 : (Int32.toNatClampNeg p1) < 8 := inb_lt z60
                                    refine lv_iload_n F.1 F.2.1 (dd D_X9_copy 117 rfl) rfl (lv_at hl 3 rfl) ?_
                                    refine lv_iload F.1 F.2.1 (dd D_X9_copy 118 rfl) (lv_at hl 6 rfl) ?_
                                    refine lv_iadd F.1 F.2.1 (dd D_X9_copy 119 rfl) ?_
                                    refine aldL F hK hP (5+(Int32.toNatClampNeg p1)) (mp_row cA am u0_L52 (Int32.toNatClampNeg p1) hk61) h (dd D_X9_copy 120 rfl) (fun z62 h => ?_)
                                    refine astL F hK hP hD hS (13) (mp_13 cA am u0_L52) h (ws' := (mW cA am (m_set_moved u0_L52 (vp_updL (m_moved u0_L52) (Int32.toNatClampNeg w6_L52) ((m_rows u0_L52 (Int32.toNatClampNeg p1)) (Int32.toNatClampNeg (p3 + w6_L52))))))) (ms_13 cA am u0_L52 (vp_updL (m_moved u0_L52) (Int32.toNatClampNeg w6_L52) ((m_rows u0_L52 (Int32.toNatClampNeg p1)) (Int32.toNatClampNeg (p3 + w6_L52))))) (dd D_X9_copy 121 rfl) (fun z63 h H locs hP hD hS => ?_)
                                    refine lv_iinc (v := (w6_L52 + (1 : Int32))) (lv' := [(6, .int (w6_L52 + (1 : Int32))), (0, .ref (am 0)), (1, .int p1), (2, .int p2), (3, .int p3), (4, .int p4), (5, .int p5)]) F.1 F.2.1 (dd D_X9_copy 122 rfl) hl (k := 6) rfl (congrArg (fun z => w6_L52 + z) ki_1) (Nat.le_of_ble_eq_true rfl) rfl (fun ls hl => ?_)
                                    refine lv_goto (tgt := 191) F.1 F.2.1 (dd D_X9_copy 123 rfl) rfl ?_
                                    exact ih_L52 (w6_L52 + (1 : Int32)) (m_set_moved u0_L52 (vp_updL (m_moved u0_L52) (Int32.toNatClampNeg w6_L52) ((m_rows u0_L52 (Int32.toNatClampNeg p1)) (Int32.toNatClampNeg (p3 + w6_L52))))) _ _ ls hP hD hS (lv_sub hl [1, 2, 3, 4, 5, 6, 0] rfl) h
                              exact L52 n (0 : Int32) s _ _ ls hP hD hS (lv_sub hl [1, 2, 3, 4, 5, 6, 0] rfl) h
                            · refine lv_aload_n F.1 F.2.1 (dd D_X9_copy 101 rfl) rfl (lv_at hl 0 rfl) ?_
                              refine lv_bipush (v := (-2 : Int32)) F.1 F.2.1 (dd D_X9_copy 102 rfl) kb_m2 ?_
                              obtain ⟨r64, e65, h⟩ := Option.bind_eq_some_iff.mp h
                              refine rwe_all (st' := [.int r64.1]) hD hS hA (rV (rest := []) F (c_X9_refuse D cA am s n (-2 : Int32) r64 e65 l H.size) lk_X9_79 (Nat.le_of_ble_eq_true rfl) (preRW hK hS hAb hP hD) (rcv_9 hK hP (q0 := (0)) (mp_0 cA am s)) rfl hl rfl (Nat.le_of_ble_eq_true rfl) (dd D_X9_copy 103 rfl) ⟨Nat.le_of_ble_eq_true rfl, Nat.le_of_ble_eq_true rfl⟩) rfl (fun H locs hP hD hS => ?_)
                              obtain rfl := Option.some.inj h
                              exact rw_i (R := rmOf 1 0 0) F hP hD hS hr hlk ⟨Nat.le_of_ble_eq_true rfl, Nat.le_of_ble_eq_true rfl⟩ ⟨rfl, rfl⟩ (dd D_X9_copy 104 rfl)
              · refine lv_aload_n F.1 F.2.1 (dd D_X9_copy 63 rfl) rfl (lv_at hl 0 rfl) ?_
                refine lv_bipush (v := (-4 : Int32)) F.1 F.2.1 (dd D_X9_copy 64 rfl) kb_m4 ?_
                obtain ⟨r66, e67, h⟩ := Option.bind_eq_some_iff.mp h
                refine rwe_all (st' := [.int r66.1]) hD hS hA (rV (rest := []) F (c_X9_refuse D cA am s n (-4 : Int32) r66 e67 l H.size) lk_X9_79 (Nat.le_of_ble_eq_true rfl) (preRW hK hS hAb hP hD) (rcv_9 hK hP (q0 := (0)) (mp_0 cA am s)) rfl hl rfl (Nat.le_of_ble_eq_true rfl) (dd D_X9_copy 65 rfl) ⟨Nat.le_of_ble_eq_true rfl, Nat.le_of_ble_eq_true rfl⟩) rfl (fun H locs hP hD hS => ?_)
                obtain rfl := Option.some.inj h
                exact rw_i (R := rmOf 1 0 0) F hP hD hS hr hlk ⟨Nat.le_of_ble_eq_true rfl, Nat.le_of_ble_eq_true rfl⟩ ⟨rfl, rfl⟩ (dd D_X9_copy 66 rfl)
          · refine lv_aload_n F.1 F.2.1 (dd D_X9_copy 34 rfl) rfl (lv_at hl 0 rfl) ?_
            refine getF F hK hP lf_X9_7 (0) (mp_0 cA am s) rfl (dd D_X9_copy 35 rfl) ?_
            refine lv_iload_n F.1 F.2.1 (dd D_X9_copy 36 rfl) rfl (lv_at hl 2 rfl) ?_
            refine aldI F hK hP (1) (mp_1 cA am s) h (dd D_X9_copy 37 rfl) (fun z68 h => ?_)
            refine lv_iconst (v := (1 : Int32)) F.1 F.2.1 (dd D_X9_copy 38 rfl) ki_1 ?_
            refine x_icmp_ne (tgt := 93) F.1 F.2.1 (dd D_X9_copy 39 rfl) rfl h (fun c69 h => ?_) (fun c69 h => ?_)
            · refine lv_aload_n F.1 F.2.1 (dd D_X9_copy 53 rfl) rfl (lv_at hl 0 rfl) ?_
              refine getF F hK hP lf_X9_7 (0) (mp_0 cA am s) rfl (dd D_X9_copy 54 rfl) ?_
              refine lv_iload_n F.1 F.2.1 (dd D_X9_copy 55 rfl) rfl (lv_at hl 1 rfl) ?_
              refine aldI F hK hP (1) (mp_1 cA am s) h (dd D_X9_copy 56 rfl) (fun z70 h => ?_)
              refine x_if_eq (tgt := 111) F.1 F.2.1 (dd D_X9_copy 57 rfl) rfl h (fun c71 h => ?_) (fun c71 h => ?_)
              · refine lv_aload_n F.1 F.2.1 (dd D_X9_copy 63 rfl) rfl (lv_at hl 0 rfl) ?_
                refine lv_bipush (v := (-4 : Int32)) F.1 F.2.1 (dd D_X9_copy 64 rfl) kb_m4 ?_
                obtain ⟨r72, e73, h⟩ := Option.bind_eq_some_iff.mp h
                refine rwe_all (st' := [.int r72.1]) hD hS hA (rV (rest := []) F (c_X9_refuse D cA am s n (-4 : Int32) r72 e73 l H.size) lk_X9_79 (Nat.le_of_ble_eq_true rfl) (preRW hK hS hAb hP hD) (rcv_9 hK hP (q0 := (0)) (mp_0 cA am s)) rfl hl rfl (Nat.le_of_ble_eq_true rfl) (dd D_X9_copy 65 rfl) ⟨Nat.le_of_ble_eq_true rfl, Nat.le_of_ble_eq_true rfl⟩) rfl (fun H locs hP hD hS => ?_)
                obtain rfl := Option.some.inj h
                exact rw_i (R := rmOf 1 0 0) F hP hD hS hr hlk ⟨Nat.le_of_ble_eq_true rfl, Nat.le_of_ble_eq_true rfl⟩ ⟨rfl, rfl⟩ (dd D_X9_copy 66 rfl)
              · refine lv_aload_n F.1 F.2.1 (dd D_X9_copy 58 rfl) rfl (lv_at hl 0 rfl) ?_
                refine getF F hK hP lf_X9_7 (0) (mp_0 cA am s) rfl (dd D_X9_copy 59 rfl) ?_
                refine lv_iload_n F.1 F.2.1 (dd D_X9_copy 60 rfl) rfl (lv_at hl 2 rfl) ?_
                refine aldI F hK hP (1) (mp_1 cA am s) h (dd D_X9_copy 61 rfl) (fun z74 h => ?_)
                refine x_if_ne (tgt := 118) F.1 F.2.1 (dd D_X9_copy 62 rfl) rfl h (fun c75 h => ?_) (fun c75 h => ?_)
                · refine lv_iload F.1 F.2.1 (dd D_X9_copy 67 rfl) (lv_at hl 5 rfl) ?_
                  refine x_if_lt (tgt := 181) F.1 F.2.1 (dd D_X9_copy 68 rfl) rfl h (fun c76 h => ?_) (fun c76 h => ?_)
                  · refine lv_aload_n F.1 F.2.1 (dd D_X9_copy 101 rfl) rfl (lv_at hl 0 rfl) ?_
                    refine lv_bipush (v := (-2 : Int32)) F.1 F.2.1 (dd D_X9_copy 102 rfl) kb_m2 ?_
                    obtain ⟨r77, e78, h⟩ := Option.bind_eq_some_iff.mp h
                    refine rwe_all (st' := [.int r77.1]) hD hS hA (rV (rest := []) F (c_X9_refuse D cA am s n (-2 : Int32) r77 e78 l H.size) lk_X9_79 (Nat.le_of_ble_eq_true rfl) (preRW hK hS hAb hP hD) (rcv_9 hK hP (q0 := (0)) (mp_0 cA am s)) rfl hl rfl (Nat.le_of_ble_eq_true rfl) (dd D_X9_copy 103 rfl) ⟨Nat.le_of_ble_eq_true rfl, Nat.le_of_ble_eq_true rfl⟩) rfl (fun H locs hP hD hS => ?_)
                    obtain rfl := Option.some.inj h
                    exact rw_i (R := rmOf 1 0 0) F hP hD hS hr hlk ⟨Nat.le_of_ble_eq_true rfl, Nat.le_of_ble_eq_true rfl⟩ ⟨rfl, rfl⟩ (dd D_X9_copy 104 rfl)
                  · refine lv_iload_n F.1 F.2.1 (dd D_X9_copy 69 rfl) rfl (lv_at hl 3 rfl) ?_
                    refine x_if_lt (tgt := 181) F.1 F.2.1 (dd D_X9_copy 70 rfl) rfl h (fun c79 h => ?_) (fun c79 h => ?_)
                    · refine lv_aload_n F.1 F.2.1 (dd D_X9_copy 101 rfl) rfl (lv_at hl 0 rfl) ?_
                      refine lv_bipush (v := (-2 : Int32)) F.1 F.2.1 (dd D_X9_copy 102 rfl) kb_m2 ?_
                      obtain ⟨r80, e81, h⟩ := Option.bind_eq_some_iff.mp h
                      refine rwe_all (st' := [.int r80.1]) hD hS hA (rV (rest := []) F (c_X9_refuse D cA am s n (-2 : Int32) r80 e81 l H.size) lk_X9_79 (Nat.le_of_ble_eq_true rfl) (preRW hK hS hAb hP hD) (rcv_9 hK hP (q0 := (0)) (mp_0 cA am s)) rfl hl rfl (Nat.le_of_ble_eq_true rfl) (dd D_X9_copy 103 rfl) ⟨Nat.le_of_ble_eq_true rfl, Nat.le_of_ble_eq_true rfl⟩) rfl (fun H locs hP hD hS => ?_)
                      obtain rfl := Option.some.inj h
                      exact rw_i (R := rmOf 1 0 0) F hP hD hS hr hlk ⟨Nat.le_of_ble_eq_true rfl, Nat.le_of_ble_eq_true rfl⟩ ⟨rfl, rfl⟩ (dd D_X9_copy 104 rfl)
                    · refine lv_iload F.1 F.2.1 (dd D_X9_copy 71 rfl) (lv_at hl 4 rfl) ?_
                      refine x_if_lt (tgt := 181) F.1 F.2.1 (dd D_X9_copy 72 rfl) rfl h (fun c82 h => ?_) (fun c82 h => ?_)
                      · refine lv_aload_n F.1 F.2.1 (dd D_X9_copy 101 rfl) rfl (lv_at hl 0 rfl) ?_
                        refine lv_bipush (v := (-2 : Int32)) F.1 F.2.1 (dd D_X9_copy 102 rfl) kb_m2 ?_
                        obtain ⟨r83, e84, h⟩ := Option.bind_eq_some_iff.mp h
                        refine rwe_all (st' := [.int r83.1]) hD hS hA (rV (rest := []) F (c_X9_refuse D cA am s n (-2 : Int32) r83 e84 l H.size) lk_X9_79 (Nat.le_of_ble_eq_true rfl) (preRW hK hS hAb hP hD) (rcv_9 hK hP (q0 := (0)) (mp_0 cA am s)) rfl hl rfl (Nat.le_of_ble_eq_true rfl) (dd D_X9_copy 103 rfl) ⟨Nat.le_of_ble_eq_true rfl, Nat.le_of_ble_eq_true rfl⟩) rfl (fun H locs hP hD hS => ?_)
                        obtain rfl := Option.some.inj h
                        exact rw_i (R := rmOf 1 0 0) F hP hD hS hr hlk ⟨Nat.le_of_ble_eq_true rfl, Nat.le_of_ble_eq_true rfl⟩ ⟨rfl, rfl⟩ (dd D_X9_copy 104 rfl)
                      · refine lv_iload F.1 F.2.1 (dd D_X9_copy 73 rfl) (lv_at hl 5 rfl) ?_
                        refine lv_aload_n F.1 F.2.1 (dd D_X9_copy 74 rfl) rfl (lv_at hl 0 rfl) ?_
                        refine getF F hK hP lf_X9_16 (0) (mp_0 cA am s) rfl (dd D_X9_copy 75 rfl) ?_
                        refine lv_iload_n F.1 F.2.1 (dd D_X9_copy 76 rfl) rfl (lv_at hl 1 rfl) ?_
                        refine aldI F hK hP (3) (mp_3 cA am s) h (dd D_X9_copy 77 rfl) (fun z85 h => ?_)
                        refine x_icmp_gt (tgt := 181) F.1 F.2.1 (dd D_X9_copy 78 rfl) rfl h (fun c86 h => ?_) (fun c86 h => ?_)
                        · refine lv_aload_n F.1 F.2.1 (dd D_X9_copy 101 rfl) rfl (lv_at hl 0 rfl) ?_
                          refine lv_bipush (v := (-2 : Int32)) F.1 F.2.1 (dd D_X9_copy 102 rfl) kb_m2 ?_
                          obtain ⟨r87, e88, h⟩ := Option.bind_eq_some_iff.mp h
                          refine rwe_all (st' := [.int r87.1]) hD hS hA (rV (rest := []) F (c_X9_refuse D cA am s n (-2 : Int32) r87 e88 l H.size) lk_X9_79 (Nat.le_of_ble_eq_true rfl) (preRW hK hS hAb hP hD) (rcv_9 hK hP (q0 := (0)) (mp_0 cA am s)) rfl hl rfl (Nat.le_of_ble_eq_true rfl) (dd D_X9_copy 103 rfl) ⟨Nat.le_of_ble_eq_true rfl, Nat.le_of_ble_eq_true rfl⟩) rfl (fun H locs hP hD hS => ?_)
                          obtain rfl := Option.some.inj h
                          exact rw_i (R := rmOf 1 0 0) F hP hD hS hr hlk ⟨Nat.le_of_ble_eq_true rfl, Nat.le_of_ble_eq_true rfl⟩ ⟨rfl, rfl⟩ (dd D_X9_copy 104 rfl)
                        · refine lv_iload F.1 F.2.1 (dd D_X9_copy 79 rfl) (lv_at hl 5 rfl) ?_
                          refine lv_aload_n F.1 F.2.1 (dd D_X9_copy 80 rfl) rfl (lv_at hl 0 rfl) ?_
                          refine getF F hK hP lf_X9_16 (0) (mp_0 cA am s) rfl (dd D_X9_copy 81 rfl) ?_
                          refine lv_iload_n F.1 F.2.1 (dd D_X9_copy 82 rfl) rfl (lv_at hl 2 rfl) ?_
                          refine aldI F hK hP (3) (mp_3 cA am s) h (dd D_X9_copy 83 rfl) (fun z89 h => ?_)
                          refine x_icmp_gt (tgt := 181) F.1 F.2.1 (dd D_X9_copy 84 rfl) rfl h (fun c90 h => ?_) (fun c90 h => ?_)
                          · refine lv_aload_n F.1 F.2.1 (dd D_X9_copy 101 rfl) rfl (lv_at hl 0 rfl) ?_
                            refine lv_bipush (v := (-2 : Int32)) F.1 F.2.1 (dd D_X9_copy 102 rfl) kb_m2 ?_
                            obtain ⟨r91, e92, h⟩ := Option.bind_eq_some_iff.mp h
                            refine rwe_all (st' := [.int r91.1]) hD hS hA (rV (rest := []) F (c_X9_refuse D cA am s n (-2 : Int32) r91 e92 l H.size) lk_X9_79 (Nat.le_of_ble_eq_true rfl) (preRW hK hS hAb hP hD) (rcv_9 hK hP (q0 := (0)) (mp_0 cA am s)) rfl hl rfl (Nat.le_of_ble_eq_true rfl) (dd D_X9_copy 103 rfl) ⟨Nat.le_of_ble_eq_true rfl, Nat.le_of_ble_eq_true rfl⟩) rfl (fun H locs hP hD hS => ?_)
                            obtain rfl := Option.some.inj h
                            exact rw_i (R := rmOf 1 0 0) F hP hD hS hr hlk ⟨Nat.le_of_ble_eq_true rfl, Nat.le_of_ble_eq_true rfl⟩ ⟨rfl, rfl⟩ (dd D_X9_copy 104 rfl)
                          · refine lv_iload_n F.1 F.2.1 (dd D_X9_copy 85 rfl) rfl (lv_at hl 3 rfl) ?_
                            refine lv_aload_n F.1 F.2.1 (dd D_X9_copy 86 rfl) rfl (lv_at hl 0 rfl) ?_
                            refine getF F hK hP lf_X9_16 (0) (mp_0 cA am s) rfl (dd D_X9_copy 87 rfl) ?_
                            refine lv_iload_n F.1 F.2.1 (dd D_X9_copy 88 rfl) rfl (lv_at hl 1 rfl) ?_
                            refine aldI F hK hP (3) (mp_3 cA am s) h (dd D_X9_copy 89 rfl) (fun z93 h => ?_)
                            refine lv_iload F.1 F.2.1 (dd D_X9_copy 90 rfl) (lv_at hl 5 rfl) ?_
                            refine lv_isub F.1 F.2.1 (dd D_X9_copy 91 rfl) ?_
                            refine x_icmp_gt (tgt := 181) F.1 F.2.1 (dd D_X9_copy 92 rfl) rfl h (fun c94 h => ?_) (fun c94 h => ?_)
                            · refine lv_aload_n F.1 F.2.1 (dd D_X9_copy 101 rfl) rfl (lv_at hl 0 rfl) ?_
                              refine lv_bipush (v := (-2 : Int32)) F.1 F.2.1 (dd D_X9_copy 102 rfl) kb_m2 ?_
                              obtain ⟨r95, e96, h⟩ := Option.bind_eq_some_iff.mp h
                              refine rwe_all (st' := [.int r95.1]) hD hS hA (rV (rest := []) F (c_X9_refuse D cA am s n (-2 : Int32) r95 e96 l H.size) lk_X9_79 (Nat.le_of_ble_eq_true rfl) (preRW hK hS hAb hP hD) (rcv_9 hK hP (q0 := (0)) (mp_0 cA am s)) rfl hl rfl (Nat.le_of_ble_eq_true rfl) (dd D_X9_copy 103 rfl) ⟨Nat.le_of_ble_eq_true rfl, Nat.le_of_ble_eq_true rfl⟩) rfl (fun H locs hP hD hS => ?_)
                              obtain rfl := Option.some.inj h
                              exact rw_i (R := rmOf 1 0 0) F hP hD hS hr hlk ⟨Nat.le_of_ble_eq_true rfl, Nat.le_of_ble_eq_true rfl⟩ ⟨rfl, rfl⟩ (dd D_X9_copy 104 rfl)
                            · refine lv_iload F.1 F.2.1 (dd D_X9_copy 93 rfl) (lv_at hl 4 rfl) ?_
                              refine lv_aload_n F.1 F.2.1 (dd D_X9_copy 94 rfl) rfl (lv_at hl 0 rfl) ?_
                              refine getF F hK hP lf_X9_16 (0) (mp_0 cA am s) rfl (dd D_X9_copy 95 rfl) ?_
                              refine lv_iload_n F.1 F.2.1 (dd D_X9_copy 96 rfl) rfl (lv_at hl 2 rfl) ?_
                              refine aldI F hK hP (3) (mp_3 cA am s) h (dd D_X9_copy 97 rfl) (fun z97 h => ?_)
                              refine lv_iload F.1 F.2.1 (dd D_X9_copy 98 rfl) (lv_at hl 5 rfl) ?_
                              refine lv_isub F.1 F.2.1 (dd D_X9_copy 99 rfl) ?_
                              refine x_icmp_le (tgt := 188) F.1 F.2.1 (dd D_X9_copy 100 rfl) rfl h (fun c98 h => ?_) (fun c98 h => ?_)
                              · refine lv_iconst (v := (0 : Int32)) F.1 F.2.1 (dd D_X9_copy 105 rfl) ki_0 ?_
                                refine lv_istore (lv' := [(6, .int (0 : Int32)), (0, .ref (am 0)), (1, .int p1), (2, .int p2), (3, .int p3), (4, .int p4), (5, .int p5)]) F.1 F.2.1 (dd D_X9_copy 106 rfl) hl (Nat.le_of_ble_eq_true rfl) rfl (fun ls hl => ?_)
                                have L99 : ∀ (kf : Nat) (w6_L99 : Int32) (u0_L99 : MS) (H : Heap) (locs : List Loc) (ls : Array Slot), va_P D vwCl (mW cA am u0_L99) H → va_D A (mW cA am u0_L99) → va_S A sM.heap H locs → lv_has ls 7 [(0, .ref (am 0)), (1, .int p1), (2, .int p2), (3, .int p3), (4, .int p4), (5, .int p5), (6, .int w6_L99)] → F_X9_copy_L191 n p1 p2 p3 p4 p5 kf w6_L99 u0_L99 = some r → Wrw 1 0 0 D A (exq (some (.int r.1)) (mW cA am r.2)) p l e sM m ([.ref (am 0), .int p1, .int p2, .int p3, .int p4, .int p5] : List Value).toArray below meth c H locs 0 0 191 ls [] := by
                                  intro kf
                                  induction kf with
                                  | zero =>
                                    intro w6_L99 u0_L99 H locs ls hP hD hS hl h
                                    cases (show none = some r from h)
                                  | succ k_L99 ih_L99 =>
                                    intro w6_L99 u0_L99 H locs ls hP hD hS hl h
                                    unfold F_X9_copy_L191 at h
                                    refine lv_iload F.1 F.2.1 (dd D_X9_copy 107 rfl) (lv_at hl 6 rfl) ?_
                                    refine lv_iload F.1 F.2.1 (dd D_X9_copy 108 rfl) (lv_at hl 5 rfl) ?_
                                    refine x_icmp_ge (tgt := 222) F.1 F.2.1 (dd D_X9_copy 109 rfl) rfl h (fun c100 h => ?_) (fun c100 h => ?_)
                                    · refine lv_iconst (v := (0 : Int32)) F.1 F.2.1 (dd D_X9_copy 124 rfl) ki_0 ?_
                                      refine lv_istore (lv' := [(6, .int (0 : Int32)), (0, .ref (am 0)), (1, .int p1), (2, .int p2), (3, .int p3), (4, .int p4), (5, .int p5)]) F.1 F.2.1 (dd D_X9_copy 125 rfl) hl (Nat.le_of_ble_eq_true rfl) rfl (fun ls hl => ?_)
                                      have L101 : ∀ (kf : Nat) (w6_L101 : Int32) (u0_L101 : MS) (H : Heap) (locs : List Loc) (ls : Array Slot), va_P D vwCl (mW cA am u0_L101) H → va_D A (mW cA am u0_L101) → va_S A sM.heap H locs → lv_has ls 7 [(0, .ref (am 0)), (1, .int p1), (2, .int p2), (3, .int p3), (4, .int p4), (5, .int p5), (6, .int w6_L101)] → F_X9_copy_L225 n (F_X9_copy_L191 n p1 p2 p3 p4 p5 k_L99) p1 p2 p3 p4 p5 kf w6_L101 u0_L101 = some r → Wrw 1 0 0 D A (exq (some (.int r.1)) (mW cA am r.2)) p l e sM m ([.ref (am 0), .int p1, .int p2, .int p3, .int p4, .int p5] : List Value).toArray below meth c H locs 0 0 225 ls [] := by
                                        intro kf
                                        induction kf with
                                        | zero =>
                                          intro w6_L101 u0_L101 H locs ls hP hD hS hl h
                                          cases (show none = some r from h)
                                        | succ k_L101 ih_L101 =>
                                          intro w6_L101 u0_L101 H locs ls hP hD hS hl h
                                          unfold F_X9_copy_L225 at h
                                          refine lv_iload F.1 F.2.1 (dd D_X9_copy 126 rfl) (lv_at hl 6 rfl) ?_
                                          refine lv_iload F.1 F.2.1 (dd D_X9_copy 127 rfl) (lv_at hl 5 rfl) ?_
                                          refine x_icmp_ge (tgt := 257) F.1 F.2.1 (dd D_X9_copy 128 rfl) rfl h (fun c102 h => ?_) (fun c102 h => ?_)
                                          · refine lv_iload F.1 F.2.1 (dd D_X9_copy 143 rfl) (lv_at hl 5 rfl) ?_
                                            obtain rfl := Option.some.inj h
                                            exact rw_i (R := rmOf 1 0 0) F hP hD hS hr hlk ⟨Nat.le_of_ble_eq_true rfl, Nat.le_of_ble_eq_true rfl⟩ ⟨rfl, rfl⟩ (dd D_X9_copy 144 rfl)
                                          · refine lv_aload_n F.1 F.2.1 (dd D_X9_copy 129 rfl) rfl (lv_at hl 0 rfl) ?_
                                            refine getF F hK hP lf_X9_21 (0) (mp_0 cA am u0_L101) rfl (dd D_X9_copy 130 rfl) ?_
                                            refine lv_iload_n F.1 F.2.1 (dd D_X9_copy 131 rfl) rfl (lv_at hl 2 rfl) ?_
                                            refine aldA (g := fun j => am (5+j)) F hK hP (4) (mp_4 cA am u0_L101) 5 rfl (fun _ => rfl) h (dd D_X9_copy 132 rfl) (fun z103 h => ?_)
                                            have hk104 : (Int32.toNatClampNeg p2) < 8 := inb_lt z103
                                            refine lv_iload F.1 F.2.1 (dd D_X9_copy 133 rfl) (lv_at hl 4 rfl) ?_
                                            refine lv_iload F.1 F.2.1 (dd D_X9_copy 134 rfl) (lv_at hl 6 rfl) ?_
                                            refine lv_iadd F.1 F.2.1 (dd D_X9_copy 135 rfl) ?_
                                            refine lv_aload_n F.1 F.2.1 (dd D_X9_copy 136 rfl) rfl (lv_at hl 0 rfl) ?_
                                            refine getF F hK hP lf_X9_24 (0) (mp_0 cA am u0_L101) rfl (dd D_X9_copy 137 rfl) ?_
                                            refine lv_iload F.1 F.2.1 (dd D_X9_copy 138 rfl) (lv_at hl 6 rfl) ?_
                                            refine aldL F hK hP (13) (mp_13 cA am u0_L101) h (dd D_X9_copy 139 rfl) (fun z105 h => ?_)
                                            refine astL F hK hP hD hS (5+(Int32.toNatClampNeg p2)) (mp_row cA am u0_L101 (Int32.toNatClampNeg p2) hk104) h (ws' := (mW cA am (m_set_rows u0_L101 (va_up (m_rows u0_L101) (Int32.toNatClampNeg p2) (vp_updL (m_rows u0_L101 (Int32.toNatClampNeg p2)) (Int32.toNatClampNeg (p4 + w6_L101)) ((m_moved u0_L101) (Int32.toNatClampNeg w6_L101))))))) (ms_row cA am u0_L101 (vp_updL (m_rows u0_L101 (Int32.toNatClampNeg p2)) (Int32.toNatClampNeg (p4 + w6_L101)) ((m_moved u0_L101) (Int32.toNatClampNeg w6_L101))) (Int32.toNatClampNeg p2) hk104) (dd D_X9_copy 140 rfl) (fun z106 h H locs hP hD hS => ?_)
                                            refine lv_iinc (v := (w6_L101 + (1 : Int32))) (lv' := [(6, .int (w6_L101 + (1 : Int32))), (0, .ref (am 0)), (1, .int p1), (2, .int p2), (3, .int p3), (4, .int p4), (5, .int p5)]) F.1 F.2.1 (dd D_X9_copy 141 rfl) hl (k := 6) rfl (congrArg (fun z => w6_L101 + z) ki_1) (Nat.le_of_ble_eq_true rfl) rfl (fun ls hl => ?_)
                                            refine lv_goto (tgt := 225) F.1 F.2.1 (dd D_X9_copy 142 rfl) rfl ?_
                                            exact ih_L101 (w6_L101 + (1 : Int32)) (m_set_rows u0_L101 (va_up (m_rows u0_L101) (Int32.toNatClampNeg p2) (vp_updL (m_rows u0_L101 (Int32.toNatClampNeg p2)) (Int32.toNatClampNeg (p4 + w6_L101)) ((m_moved u0_L101) (Int32.toNatClampNeg w6_L101))))) _ _ ls hP hD hS (lv_sub hl [1, 2, 3, 4, 5, 6, 0] rfl) h
                                      exact L101 n (0 : Int32) u0_L99 _ _ ls hP hD hS (lv_sub hl [1, 2, 3, 4, 5, 6, 0] rfl) h
                                    · refine lv_aload_n F.1 F.2.1 (dd D_X9_copy 110 rfl) rfl (lv_at hl 0 rfl) ?_
                                      refine getF F hK hP lf_X9_24 (0) (mp_0 cA am u0_L99) rfl (dd D_X9_copy 111 rfl) ?_
                                      refine lv_iload F.1 F.2.1 (dd D_X9_copy 112 rfl) (lv_at hl 6 rfl) ?_
                                      refine lv_aload_n F.1 F.2.1 (dd D_X9_copy 113 rfl) rfl (lv_at hl 0 rfl) ?_
                                      refine getF F hK hP lf_X9_21 (0) (mp_0 cA am u0_L99) rfl (dd D_X9_copy 114 rfl) ?_
                                      refine lv_iload_n F.1 F.2.1 (dd D_X9_copy 115 rfl) rfl (lv_at hl 1 rfl) ?_
                                      refine aldA (g := fun j => am (5+j)) F hK hP (4) (mp_4 cA am u0_L99) 5 rfl (fun _ => rfl) h (dd D_X9_copy 116 rfl) (fun z107 h => ?_)
                                      have hk108 : (Int32.toNatClampNeg p1) < 8 := inb_lt z107
                                      refine lv_iload_n F.1 F.2.1 (dd D_X9_copy 117 rfl) rfl (lv_at hl 3 rfl) ?_
                                      refine lv_iload F.1 F.2.1 (dd D_X9_copy 118 rfl) (lv_at hl 6 rfl) ?_
                                      refine lv_iadd F.1 F.2.1 (dd D_X9_copy 119 rfl) ?_
                                      refine aldL F hK hP (5+(Int32.toNatClampNeg p1)) (mp_row cA am u0_L99 (Int32.toNatClampNeg p1) hk108) h (dd D_X9_copy 120 rfl) (fun z109 h => ?_)
                                      refine astL F hK hP hD hS (13) (mp_13 cA am u0_L99) h (ws' := (mW cA am (m_set_moved u0_L99 (vp_updL (m_moved u0_L99) (Int32.toNatClampNeg w6_L99) ((m_rows u0_L99 (Int32.toNatClampNeg p1)) (Int32.toNatClampNeg (p3 + w6_L99))))))) (ms_13 cA am u0_L99 (vp_updL (m_moved u0_L99) (Int32.toNatClampNeg w6_L99) ((m_rows u0_L99 (Int32.toNatClampNeg p1)) (Int32.toNatClampNeg (p3 + w6_L99))))) (dd D_X9_copy 121 rfl) (fun z110 h H locs hP hD hS => ?_)
                                      refine lv_iinc (v := (w6_L99 + (1 : Int32))) (lv' := [(6, .int (w6_L99 + (1 : Int32))), (0, .ref (am 0)), (1, .int p1), (2, .int p2), (3, .int p3), (4, .int p4), (5, .int p5)]) F.1 F.2.1 (dd D_X9_copy 122 rfl) hl (k := 6) rfl (congrArg (fun z => w6_L99 + z) ki_1) (Nat.le_of_ble_eq_true rfl) rfl (fun ls hl => ?_)
                                      refine lv_goto (tgt := 191) F.1 F.2.1 (dd D_X9_copy 123 rfl) rfl ?_
                                      exact ih_L99 (w6_L99 + (1 : Int32)) (m_set_moved u0_L99 (vp_updL (m_moved u0_L99) (Int32.toNatClampNeg w6_L99) ((m_rows u0_L99 (Int32.toNatClampNeg p1)) (Int32.toNatClampNeg (p3 + w6_L99))))) _ _ ls hP hD hS (lv_sub hl [1, 2, 3, 4, 5, 6, 0] rfl) h
                                exact L99 n (0 : Int32) s _ _ ls hP hD hS (lv_sub hl [1, 2, 3, 4, 5, 6, 0] rfl) h
                              · refine lv_aload_n F.1 F.2.1 (dd D_X9_copy 101 rfl) rfl (lv_at hl 0 rfl) ?_
                                refine lv_bipush (v := (-2 : Int32)) F.1 F.2.1 (dd D_X9_copy 102 rfl) kb_m2 ?_
                                obtain ⟨r111, e112, h⟩ := Option.bind_eq_some_iff.mp h
                                refine rwe_all (st' := [.int r111.1]) hD hS hA (rV (rest := []) F (c_X9_refuse D cA am s n (-2 : Int32) r111 e112 l H.size) lk_X9_79 (Nat.le_of_ble_eq_true rfl) (preRW hK hS hAb hP hD) (rcv_9 hK hP (q0 := (0)) (mp_0 cA am s)) rfl hl rfl (Nat.le_of_ble_eq_true rfl) (dd D_X9_copy 103 rfl) ⟨Nat.le_of_ble_eq_true rfl, Nat.le_of_ble_eq_true rfl⟩) rfl (fun H locs hP hD hS => ?_)
                                obtain rfl := Option.some.inj h
                                exact rw_i (R := rmOf 1 0 0) F hP hD hS hr hlk ⟨Nat.le_of_ble_eq_true rfl, Nat.le_of_ble_eq_true rfl⟩ ⟨rfl, rfl⟩ (dd D_X9_copy 104 rfl)
                · refine lv_aload_n F.1 F.2.1 (dd D_X9_copy 63 rfl) rfl (lv_at hl 0 rfl) ?_
                  refine lv_bipush (v := (-4 : Int32)) F.1 F.2.1 (dd D_X9_copy 64 rfl) kb_m4 ?_
                  obtain ⟨r113, e114, h⟩ := Option.bind_eq_some_iff.mp h
                  refine rwe_all (st' := [.int r113.1]) hD hS hA (rV (rest := []) F (c_X9_refuse D cA am s n (-4 : Int32) r113 e114 l H.size) lk_X9_79 (Nat.le_of_ble_eq_true rfl) (preRW hK hS hAb hP hD) (rcv_9 hK hP (q0 := (0)) (mp_0 cA am s)) rfl hl rfl (Nat.le_of_ble_eq_true rfl) (dd D_X9_copy 65 rfl) ⟨Nat.le_of_ble_eq_true rfl, Nat.le_of_ble_eq_true rfl⟩) rfl (fun H locs hP hD hS => ?_)
                  obtain rfl := Option.some.inj h
                  exact rw_i (R := rmOf 1 0 0) F hP hD hS hr hlk ⟨Nat.le_of_ble_eq_true rfl, Nat.le_of_ble_eq_true rfl⟩ ⟨rfl, rfl⟩ (dd D_X9_copy 66 rfl)
            · refine lv_aload_n F.1 F.2.1 (dd D_X9_copy 40 rfl) rfl (lv_at hl 0 rfl) ?_
              refine getF F hK hP lf_X9_13 (0) (mp_0 cA am s) rfl (dd D_X9_copy 41 rfl) ?_
              refine lv_iload_n F.1 F.2.1 (dd D_X9_copy 42 rfl) rfl (lv_at hl 1 rfl) ?_
              refine aldI F hK hP (2) (mp_2 cA am s) h (dd D_X9_copy 43 rfl) (fun z115 h => ?_)
              refine lv_aload_n F.1 F.2.1 (dd D_X9_copy 44 rfl) rfl (lv_at hl 0 rfl) ?_
              refine getF F hK hP lf_X9_13 (0) (mp_0 cA am s) rfl (dd D_X9_copy 45 rfl) ?_
              refine lv_iload_n F.1 F.2.1 (dd D_X9_copy 46 rfl) rfl (lv_at hl 2 rfl) ?_
              refine aldI F hK hP (2) (mp_2 cA am s) h (dd D_X9_copy 47 rfl) (fun z116 h => ?_)
              refine x_icmp_eq (tgt := 93) F.1 F.2.1 (dd D_X9_copy 48 rfl) rfl h (fun c117 h => ?_) (fun c117 h => ?_)
              · refine lv_aload_n F.1 F.2.1 (dd D_X9_copy 53 rfl) rfl (lv_at hl 0 rfl) ?_
                refine getF F hK hP lf_X9_7 (0) (mp_0 cA am s) rfl (dd D_X9_copy 54 rfl) ?_
                refine lv_iload_n F.1 F.2.1 (dd D_X9_copy 55 rfl) rfl (lv_at hl 1 rfl) ?_
                refine aldI F hK hP (1) (mp_1 cA am s) h (dd D_X9_copy 56 rfl) (fun z118 h => ?_)
                refine x_if_eq (tgt := 111) F.1 F.2.1 (dd D_X9_copy 57 rfl) rfl h (fun c119 h => ?_) (fun c119 h => ?_)
                · refine lv_aload_n F.1 F.2.1 (dd D_X9_copy 63 rfl) rfl (lv_at hl 0 rfl) ?_
                  refine lv_bipush (v := (-4 : Int32)) F.1 F.2.1 (dd D_X9_copy 64 rfl) kb_m4 ?_
                  obtain ⟨r120, e121, h⟩ := Option.bind_eq_some_iff.mp h
                  refine rwe_all (st' := [.int r120.1]) hD hS hA (rV (rest := []) F (c_X9_refuse D cA am s n (-4 : Int32) r120 e121 l H.size) lk_X9_79 (Nat.le_of_ble_eq_true rfl) (preRW hK hS hAb hP hD) (rcv_9 hK hP (q0 := (0)) (mp_0 cA am s)) rfl hl rfl (Nat.le_of_ble_eq_true rfl) (dd D_X9_copy 65 rfl) ⟨Nat.le_of_ble_eq_true rfl, Nat.le_of_ble_eq_true rfl⟩) rfl (fun H locs hP hD hS => ?_)
                  obtain rfl := Option.some.inj h
                  exact rw_i (R := rmOf 1 0 0) F hP hD hS hr hlk ⟨Nat.le_of_ble_eq_true rfl, Nat.le_of_ble_eq_true rfl⟩ ⟨rfl, rfl⟩ (dd D_X9_copy 66 rfl)
                · refine lv_aload_n F.1 F.2.1 (dd D_X9_copy 58 rfl) rfl (lv_at hl 0 rfl) ?_
                  refine getF F hK hP lf_X9_7 (0) (mp_0 cA am s) rfl (dd D_X9_copy 59 rfl) ?_
                  refine lv_iload_n F.1 F.2.1 (dd D_X9_copy 60 rfl) rfl (lv_at hl 2 rfl) ?_
                  refine aldI F hK hP (1) (mp_1 cA am s) h (dd D_X9_copy 61 rfl) (fun z122 h => ?_)
                  refine x_if_ne (tgt := 118) F.1 F.2.1 (dd D_X9_copy 62 rfl) rfl h (fun c123 h => ?_) (fun c123 h => ?_)
                  · refine lv_iload F.1 F.2.1 (dd D_X9_copy 67 rfl) (lv_at hl 5 rfl) ?_
                    refine x_if_lt (tgt := 181) F.1 F.2.1 (dd D_X9_copy 68 rfl) rfl h (fun c124 h => ?_) (fun c124 h => ?_)
                    · refine lv_aload_n F.1 F.2.1 (dd D_X9_copy 101 rfl) rfl (lv_at hl 0 rfl) ?_
                      refine lv_bipush (v := (-2 : Int32)) F.1 F.2.1 (dd D_X9_copy 102 rfl) kb_m2 ?_
                      obtain ⟨r125, e126, h⟩ := Option.bind_eq_some_iff.mp h
                      refine rwe_all (st' := [.int r125.1]) hD hS hA (rV (rest := []) F (c_X9_refuse D cA am s n (-2 : Int32) r125 e126 l H.size) lk_X9_79 (Nat.le_of_ble_eq_true rfl) (preRW hK hS hAb hP hD) (rcv_9 hK hP (q0 := (0)) (mp_0 cA am s)) rfl hl rfl (Nat.le_of_ble_eq_true rfl) (dd D_X9_copy 103 rfl) ⟨Nat.le_of_ble_eq_true rfl, Nat.le_of_ble_eq_true rfl⟩) rfl (fun H locs hP hD hS => ?_)
                      obtain rfl := Option.some.inj h
                      exact rw_i (R := rmOf 1 0 0) F hP hD hS hr hlk ⟨Nat.le_of_ble_eq_true rfl, Nat.le_of_ble_eq_true rfl⟩ ⟨rfl, rfl⟩ (dd D_X9_copy 104 rfl)
                    · refine lv_iload_n F.1 F.2.1 (dd D_X9_copy 69 rfl) rfl (lv_at hl 3 rfl) ?_
                      refine x_if_lt (tgt := 181) F.1 F.2.1 (dd D_X9_copy 70 rfl) rfl h (fun c127 h => ?_) (fun c127 h => ?_)
                      · refine lv_aload_n F.1 F.2.1 (dd D_X9_copy 101 rfl) rfl (lv_at hl 0 rfl) ?_
                        refine lv_bipush (v := (-2 : Int32)) F.1 F.2.1 (dd D_X9_copy 102 rfl) kb_m2 ?_
                        obtain ⟨r128, e129, h⟩ := Option.bind_eq_some_iff.mp h
                        refine rwe_all (st' := [.int r128.1]) hD hS hA (rV (rest := []) F (c_X9_refuse D cA am s n (-2 : Int32) r128 e129 l H.size) lk_X9_79 (Nat.le_of_ble_eq_true rfl) (preRW hK hS hAb hP hD) (rcv_9 hK hP (q0 := (0)) (mp_0 cA am s)) rfl hl rfl (Nat.le_of_ble_eq_true rfl) (dd D_X9_copy 103 rfl) ⟨Nat.le_of_ble_eq_true rfl, Nat.le_of_ble_eq_true rfl⟩) rfl (fun H locs hP hD hS => ?_)
                        obtain rfl := Option.some.inj h
                        exact rw_i (R := rmOf 1 0 0) F hP hD hS hr hlk ⟨Nat.le_of_ble_eq_true rfl, Nat.le_of_ble_eq_true rfl⟩ ⟨rfl, rfl⟩ (dd D_X9_copy 104 rfl)
                      · refine lv_iload F.1 F.2.1 (dd D_X9_copy 71 rfl) (lv_at hl 4 rfl) ?_
                        refine x_if_lt (tgt := 181) F.1 F.2.1 (dd D_X9_copy 72 rfl) rfl h (fun c130 h => ?_) (fun c130 h => ?_)
                        · refine lv_aload_n F.1 F.2.1 (dd D_X9_copy 101 rfl) rfl (lv_at hl 0 rfl) ?_
                          refine lv_bipush (v := (-2 : Int32)) F.1 F.2.1 (dd D_X9_copy 102 rfl) kb_m2 ?_
                          obtain ⟨r131, e132, h⟩ := Option.bind_eq_some_iff.mp h
                          refine rwe_all (st' := [.int r131.1]) hD hS hA (rV (rest := []) F (c_X9_refuse D cA am s n (-2 : Int32) r131 e132 l H.size) lk_X9_79 (Nat.le_of_ble_eq_true rfl) (preRW hK hS hAb hP hD) (rcv_9 hK hP (q0 := (0)) (mp_0 cA am s)) rfl hl rfl (Nat.le_of_ble_eq_true rfl) (dd D_X9_copy 103 rfl) ⟨Nat.le_of_ble_eq_true rfl, Nat.le_of_ble_eq_true rfl⟩) rfl (fun H locs hP hD hS => ?_)
                          obtain rfl := Option.some.inj h
                          exact rw_i (R := rmOf 1 0 0) F hP hD hS hr hlk ⟨Nat.le_of_ble_eq_true rfl, Nat.le_of_ble_eq_true rfl⟩ ⟨rfl, rfl⟩ (dd D_X9_copy 104 rfl)
                        · refine lv_iload F.1 F.2.1 (dd D_X9_copy 73 rfl) (lv_at hl 5 rfl) ?_
                          refine lv_aload_n F.1 F.2.1 (dd D_X9_copy 74 rfl) rfl (lv_at hl 0 rfl) ?_
                          refine getF F hK hP lf_X9_16 (0) (mp_0 cA am s) rfl (dd D_X9_copy 75 rfl) ?_
                          refine lv_iload_n F.1 F.2.1 (dd D_X9_copy 76 rfl) rfl (lv_at hl 1 rfl) ?_
                          refine aldI F hK hP (3) (mp_3 cA am s) h (dd D_X9_copy 77 rfl) (fun z133 h => ?_)
                          refine x_icmp_gt (tgt := 181) F.1 F.2.1 (dd D_X9_copy 78 rfl) rfl h (fun c134 h => ?_) (fun c134 h => ?_)
                          · refine lv_aload_n F.1 F.2.1 (dd D_X9_copy 101 rfl) rfl (lv_at hl 0 rfl) ?_
                            refine lv_bipush (v := (-2 : Int32)) F.1 F.2.1 (dd D_X9_copy 102 rfl) kb_m2 ?_
                            obtain ⟨r135, e136, h⟩ := Option.bind_eq_some_iff.mp h
                            refine rwe_all (st' := [.int r135.1]) hD hS hA (rV (rest := []) F (c_X9_refuse D cA am s n (-2 : Int32) r135 e136 l H.size) lk_X9_79 (Nat.le_of_ble_eq_true rfl) (preRW hK hS hAb hP hD) (rcv_9 hK hP (q0 := (0)) (mp_0 cA am s)) rfl hl rfl (Nat.le_of_ble_eq_true rfl) (dd D_X9_copy 103 rfl) ⟨Nat.le_of_ble_eq_true rfl, Nat.le_of_ble_eq_true rfl⟩) rfl (fun H locs hP hD hS => ?_)
                            obtain rfl := Option.some.inj h
                            exact rw_i (R := rmOf 1 0 0) F hP hD hS hr hlk ⟨Nat.le_of_ble_eq_true rfl, Nat.le_of_ble_eq_true rfl⟩ ⟨rfl, rfl⟩ (dd D_X9_copy 104 rfl)
                          · refine lv_iload F.1 F.2.1 (dd D_X9_copy 79 rfl) (lv_at hl 5 rfl) ?_
                            refine lv_aload_n F.1 F.2.1 (dd D_X9_copy 80 rfl) rfl (lv_at hl 0 rfl) ?_
                            refine getF F hK hP lf_X9_16 (0) (mp_0 cA am s) rfl (dd D_X9_copy 81 rfl) ?_
                            refine lv_iload_n F.1 F.2.1 (dd D_X9_copy 82 rfl) rfl (lv_at hl 2 rfl) ?_
                            refine aldI F hK hP (3) (mp_3 cA am s) h (dd D_X9_copy 83 rfl) (fun z137 h => ?_)
                            refine x_icmp_gt (tgt := 181) F.1 F.2.1 (dd D_X9_copy 84 rfl) rfl h (fun c138 h => ?_) (fun c138 h => ?_)
                            · refine lv_aload_n F.1 F.2.1 (dd D_X9_copy 101 rfl) rfl (lv_at hl 0 rfl) ?_
                              refine lv_bipush (v := (-2 : Int32)) F.1 F.2.1 (dd D_X9_copy 102 rfl) kb_m2 ?_
                              obtain ⟨r139, e140, h⟩ := Option.bind_eq_some_iff.mp h
                              refine rwe_all (st' := [.int r139.1]) hD hS hA (rV (rest := []) F (c_X9_refuse D cA am s n (-2 : Int32) r139 e140 l H.size) lk_X9_79 (Nat.le_of_ble_eq_true rfl) (preRW hK hS hAb hP hD) (rcv_9 hK hP (q0 := (0)) (mp_0 cA am s)) rfl hl rfl (Nat.le_of_ble_eq_true rfl) (dd D_X9_copy 103 rfl) ⟨Nat.le_of_ble_eq_true rfl, Nat.le_of_ble_eq_true rfl⟩) rfl (fun H locs hP hD hS => ?_)
                              obtain rfl := Option.some.inj h
                              exact rw_i (R := rmOf 1 0 0) F hP hD hS hr hlk ⟨Nat.le_of_ble_eq_true rfl, Nat.le_of_ble_eq_true rfl⟩ ⟨rfl, rfl⟩ (dd D_X9_copy 104 rfl)
                            · refine lv_iload_n F.1 F.2.1 (dd D_X9_copy 85 rfl) rfl (lv_at hl 3 rfl) ?_
                              refine lv_aload_n F.1 F.2.1 (dd D_X9_copy 86 rfl) rfl (lv_at hl 0 rfl) ?_
                              refine getF F hK hP lf_X9_16 (0) (mp_0 cA am s) rfl (dd D_X9_copy 87 rfl) ?_
                              refine lv_iload_n F.1 F.2.1 (dd D_X9_copy 88 rfl) rfl (lv_at hl 1 rfl) ?_
                              refine aldI F hK hP (3) (mp_3 cA am s) h (dd D_X9_copy 89 rfl) (fun z141 h => ?_)
                              refine lv_iload F.1 F.2.1 (dd D_X9_copy 90 rfl) (lv_at hl 5 rfl) ?_
                              refine lv_isub F.1 F.2.1 (dd D_X9_copy 91 rfl) ?_
                              refine x_icmp_gt (tgt := 181) F.1 F.2.1 (dd D_X9_copy 92 rfl) rfl h (fun c142 h => ?_) (fun c142 h => ?_)
                              · refine lv_aload_n F.1 F.2.1 (dd D_X9_copy 101 rfl) rfl (lv_at hl 0 rfl) ?_
                                refine lv_bipush (v := (-2 : Int32)) F.1 F.2.1 (dd D_X9_copy 102 rfl) kb_m2 ?_
                                obtain ⟨r143, e144, h⟩ := Option.bind_eq_some_iff.mp h
                                refine rwe_all (st' := [.int r143.1]) hD hS hA (rV (rest := []) F (c_X9_refuse D cA am s n (-2 : Int32) r143 e144 l H.size) lk_X9_79 (Nat.le_of_ble_eq_true rfl) (preRW hK hS hAb hP hD) (rcv_9 hK hP (q0 := (0)) (mp_0 cA am s)) rfl hl rfl (Nat.le_of_ble_eq_true rfl) (dd D_X9_copy 103 rfl) ⟨Nat.le_of_ble_eq_true rfl, Nat.le_of_ble_eq_true rfl⟩) rfl (fun H locs hP hD hS => ?_)
                                obtain rfl := Option.some.inj h
                                exact rw_i (R := rmOf 1 0 0) F hP hD hS hr hlk ⟨Nat.le_of_ble_eq_true rfl, Nat.le_of_ble_eq_true rfl⟩ ⟨rfl, rfl⟩ (dd D_X9_copy 104 rfl)
                              · refine lv_iload F.1 F.2.1 (dd D_X9_copy 93 rfl) (lv_at hl 4 rfl) ?_
                                refine lv_aload_n F.1 F.2.1 (dd D_X9_copy 94 rfl) rfl (lv_at hl 0 rfl) ?_
                                refine getF F hK hP lf_X9_16 (0) (mp_0 cA am s) rfl (dd D_X9_copy 95 rfl) ?_
                                refine lv_iload_n F.1 F.2.1 (dd D_X9_copy 96 rfl) rfl (lv_at hl 2 rfl) ?_
                                refine aldI F hK hP (3) (mp_3 cA am s) h (dd D_X9_copy 97 rfl) (fun z145 h => ?_)
                                refine lv_iload F.1 F.2.1 (dd D_X9_copy 98 rfl) (lv_at hl 5 rfl) ?_
                                refine lv_isub F.1 F.2.1 (dd D_X9_copy 99 rfl) ?_
                                refine x_icmp_le (tgt := 188) F.1 F.2.1 (dd D_X9_copy 100 rfl) rfl h (fun c146 h => ?_) (fun c146 h => ?_)
                                · refine lv_iconst (v := (0 : Int32)) F.1 F.2.1 (dd D_X9_copy 105 rfl) ki_0 ?_
                                  refine lv_istore (lv' := [(6, .int (0 : Int32)), (0, .ref (am 0)), (1, .int p1), (2, .int p2), (3, .int p3), (4, .int p4), (5, .int p5)]) F.1 F.2.1 (dd D_X9_copy 106 rfl) hl (Nat.le_of_ble_eq_true rfl) rfl (fun ls hl => ?_)
                                  have L147 : ∀ (kf : Nat) (w6_L147 : Int32) (u0_L147 : MS) (H : Heap) (locs : List Loc) (ls : Array Slot), va_P D vwCl (mW cA am u0_L147) H → va_D A (mW cA am u0_L147) → va_S A sM.heap H locs → lv_has ls 7 [(0, .ref (am 0)), (1, .int p1), (2, .int p2), (3, .int p3), (4, .int p4), (5, .int p5), (6, .int w6_L147)] → F_X9_copy_L191 n p1 p2 p3 p4 p5 kf w6_L147 u0_L147 = some r → Wrw 1 0 0 D A (exq (some (.int r.1)) (mW cA am r.2)) p l e sM m ([.ref (am 0), .int p1, .int p2, .int p3, .int p4, .int p5] : List Value).toArray below meth c H locs 0 0 191 ls [] := by
                                    intro kf
                                    induction kf with
                                    | zero =>
                                      intro w6_L147 u0_L147 H locs ls hP hD hS hl h
                                      cases (show none = some r from h)
                                    | succ k_L147 ih_L147 =>
                                      intro w6_L147 u0_L147 H locs ls hP hD hS hl h
                                      unfold F_X9_copy_L191 at h
                                      refine lv_iload F.1 F.2.1 (dd D_X9_copy 107 rfl) (lv_at hl 6 rfl) ?_
                                      refine lv_iload F.1 F.2.1 (dd D_X9_copy 108 rfl) (lv_at hl 5 rfl) ?_
                                      refine x_icmp_ge (tgt := 222) F.1 F.2.1 (dd D_X9_copy 109 rfl) rfl h (fun c148 h => ?_) (fun c148 h => ?_)
                                      · refine lv_iconst (v := (0 : Int32)) F.1 F.2.1 (dd D_X9_copy 124 rfl) ki_0 ?_
                                        refine lv_istore (lv' := [(6, .int (0 : Int32)), (0, .ref (am 0)), (1, .int p1), (2, .int p2), (3, .int p3), (4, .int p4), (5, .int p5)]) F.1 F.2.1 (dd D_X9_copy 125 rfl) hl (Nat.le_of_ble_eq_true rfl) rfl (fun ls hl => ?_)
                                        have L149 : ∀ (kf : Nat) (w6_L149 : Int32) (u0_L149 : MS) (H : Heap) (locs : List Loc) (ls : Array Slot), va_P D vwCl (mW cA am u0_L149) H → va_D A (mW cA am u0_L149) → va_S A sM.heap H locs → lv_has ls 7 [(0, .ref (am 0)), (1, .int p1), (2, .int p2), (3, .int p3), (4, .int p4), (5, .int p5), (6, .int w6_L149)] → F_X9_copy_L225 n (F_X9_copy_L191 n p1 p2 p3 p4 p5 k_L147) p1 p2 p3 p4 p5 kf w6_L149 u0_L149 = some r → Wrw 1 0 0 D A (exq (some (.int r.1)) (mW cA am r.2)) p l e sM m ([.ref (am 0), .int p1, .int p2, .int p3, .int p4, .int p5] : List Value).toArray below meth c H locs 0 0 225 ls [] := by
                                          intro kf
                                          induction kf with
                                          | zero =>
                                            intro w6_L149 u0_L149 H locs ls hP hD hS hl h
                                            cases (show none = some r from h)
                                          | succ k_L149 ih_L149 =>
                                            intro w6_L149 u0_L149 H locs ls hP hD hS hl h
                                            unfold F_X9_copy_L225 at h
                                            refine lv_iload F.1 F.2.1 (dd D_X9_copy 126 rfl) (lv_at hl 6 rfl) ?_
                                            refine lv_iload F.1 F.2.1 (dd D_X9_copy 127 rfl) (lv_at hl 5 rfl) ?_
                                            refine x_icmp_ge (tgt := 257) F.1 F.2.1 (dd D_X9_copy 128 rfl) rfl h (fun c150 h => ?_) (fun c150 h => ?_)
                                            · refine lv_iload F.1 F.2.1 (dd D_X9_copy 143 rfl) (lv_at hl 5 rfl) ?_
                                              obtain rfl := Option.some.inj h
                                              exact rw_i (R := rmOf 1 0 0) F hP hD hS hr hlk ⟨Nat.le_of_ble_eq_true rfl, Nat.le_of_ble_eq_true rfl⟩ ⟨rfl, rfl⟩ (dd D_X9_copy 144 rfl)
                                            · refine lv_aload_n F.1 F.2.1 (dd D_X9_copy 129 rfl) rfl (lv_at hl 0 rfl) ?_
                                              refine getF F hK hP lf_X9_21 (0) (mp_0 cA am u0_L149) rfl (dd D_X9_copy 130 rfl) ?_
                                              refine lv_iload_n F.1 F.2.1 (dd D_X9_copy 131 rfl) rfl (lv_at hl 2 rfl) ?_
                                              refine aldA (g := fun j => am (5+j)) F hK hP (4) (mp_4 cA am u0_L149) 5 rfl (fun _ => rfl) h (dd D_X9_copy 132 rfl) (fun z151 h => ?_)
                                              have hk152 : (Int32.toNatClampNeg p2) < 8 := inb_lt z151
                                              refine lv_iload F.1 F.2.1 (dd D_X9_copy 133 rfl) (lv_at hl 4 rfl) ?_
                                              refine lv_iload F.1 F.2.1 (dd D_X9_copy 134 rfl) (lv_at hl 6 rfl) ?_
                                              refine lv_iadd F.1 F.2.1 (dd D_X9_copy 135 rfl) ?_
                                              refine lv_aload_n F.1 F.2.1 (dd D_X9_copy 136 rfl) rfl (lv_at hl 0 rfl) ?_
                                              refine getF F hK hP lf_X9_24 (0) (mp_0 cA am u0_L149) rfl (dd D_X9_copy 137 rfl) ?_
                                              refine lv_iload F.1 F.2.1 (dd D_X9_copy 138 rfl) (lv_at hl 6 rfl) ?_
                                              refine aldL F hK hP (13) (mp_13 cA am u0_L149) h (dd D_X9_copy 139 rfl) (fun z153 h => ?_)
                                              refine astL F hK hP hD hS (5+(Int32.toNatClampNeg p2)) (mp_row cA am u0_L149 (Int32.toNatClampNeg p2) hk152) h (ws' := (mW cA am (m_set_rows u0_L149 (va_up (m_rows u0_L149) (Int32.toNatClampNeg p2) (vp_updL (m_rows u0_L149 (Int32.toNatClampNeg p2)) (Int32.toNatClampNeg (p4 + w6_L149)) ((m_moved u0_L149) (Int32.toNatClampNeg w6_L149))))))) (ms_row cA am u0_L149 (vp_updL (m_rows u0_L149 (Int32.toNatClampNeg p2)) (Int32.toNatClampNeg (p4 + w6_L149)) ((m_moved u0_L149) (Int32.toNatClampNeg w6_L149))) (Int32.toNatClampNeg p2) hk152) (dd D_X9_copy 140 rfl) (fun z154 h H locs hP hD hS => ?_)
                                              refine lv_iinc (v := (w6_L149 + (1 : Int32))) (lv' := [(6, .int (w6_L149 + (1 : Int32))), (0, .ref (am 0)), (1, .int p1), (2, .int p2), (3, .int p3), (4, .int p4), (5, .int p5)]) F.1 F.2.1 (dd D_X9_copy 141 rfl) hl (k := 6) rfl (congrArg (fun z => w6_L149 + z) ki_1) (Nat.le_of_ble_eq_true rfl) rfl (fun ls hl => ?_)
                                              refine lv_goto (tgt := 225) F.1 F.2.1 (dd D_X9_copy 142 rfl) rfl ?_
                                              exact ih_L149 (w6_L149 + (1 : Int32)) (m_set_rows u0_L149 (va_up (m_rows u0_L149) (Int32.toNatClampNeg p2) (vp_updL (m_rows u0_L149 (Int32.toNatClampNeg p2)) (Int32.toNatClampNeg (p4 + w6_L149)) ((m_moved u0_L149) (Int32.toNatClampNeg w6_L149))))) _ _ ls hP hD hS (lv_sub hl [1, 2, 3, 4, 5, 6, 0] rfl) h
                                        exact L149 n (0 : Int32) u0_L147 _ _ ls hP hD hS (lv_sub hl [1, 2, 3, 4, 5, 6, 0] rfl) h
                                      · refine lv_aload_n F.1 F.2.1 (dd D_X9_copy 110 rfl) rfl (lv_at hl 0 rfl) ?_
                                        refine getF F hK hP lf_X9_24 (0) (mp_0 cA am u0_L147) rfl (dd D_X9_copy 111 rfl) ?_
                                        refine lv_iload F.1 F.2.1 (dd D_X9_copy 112 rfl) (lv_at hl 6 rfl) ?_
                                        refine lv_aload_n F.1 F.2.1 (dd D_X9_copy 113 rfl) rfl (lv_at hl 0 rfl) ?_
                                        refine getF F hK hP lf_X9_21 (0) (mp_0 cA am u0_L147) rfl (dd D_X9_copy 114 rfl) ?_
                                        refine lv_iload_n F.1 F.2.1 (dd D_X9_copy 115 rfl) rfl (lv_at hl 1 rfl) ?_
                                        refine aldA (g := fun j => am (5+j)) F hK hP (4) (mp_4 cA am u0_L147) 5 rfl (fun _ => rfl) h (dd D_X9_copy 116 rfl) (fun z155 h => ?_)
                                        have hk156 : (Int32.toNatClampNeg p1) < 8 := inb_lt z155
                                        refine lv_iload_n F.1 F.2.1 (dd D_X9_copy 117 rfl) rfl (lv_at hl 3 rfl) ?_
                                        refine lv_iload F.1 F.2.1 (dd D_X9_copy 118 rfl) (lv_at hl 6 rfl) ?_
                                        refine lv_iadd F.1 F.2.1 (dd D_X9_copy 119 rfl) ?_
                                        refine aldL F hK hP (5+(Int32.toNatClampNeg p1)) (mp_row cA am u0_L147 (Int32.toNatClampNeg p1) hk156) h (dd D_X9_copy 120 rfl) (fun z157 h => ?_)
                                        refine astL F hK hP hD hS (13) (mp_13 cA am u0_L147) h (ws' := (mW cA am (m_set_moved u0_L147 (vp_updL (m_moved u0_L147) (Int32.toNatClampNeg w6_L147) ((m_rows u0_L147 (Int32.toNatClampNeg p1)) (Int32.toNatClampNeg (p3 + w6_L147))))))) (ms_13 cA am u0_L147 (vp_updL (m_moved u0_L147) (Int32.toNatClampNeg w6_L147) ((m_rows u0_L147 (Int32.toNatClampNeg p1)) (Int32.toNatClampNeg (p3 + w6_L147))))) (dd D_X9_copy 121 rfl) (fun z158 h H locs hP hD hS => ?_)
                                        refine lv_iinc (v := (w6_L147 + (1 : Int32))) (lv' := [(6, .int (w6_L147 + (1 : Int32))), (0, .ref (am 0)), (1, .int p1), (2, .int p2), (3, .int p3), (4, .int p4), (5, .int p5)]) F.1 F.2.1 (dd D_X9_copy 122 rfl) hl (k := 6) rfl (congrArg (fun z => w6_L147 + z) ki_1) (Nat.le_of_ble_eq_true rfl) rfl (fun ls hl => ?_)
                                        refine lv_goto (tgt := 191) F.1 F.2.1 (dd D_X9_copy 123 rfl) rfl ?_
                                        exact ih_L147 (w6_L147 + (1 : Int32)) (m_set_moved u0_L147 (vp_updL (m_moved u0_L147) (Int32.toNatClampNeg w6_L147) ((m_rows u0_L147 (Int32.toNatClampNeg p1)) (Int32.toNatClampNeg (p3 + w6_L147))))) _ _ ls hP hD hS (lv_sub hl [1, 2, 3, 4, 5, 6, 0] rfl) h
                                  exact L147 n (0 : Int32) s _ _ ls hP hD hS (lv_sub hl [1, 2, 3, 4, 5, 6, 0] rfl) h
                                · refine lv_aload_n F.1 F.2.1 (dd D_X9_copy 101 rfl) rfl (lv_at hl 0 rfl) ?_
                                  refine lv_bipush (v := (-2 : Int32)) F.1 F.2.1 (dd D_X9_copy 102 rfl) kb_m2 ?_
                                  obtain ⟨r159, e160, h⟩ := Option.bind_eq_some_iff.mp h
                                  refine rwe_all (st' := [.int r159.1]) hD hS hA (rV (rest := []) F (c_X9_refuse D cA am s n (-2 : Int32) r159 e160 l H.size) lk_X9_79 (Nat.le_of_ble_eq_true rfl) (preRW hK hS hAb hP hD) (rcv_9 hK hP (q0 := (0)) (mp_0 cA am s)) rfl hl rfl (Nat.le_of_ble_eq_true rfl) (dd D_X9_copy 103 rfl) ⟨Nat.le_of_ble_eq_true rfl, Nat.le_of_ble_eq_true rfl⟩) rfl (fun H locs hP hD hS => ?_)
                                  obtain rfl := Option.some.inj h
                                  exact rw_i (R := rmOf 1 0 0) F hP hD hS hr hlk ⟨Nat.le_of_ble_eq_true rfl, Nat.le_of_ble_eq_true rfl⟩ ⟨rfl, rfl⟩ (dd D_X9_copy 104 rfl)
                  · refine lv_aload_n F.1 F.2.1 (dd D_X9_copy 63 rfl) rfl (lv_at hl 0 rfl) ?_
                    refine lv_bipush (v := (-4 : Int32)) F.1 F.2.1 (dd D_X9_copy 64 rfl) kb_m4 ?_
                    obtain ⟨r161, e162, h⟩ := Option.bind_eq_some_iff.mp h
                    refine rwe_all (st' := [.int r161.1]) hD hS hA (rV (rest := []) F (c_X9_refuse D cA am s n (-4 : Int32) r161 e162 l H.size) lk_X9_79 (Nat.le_of_ble_eq_true rfl) (preRW hK hS hAb hP hD) (rcv_9 hK hP (q0 := (0)) (mp_0 cA am s)) rfl hl rfl (Nat.le_of_ble_eq_true rfl) (dd D_X9_copy 65 rfl) ⟨Nat.le_of_ble_eq_true rfl, Nat.le_of_ble_eq_true rfl⟩) rfl (fun H locs hP hD hS => ?_)
                    obtain rfl := Option.some.inj h
                    exact rw_i (R := rmOf 1 0 0) F hP hD hS hr hlk ⟨Nat.le_of_ble_eq_true rfl, Nat.le_of_ble_eq_true rfl⟩ ⟨rfl, rfl⟩ (dd D_X9_copy 66 rfl)
              · refine lv_aload_n F.1 F.2.1 (dd D_X9_copy 49 rfl) rfl (lv_at hl 0 rfl) ?_
                refine lv_bipush (v := (-3 : Int32)) F.1 F.2.1 (dd D_X9_copy 50 rfl) kb_m3 ?_
                obtain ⟨r163, e164, h⟩ := Option.bind_eq_some_iff.mp h
                refine rwe_all (st' := [.int r163.1]) hD hS hA (rV (rest := []) F (c_X9_refuse D cA am s n (-3 : Int32) r163 e164 l H.size) lk_X9_79 (Nat.le_of_ble_eq_true rfl) (preRW hK hS hAb hP hD) (rcv_9 hK hP (q0 := (0)) (mp_0 cA am s)) rfl hl rfl (Nat.le_of_ble_eq_true rfl) (dd D_X9_copy 51 rfl) ⟨Nat.le_of_ble_eq_true rfl, Nat.le_of_ble_eq_true rfl⟩) rfl (fun H locs hP hD hS => ?_)
                obtain rfl := Option.some.inj h
                exact rw_i (R := rmOf 1 0 0) F hP hD hS hr hlk ⟨Nat.le_of_ble_eq_true rfl, Nat.le_of_ble_eq_true rfl⟩ ⟨rfl, rfl⟩ (dd D_X9_copy 52 rfl)
    · refine lv_aload_n F.1 F.2.1 (dd D_X9_copy 12 rfl) rfl (lv_at hl 0 rfl) ?_
      refine lv_bipush (v := (-2 : Int32)) F.1 F.2.1 (dd D_X9_copy 13 rfl) kb_m2 ?_
      obtain ⟨r165, e166, h⟩ := Option.bind_eq_some_iff.mp h
      refine rwe_all (st' := [.int r165.1]) hD hS hA (rV (rest := []) F (c_X9_refuse D cA am s n (-2 : Int32) r165 e166 l H.size) lk_X9_79 (Nat.le_of_ble_eq_true rfl) (preRW hK hS hAb hP hD) (rcv_9 hK hP (q0 := (0)) (mp_0 cA am s)) rfl hl rfl (Nat.le_of_ble_eq_true rfl) (dd D_X9_copy 14 rfl) ⟨Nat.le_of_ble_eq_true rfl, Nat.le_of_ble_eq_true rfl⟩) rfl (fun H locs hP hD hS => ?_)
      obtain rfl := Option.some.inj h
      exact rw_i (R := rmOf 1 0 0) F hP hD hS hr hlk ⟨Nat.le_of_ble_eq_true rfl, Nat.le_of_ble_eq_true rfl⟩ ⟨rfl, rfl⟩ (dd D_X9_copy 15 rfl)
