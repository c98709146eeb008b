def F_X9_notchOf (n : Nat) (s : MS) (p1 : Int32) (p2 : Int32) : Option (Int32 × MS) := bf (F_X9_in (Int32.toInt64 p1) (0 : Int64) (Int32.toInt64 ((m_notches s) - (1 : Int32)))) (bf (F_X9_in (Int32.toInt64 p2) (0 : Int64) (2 : Int64)) (gd (inb p1 8) (gd (inb p2 3) (some (((m_notch s (Int32.toNatClampNeg p1)) (Int32.toNatClampNeg p2)), s)))) ((((F_X9_refuse n s (-2 : Int32))).bind fun r3 => some (r3.1, r3.2)))) ((((F_X9_refuse n s (-2 : Int32))).bind fun r1 => some (r1.1, r1.2)))
set_option maxHeartbeats 4000000 in
set_option maxRecDepth 100000 in
theorem c_X9_notchOf (D : va_G) (cA : Nat → ClassId) (am : Nat → Nat) (s : MS) (n : Nat) (p1 : Int32) (p2 : Int32) (r : (Int32 × MS)) (h : F_X9_notchOf n s p1 p2 = some r) : RW m_X9_notchOf 1 0 0 D cA [.ref (am 0), .int p1, .int p2] (mW cA am s) (exq (some (.int r.1)) (mW cA am r.2)) := by
  refine RW.ofW gy_X9_notchOf.2.2 (Nat.le_of_ble_eq_true rfl) ?_
  intro l p e sM m below meth c A H locs F hr hlk hnm hK hP hD hS hA hAb ls hl
  have hl : lv_has ls 3 [(0, .ref (am 0)), (1, .int p1), (2, .int p2)] := hl
  unfold F_X9_notchOf at h
  refine lv_iload_n F.1 F.2.1 (dd D_X9_notchOf 0 rfl) rfl (lv_at hl 1 rfl) ?_
  refine lv_i2l (v := (Int32.toInt64 p1)) F.1 F.2.1 (dd D_X9_notchOf 1 rfl) rfl ?_
  refine lv_lconst (v := (0 : Int64)) F.1 F.2.1 (dd D_X9_notchOf 2 rfl) kl_0 ?_
  refine lv_aload_n F.1 F.2.1 (dd D_X9_notchOf 3 rfl) rfl (lv_at hl 0 rfl) ?_
  refine getF F hK hP lf_X9_116 (0) (mp_0 cA am s) rfl (dd D_X9_notchOf 4 rfl) ?_
  refine lv_iconst (v := (1 : Int32)) F.1 F.2.1 (dd D_X9_notchOf 5 rfl) ki_1 ?_
  refine lv_isub F.1 F.2.1 (dd D_X9_notchOf 6 rfl) ?_
  refine lv_i2l (v := (Int32.toInt64 ((m_notches s) - (1 : Int32)))) F.1 F.2.1 (dd D_X9_notchOf 7 rfl) rfl ?_
  refine ro_go (st' := [.int (bI (F_X9_in (Int32.toInt64 p1) (0 : Int64) (Int32.toInt64 ((m_notches s) - (1 : Int32)))))]) (rS (rest := []) F (c_X9_in D cA (Int32.toInt64 p1) (0 : Int64) (Int32.toInt64 ((m_notches s) - (1 : Int32))) l) lk_X9_63 (Nat.le_of_ble_eq_true rfl) (preRO hK hS hAb (emP)) rfl hl rfl (Nat.le_of_ble_eq_true rfl) (dd D_X9_notchOf 8 rfl) ⟨Nat.le_of_ble_eq_true rfl, Nat.le_of_ble_eq_true rfl⟩) rfl ?_
  refine x_bif_eq (tgt := 39) F.1 F.2.1 (dd D_X9_notchOf 9 rfl) rfl h (fun c9 h => ?_) (fun c9 h => ?_)
  · refine lv_aload_n F.1 F.2.1 (dd D_X9_notchOf 23 rfl) rfl (lv_at hl 0 rfl) ?_
    refine lv_bipush (v := (-2 : Int32)) F.1 F.2.1 (dd D_X9_notchOf 24 rfl) kb_m2 ?_
    obtain ⟨r1, e2, h⟩ := Option.bind_eq_some_iff.mp h
    refine rwe_all (st' := [.int r1.1]) hD hS hA (rV (rest := []) F (c_X9_refuse D cA am s n (-2 : Int32) r1 e2 l H.size) lk_X9_79 (Nat.le_of_ble_eq_true rfl) (preRW hK hS hAb hP hD) (rcv_9 hK hP (q0 := (0)) (mp_0 cA am s)) rfl hl rfl (Nat.le_of_ble_eq_true rfl) (dd D_X9_notchOf 25 rfl) ⟨Nat.le_of_ble_eq_true rfl, Nat.le_of_ble_eq_true rfl⟩) rfl (fun H locs hP hD hS => ?_)
    obtain rfl := Option.some.inj h
    exact rw_i (R := rmOf 1 0 0) F hP hD hS hr hlk ⟨Nat.le_of_ble_eq_true rfl, Nat.le_of_ble_eq_true rfl⟩ ⟨rfl, rfl⟩ (dd D_X9_notchOf 26 rfl)
  · refine lv_iload_n F.1 F.2.1 (dd D_X9_notchOf 10 rfl) rfl (lv_at hl 2 rfl) ?_
    refine lv_i2l (v := (Int32.toInt64 p2)) F.1 F.2.1 (dd D_X9_notchOf 11 rfl) rfl ?_
    refine lv_lconst (v := (0 : Int64)) F.1 F.2.1 (dd D_X9_notchOf 12 rfl) kl_0 ?_
    refine lv_ldc2 (own := RX9) (v := (2 : Int64)) F.1 F.2.1 F.2.2.2.1 (F.2.2.2.2 _ (kL_X9_137)) (dd D_X9_notchOf 13 rfl) ?_
    refine ro_go (st' := [.int (bI (F_X9_in (Int32.toInt64 p2) (0 : Int64) (2 : Int64)))]) (rS (rest := []) F (c_X9_in D cA (Int32.toInt64 p2) (0 : Int64) (2 : Int64) l) lk_X9_63 (Nat.le_of_ble_eq_true rfl) (preRO hK hS hAb (emP)) rfl hl rfl (Nat.le_of_ble_eq_true rfl) (dd D_X9_notchOf 14 rfl) ⟨Nat.le_of_ble_eq_true rfl, Nat.le_of_ble_eq_true rfl⟩) rfl ?_
    refine x_bif_eq (tgt := 39) F.1 F.2.1 (dd D_X9_notchOf 15 rfl) rfl h (fun c8 h => ?_) (fun c8 h => ?_)
    · refine lv_aload_n F.1 F.2.1 (dd D_X9_notchOf 23 rfl) rfl (lv_at hl 0 rfl) ?_
      refine lv_bipush (v := (-2 : Int32)) F.1 F.2.1 (dd D_X9_notchOf 24 rfl) kb_m2 ?_
      obtain ⟨r3, e4, h⟩ := Option.bind_eq_some_iff.mp h
      refine rwe_all (st' := [.int r3.1]) hD hS hA (rV (rest := []) F (c_X9_refuse D cA am s n (-2 : Int32) r3 e4 l H.size) lk_X9_79 (Nat.le_of_ble_eq_true rfl) (preRW hK hS hAb hP hD) (rcv_9 hK hP (q0 := (0)) (mp_0 cA am s)) rfl hl rfl (Nat.le_of_ble_eq_true rfl) (dd D_X9_notchOf 25 rfl) ⟨Nat.le_of_ble_eq_true rfl, Nat.le_of_ble_eq_true rfl⟩) rfl (fun H locs hP hD hS => ?_)
      obtain rfl := Option.some.inj h
      exact rw_i (R := rmOf 1 0 0) F hP hD hS hr hlk ⟨Nat.le_of_ble_eq_true rfl, Nat.le_of_ble_eq_true rfl⟩ ⟨rfl, rfl⟩ (dd D_X9_notchOf 26 rfl)
    · refine lv_aload_n F.1 F.2.1 (dd D_X9_notchOf 16 rfl) rfl (lv_at hl 0 rfl) ?_
      refine getF F hK hP lf_X9_45 (0) (mp_0 cA am s) rfl (dd D_X9_notchOf 17 rfl) ?_
      refine lv_iload_n F.1 F.2.1 (dd D_X9_notchOf 18 rfl) rfl (lv_at hl 1 rfl) ?_
      refine aldA (g := fun j => am (20+j)) F hK hP (19) (mp_19 cA am s) 4 rfl (fun _ => rfl) h (dd D_X9_notchOf 19 rfl) (fun z5 h => ?_)
      have hk6 : (Int32.toNatClampNeg p1) < 8 := inb_lt z5
      refine lv_iload_n F.1 F.2.1 (dd D_X9_notchOf 20 rfl) rfl (lv_at hl 2 rfl) ?_
      refine aldI F hK hP (20+(Int32.toNatClampNeg p1)) (mp_notch cA am s (Int32.toNatClampNeg p1) hk6) h (dd D_X9_notchOf 21 rfl) (fun z7 h => ?_)
      refine lv_goto (tgt := 45) F.1 F.2.1 (dd D_X9_notchOf 22 rfl) rfl ?_
      obtain rfl := Option.some.inj h
      exact rw_i (R := rmOf 1 0 0) F hP hD hS hr hlk ⟨Nat.le_of_ble_eq_true rfl, Nat.le_of_ble_eq_true rfl⟩ ⟨rfl, rfl⟩ (dd D_X9_notchOf 26 rfl)
def F_X9_stoneOf (n : Nat) (s : MS) (p1 : Int32) : Option (Int32 × MS) := bf (F_X9_in (Int32.toInt64 p1) (0 : Int64) (Int32.toInt64 ((m_stones s) - (1 : Int32)))) (gd (inb p1 6) (some (((m_stone s) (Int32.toNatClampNeg p1)), s))) ((((F_X9_refuse n s (-2 : Int32))).bind fun r1 => some (r1.1, r1.2)))
set_option maxHeartbeats 4000000 in
set_option maxRecDepth 100000 in
theorem c_X9_stoneOf (D : va_G) (cA : Nat → ClassId) (am : Nat → Nat) (s : MS) (n : Nat) (p1 : Int32) (r : (Int32 × MS)) (h : F_X9_stoneOf n s p1 = some r) : RW m_X9_stoneOf 1 0 0 D cA [.ref (am 0), .int p1] (mW cA am s) (exq (some (.int r.1)) (mW cA am r.2)) := by
  refine RW.ofW gy_X9_stoneOf.2.2 (Nat.le_of_ble_eq_true rfl) ?_
  intro l p e sM m below meth c A H locs F hr hlk hnm hK hP hD hS hA hAb ls hl
  have hl : lv_has ls 2 [(0, .ref (am 0)), (1, .int p1)] := hl
  unfold F_X9_stoneOf at h
  refine lv_iload_n F.1 F.2.1 (dd D_X9_stoneOf 0 rfl) rfl (lv_at hl 1 rfl) ?_
  refine lv_i2l (v := (Int32.toInt64 p1)) F.1 F.2.1 (dd D_X9_stoneOf 1 rfl) rfl ?_
  refine lv_lconst (v := (0 : Int64)) F.1 F.2.1 (dd D_X9_stoneOf 2 rfl) kl_0 ?_
  refine lv_aload_n F.1 F.2.1 (dd D_X9_stoneOf 3 rfl) rfl (lv_at hl 0 rfl) ?_
  refine getF F hK hP lf_X9_127 (0) (mp_0 cA am s) rfl (dd D_X9_stoneOf 4 rfl) ?_
  refine lv_iconst (v := (1 : Int32)) F.1 F.2.1 (dd D_X9_stoneOf 5 rfl) ki_1 ?_
  refine lv_isub F.1 F.2.1 (dd D_X9_stoneOf 6 rfl) ?_
  refine lv_i2l (v := (Int32.toInt64 ((m_stones s) - (1 : Int32)))) F.1 F.2.1 (dd D_X9_stoneOf 7 rfl) rfl ?_
  refine ro_go (st' := [.int (bI (F_X9_in (Int32.toInt64 p1) (0 : Int64) (Int32.toInt64 ((m_stones s) - (1 : Int32)))))]) (rS (rest := []) F (c_X9_in D cA (Int32.toInt64 p1) (0 : Int64) (Int32.toInt64 ((m_stones s) - (1 : Int32))) l) lk_X9_63 (Nat.le_of_ble_eq_true rfl) (preRO hK hS hAb (emP)) rfl hl rfl (Nat.le_of_ble_eq_true rfl) (dd D_X9_stoneOf 8 rfl) ⟨Nat.le_of_ble_eq_true rfl, Nat.le_of_ble_eq_true rfl⟩) rfl ?_
  refine x_bif_eq (tgt := 25) F.1 F.2.1 (dd D_X9_stoneOf 9 rfl) rfl h (fun c4 h => ?_) (fun c4 h => ?_)
  · refine lv_aload_n F.1 F.2.1 (dd D_X9_stoneOf 15 rfl) rfl (lv_at hl 0 rfl) ?_
    refine lv_bipush (v := (-2 : Int32)) F.1 F.2.1 (dd D_X9_stoneOf 16 rfl) kb_m2 ?_
    obtain ⟨r1, e2, h⟩ := Option.bind_eq_some_iff.mp h
    refine rwe_all (st' := [.int r1.1]) hD hS hA (rV (rest := []) F (c_X9_refuse D cA am s n (-2 : Int32) r1 e2 l H.size) lk_X9_79 (Nat.le_of_ble_eq_true rfl) (preRW hK hS hAb hP hD) (rcv_9 hK hP (q0 := (0)) (mp_0 cA am s)) rfl hl rfl (Nat.le_of_ble_eq_true rfl) (dd D_X9_stoneOf 17 rfl) ⟨Nat.le_of_ble_eq_true rfl, Nat.le_of_ble_eq_true rfl⟩) rfl (fun H locs hP hD hS => ?_)
    obtain rfl := Option.some.inj h
    exact rw_i (R := rmOf 1 0 0) F hP hD hS hr hlk ⟨Nat.le_of_ble_eq_true rfl, Nat.le_of_ble_eq_true rfl⟩ ⟨rfl, rfl⟩ (dd D_X9_stoneOf 18 rfl)
  · refine lv_aload_n F.1 F.2.1 (dd D_X9_stoneOf 10 rfl) rfl (lv_at hl 0 rfl) ?_
    refine getF F hK hP lf_X9_48 (0) (mp_0 cA am s) rfl (dd D_X9_stoneOf 11 rfl) ?_
    refine lv_iload_n F.1 F.2.1 (dd D_X9_stoneOf 12 rfl) rfl (lv_at hl 1 rfl) ?_
    refine aldI F hK hP (28) (mp_28 cA am s) h (dd D_X9_stoneOf 13 rfl) (fun z3 h => ?_)
    refine lv_goto (tgt := 31) F.1 F.2.1 (dd D_X9_stoneOf 14 rfl) rfl ?_
    obtain rfl := Option.some.inj h
    exact rw_i (R := rmOf 1 0 0) F hP hD hS hr hlk ⟨Nat.le_of_ble_eq_true rfl, Nat.le_of_ble_eq_true rfl⟩ ⟨rfl, rfl⟩ (dd D_X9_stoneOf 18 rfl)
def F_X9_lit (n : Nat) (s : MS) (p1 : Int32) : Option Int32 := (((F_X9_age n s p1)).bind fun r1 => (if (1476 : Int32) < r1 then some ((((100 : Int32) * ((2953 : Int32) - r1)) / (1477 : Int32))) else some ((((100 : Int32) * r1) / (1476 : Int32)))))
set_option maxHeartbeats 4000000 in
set_option maxRecDepth 100000 in
theorem c_X9_lit (D : va_G) (cA : Nat → ClassId) (am : Nat → Nat) (s : MS) (n : Nat) (p1 : Int32) (r : Int32) (h : F_X9_lit n s p1 = some r) : RO m_X9_lit 1 D cA [.ref (am 0), .int p1] (mW cA am s) (some (.int r)) := by
  refine RO.ofW gy_X9_lit.2.2 (Nat.le_of_ble_eq_true rfl) ?_
  intro l p e sM m below meth c F hr hlk hK hP hS hAb ls hl
  have hl : lv_has ls 3 [(0, .ref (am 0)), (1, .int p1)] := hl
  unfold F_X9_lit at h
  refine lv_aload_n F.1 F.2.1 (dd D_X9_lit 0 rfl) rfl (lv_at hl 0 rfl) ?_
  refine lv_iload_n F.1 F.2.1 (dd D_X9_lit 1 rfl) rfl (lv_at hl 1 rfl) ?_
  obtain ⟨r1, e2, h⟩ := Option.bind_eq_some_iff.mp h
  refine ro_go (st' := [.int r1]) (rV (rest := []) F (c_X9_age D cA am s n p1 r1 e2 l) lk_X9_96 (Nat.le_of_ble_eq_true rfl) (preRO hK hS hAb hP) (rcv_9 hK hP (q0 := (0)) (mp_0 cA am s)) rfl hl rfl (Nat.le_of_ble_eq_true rfl) (dd D_X9_lit 2 rfl) ⟨Nat.le_of_ble_eq_true rfl, Nat.le_of_ble_eq_true rfl⟩) rfl ?_
  refine lv_istore_n (lv' := [(2, .int r1), (0, .ref (am 0)), (1, .int p1)]) F.1 F.2.1 (dd D_X9_lit 3 rfl) rfl hl (Nat.le_of_ble_eq_true rfl) rfl (fun ls hl => ?_)
  refine lv_iload_n F.1 F.2.1 (dd D_X9_lit 4 rfl) rfl (lv_at hl 0 rfl) ?_
  refine lv_sipush (v := (1476 : Int32)) F.1 F.2.1 (dd D_X9_lit 5 rfl) ks_1476 ?_
  refine x_icmp_gt (tgt := 24) F.1 F.2.1 (dd D_X9_lit 6 rfl) rfl h (fun c3 h => ?_) (fun c3 h => ?_)
  · refine lv_bipush (v := (100 : Int32)) F.1 F.2.1 (dd D_X9_lit 13 rfl) kb_100 ?_
    refine lv_sipush (v := (2953 : Int32)) F.1 F.2.1 (dd D_X9_lit 14 rfl) ks_2953 ?_
    refine lv_iload_n F.1 F.2.1 (dd D_X9_lit 15 rfl) rfl (lv_at hl 0 rfl) ?_
    refine lv_isub F.1 F.2.1 (dd D_X9_lit 16 rfl) ?_
    refine lv_imul F.1 F.2.1 (dd D_X9_lit 17 rfl) ?_
    refine lv_sipush (v := (1477 : Int32)) F.1 F.2.1 (dd D_X9_lit 18 rfl) ks_1477 ?_
    refine lv_idiv F.1 F.2.1 (dd D_X9_lit 19 rfl) kd_1477 ?_
    exact ro_i (R := rmOf 1 0 0) F hr hlk (congrArg (Option.map Value.int) h) (dd D_X9_lit 20 rfl)
  · refine lv_bipush (v := (100 : Int32)) F.1 F.2.1 (dd D_X9_lit 7 rfl) kb_100 ?_
    refine lv_iload_n F.1 F.2.1 (dd D_X9_lit 8 rfl) rfl (lv_at hl 0 rfl) ?_
    refine lv_imul F.1 F.2.1 (dd D_X9_lit 9 rfl) ?_
    refine lv_sipush (v := (1476 : Int32)) F.1 F.2.1 (dd D_X9_lit 10 rfl) ks_1476 ?_
    refine lv_idiv F.1 F.2.1 (dd D_X9_lit 11 rfl) kd_1476 ?_
    refine lv_goto (tgt := 36) F.1 F.2.1 (dd D_X9_lit 12 rfl) rfl ?_
    exact ro_i (R := rmOf 1 0 0) F hr hlk (congrArg (Option.map Value.int) h) (dd D_X9_lit 20 rfl)
def F_X9_line (n : Nat) (s : MS) (p1 : Int32) : Option (Int32 × MS) := bf (F_X9_in (Int32.toInt64 p1) (0 : Int64) (999 : Int64)) ((((F_X9_lineAt n s p1)).bind fun r3 => some (r3, s))) ((((F_X9_refuse n s (-2 : Int32))).bind fun r1 => some (r1.1, r1.2)))
set_option maxHeartbeats 4000000 in
set_option maxRecDepth 100000 in
theorem c_X9_line (D : va_G) (cA : Nat → ClassId) (am : Nat → Nat) (s : MS) (n : Nat) (p1 : Int32) (r : (Int32 × MS)) (h : F_X9_line n s p1 = some r) : RW m_X9_line 2 0 0 D cA [.ref (am 0), .int p1] (mW cA am s) (exq (some (.int r.1)) (mW cA am r.2)) := by
  refine RW.ofW gy_X9_line.2.2 (Nat.le_of_ble_eq_true rfl) ?_
  intro l p e sM m below meth c A H locs F hr hlk hnm hK hP hD hS hA hAb ls hl
  have hl : lv_has ls 2 [(0, .ref (am 0)), (1, .int p1)] := hl
  unfold F_X9_line at h
  refine lv_iload_n F.1 F.2.1 (dd D_X9_line 0 rfl) rfl (lv_at hl 1 rfl) ?_
  refine lv_i2l (v := (Int32.toInt64 p1)) F.1 F.2.1 (dd D_X9_line 1 rfl) rfl ?_
  refine lv_lconst (v := (0 : Int64)) F.1 F.2.1 (dd D_X9_line 2 rfl) kl_0 ?_
  refine lv_ldc2 (own := RX9) (v := (999 : Int64)) F.1 F.2.1 F.2.2.2.1 (F.2.2.2.2 _ (kL_X9_234)) (dd D_X9_line 3 rfl) ?_
  refine ro_go (st' := [.int (bI (F_X9_in (Int32.toInt64 p1) (0 : Int64) (999 : Int64)))]) (rS (rest := []) F (c_X9_in D cA (Int32.toInt64 p1) (0 : Int64) (999 : Int64) l) lk_X9_63 (Nat.le_of_ble_eq_true rfl) (preRO hK hS hAb (emP)) rfl hl rfl (Nat.le_of_ble_eq_true rfl) (dd D_X9_line 4 rfl) ⟨Nat.le_of_ble_eq_true rfl, Nat.le_of_ble_eq_true rfl⟩) rfl ?_
  refine x_bif_eq (tgt := 20) F.1 F.2.1 (dd D_X9_line 5 rfl) rfl h (fun c5 h => ?_) (fun c5 h => ?_)
  · refine lv_aload_n F.1 F.2.1 (dd D_X9_line 10 rfl) rfl (lv_at hl 0 rfl) ?_
    refine lv_bipush (v := (-2 : Int32)) F.1 F.2.1 (dd D_X9_line 11 rfl) kb_m2 ?_
    obtain ⟨r1, e2, h⟩ := Option.bind_eq_some_iff.mp h
    refine rwe_all (st' := [.int r1.1]) hD hS hA (rV (rest := []) F (c_X9_refuse D cA am s n (-2 : Int32) r1 e2 l H.size) lk_X9_79 (Nat.le_of_ble_eq_true rfl) (preRW hK hS hAb hP hD) (rcv_9 hK hP (q0 := (0)) (mp_0 cA am s)) rfl hl rfl (Nat.le_of_ble_eq_true rfl) (dd D_X9_line 12 rfl) ⟨Nat.le_of_ble_eq_true rfl, Nat.le_of_ble_eq_true rfl⟩) rfl (fun H locs hP hD hS => ?_)
    obtain rfl := Option.some.inj h
    exact rw_i (R := rmOf 2 0 0) F hP hD hS hr hlk ⟨Nat.le_of_ble_eq_true rfl, Nat.le_of_ble_eq_true rfl⟩ ⟨rfl, rfl⟩ (dd D_X9_line 13 rfl)
  · refine lv_aload_n F.1 F.2.1 (dd D_X9_line 6 rfl) rfl (lv_at hl 0 rfl) ?_
    refine lv_iload_n F.1 F.2.1 (dd D_X9_line 7 rfl) rfl (lv_at hl 1 rfl) ?_
    obtain ⟨r3, e4, h⟩ := Option.bind_eq_some_iff.mp h
    refine ro_go (st' := [.int r3]) (rV (rest := []) F (c_X9_lineAt D cA am s n p1 r3 e4 l) lk_X9_236 (Nat.le_of_ble_eq_true rfl) (preRO hK hS hAb hP) (rcv_9 hK hP (q0 := (0)) (mp_0 cA am s)) rfl hl rfl (Nat.le_of_ble_eq_true rfl) (dd D_X9_line 8 rfl) ⟨Nat.le_of_ble_eq_true rfl, Nat.le_of_ble_eq_true rfl⟩) rfl ?_
    refine lv_goto (tgt := 26) F.1 F.2.1 (dd D_X9_line 9 rfl) rfl ?_
    obtain rfl := Option.some.inj h
    exact rw_i (R := rmOf 2 0 0) F hP hD hS hr hlk ⟨Nat.le_of_ble_eq_true rfl, Nat.le_of_ble_eq_true rfl⟩ ⟨rfl, rfl⟩ (dd D_X9_line 13 rfl)
def F_X9_degreeUp (n : Nat) (s : MS) (p1 : Int32) : Option Int32 := (((F_X9_way n s p1)).bind fun r1 => (((F_X9_over n s p1)).bind fun r3 => some ((r1 + (r3 / (4 : Int32))))))
set_option maxHeartbeats 4000000 in
set_option maxRecDepth 100000 in
theorem c_X9_degreeUp (D : va_G) (cA : Nat → ClassId) (am : Nat → Nat) (s : MS) (n : Nat) (p1 : Int32) (r : Int32) (h : F_X9_degreeUp n s p1 = some r) : RO m_X9_degreeUp 4 D cA [.ref (am 0), .int p1] (mW cA am s) (some (.int r)) := by
  refine RO.ofW gy_X9_degreeUp.2.2 (Nat.le_of_ble_eq_true rfl) ?_
  intro l p e sM m below meth c F hr hlk hK hP hS hAb ls hl
  have hl : lv_has ls 2 [(0, .ref (am 0)), (1, .int p1)] := hl
  unfold F_X9_degreeUp at h
  refine lv_aload_n F.1 F.2.1 (dd D_X9_degreeUp 0 rfl) rfl (lv_at hl 0 rfl) ?_
  refine lv_iload_n F.1 F.2.1 (dd D_X9_degreeUp 1 rfl) rfl (lv_at hl 1 rfl) ?_
  obtain ⟨r1, e2, h⟩ := Option.bind_eq_some_iff.mp h
  refine ro_go (st' := [.int r1]) (rV (rest := []) F (c_X9_way D cA am s n p1 r1 e2 l) lk_X9_239 (Nat.le_of_ble_eq_true rfl) (preRO hK hS hAb hP) (rcv_9 hK hP (q0 := (0)) (mp_0 cA am s)) rfl hl rfl (Nat.le_of_ble_eq_true rfl) (dd D_X9_degreeUp 2 rfl) ⟨Nat.le_of_ble_eq_true rfl, Nat.le_of_ble_eq_true rfl⟩) rfl ?_
  refine lv_aload_n F.1 F.2.1 (dd D_X9_degreeUp 3 rfl) rfl (lv_at hl 0 rfl) ?_
  refine lv_iload_n F.1 F.2.1 (dd D_X9_degreeUp 4 rfl) rfl (lv_at hl 1 rfl) ?_
  obtain ⟨r3, e4, h⟩ := Option.bind_eq_some_iff.mp h
  refine ro_go (st' := [.int r3, .int r1]) (rV (rest := [.int r1]) F (c_X9_over D cA am s n p1 r3 e4 l) lk_X9_245 (Nat.le_of_ble_eq_true rfl) (preRO hK hS hAb hP) (rcv_9 hK hP (q0 := (0)) (mp_0 cA am s)) rfl hl rfl (Nat.le_of_ble_eq_true rfl) (dd D_X9_degreeUp 5 rfl) ⟨Nat.le_of_ble_eq_true rfl, Nat.le_of_ble_eq_true rfl⟩) rfl ?_
  refine lv_iconst (v := (4 : Int32)) F.1 F.2.1 (dd D_X9_degreeUp 6 rfl) ki_4 ?_
  refine lv_idiv F.1 F.2.1 (dd D_X9_degreeUp 7 rfl) kd_4 ?_
  refine lv_iadd F.1 F.2.1 (dd D_X9_degreeUp 8 rfl) ?_
  exact ro_i (R := rmOf 4 0 0) F hr hlk (congrArg (Option.map Value.int) h) (dd D_X9_degreeUp 9 rfl)
def F_X9_moon (n : Nat) (s : MS) (p1 : Int32) (p2 : Int32) : Option (Int32 × MS) := bf (F_X9_isDay (Int32.toInt64 p1)) (bf (F_X9_in (Int32.toInt64 p2) (0 : Int64) (8 : Int64)) ((if p2 = (7 : Int32) then (if p1 = (9999 : Int32) then (((F_X9_refuse n s (-2 : Int32))).bind fun r45 => some (r45.1, r45.2)) else (if p2 = (0 : Int32) then (((F_X9_age n s p1)).bind fun r27 => some (r27, s)) else (if p2 = (1 : Int32) then (((F_X9_lit n s p1)).bind fun r29 => some (r29, s)) else (if p2 = (2 : Int32) then (((F_X9_out n s p1)).bind fun r31 => some (r31, s)) else (if p2 = (3 : Int32) then (((F_X9_rise n s p1)).bind fun r33 => some (r33, s)) else (if p2 = (4 : Int32) then (((F_X9_way n s p1)).bind fun r35 => some (r35, s)) else (if p2 = (5 : Int32) then (((F_X9_over n s p1)).bind fun r37 => some (r37, s)) else (if p2 = (6 : Int32) then (((F_X9_up n s p1)).bind fun r39 => some (r39, s)) else (if p2 = (7 : Int32) then (((F_X9_later n s p1)).bind fun r41 => some (r41, s)) else (((F_X9_degreeUp n s p1)).bind fun r43 => some (r43, s))))))))))) else (if p2 = (0 : Int32) then (((F_X9_age n s p1)).bind fun r7 => some (r7, s)) else (if p2 = (1 : Int32) then (((F_X9_lit n s p1)).bind fun r9 => some (r9, s)) else (if p2 = (2 : Int32) then (((F_X9_out n s p1)).bind fun r11 => some (r11, s)) else (if p2 = (3 : Int32) then (((F_X9_rise n s p1)).bind fun r13 => some (r13, s)) else (if p2 = (4 : Int32) then (((F_X9_way n s p1)).bind fun r15 => some (r15, s)) else (if p2 = (5 : Int32) then (((F_X9_over n s p1)).bind fun r17 => some (r17, s)) else (if p2 = (6 : Int32) then (((F_X9_up n s p1)).bind fun r19 => some (r19, s)) else (if p2 = (7 : Int32) then (((F_X9_later n s p1)).bind fun r21 => some (r21, s)) else (((F_X9_degreeUp n s p1)).bind fun r23 => some (r23, s)))))))))))) ((((F_X9_refuse n s (-2 : Int32))).bind fun r3 => some (r3.1, r3.2)))) ((((F_X9_refuse n s (-2 : Int32))).bind fun r1 => some (r1.1, r1.2)))
set_option maxHeartbeats 4000000 in
set_option maxRecDepth 100000 in
theorem c_X9_moon (D : va_G) (cA : Nat → ClassId) (am : Nat → Nat) (s : MS) (n : Nat) (p1 : Int32) (p2 : Int32) (r : (Int32 × MS)) (h : F_X9_moon n s p1 p2 = some r) : RW m_X9_moon 6 0 0 D cA [.ref (am 0), .int p1, .int p2] (mW cA am s) (exq (some (.int r.1)) (mW cA am r.2)) := by
  refine RW.ofW gy_X9_moon.2.2 (Nat.le_of_ble_eq_true rfl) ?_
  intro l p e sM m below meth c A H locs F hr hlk hnm hK hP hD hS hA hAb ls hl
  have hl : lv_has ls 3 [(0, .ref (am 0)), (1, .int p1), (2, .int p2)] := hl
  unfold F_X9_moon at h
  refine lv_iload_n F.1 F.2.1 (dd D_X9_moon 0 rfl) rfl (lv_at hl 1 rfl) ?_
  refine lv_i2l (v := (Int32.toInt64 p1)) F.1 F.2.1 (dd D_X9_moon 1 rfl) rfl ?_
  refine ro_go (st' := [.int (bI (F_X9_isDay (Int32.toInt64 p1)))]) (rS (rest := []) F (c_X9_isDay D cA (Int32.toInt64 p1) l) lk_X9_67 (Nat.le_of_ble_eq_true rfl) (preRO hK hS hAb (emP)) rfl hl rfl (Nat.le_of_ble_eq_true rfl) (dd D_X9_moon 2 rfl) ⟨Nat.le_of_ble_eq_true rfl, Nat.le_of_ble_eq_true rfl⟩) rfl ?_
  refine x_bif_eq (tgt := 33) F.1 F.2.1 (dd D_X9_moon 3 rfl) rfl h (fun c48 h => ?_) (fun c48 h => ?_)
  · refine lv_aload_n F.1 F.2.1 (dd D_X9_moon 16 rfl) rfl (lv_at hl 0 rfl) ?_
    refine lv_bipush (v := (-2 : Int32)) F.1 F.2.1 (dd D_X9_moon 17 rfl) kb_m2 ?_
    obtain ⟨r1, e2, h⟩ := Option.bind_eq_some_iff.mp h
    refine rwe_all (st' := [.int r1.1]) hD hS hA (rV (rest := []) F (c_X9_refuse D cA am s n (-2 : Int32) r1 e2 l H.size) lk_X9_79 (Nat.le_of_ble_eq_true rfl) (preRW hK hS hAb hP hD) (rcv_9 hK hP (q0 := (0)) (mp_0 cA am s)) rfl hl rfl (Nat.le_of_ble_eq_true rfl) (dd D_X9_moon 18 rfl) ⟨Nat.le_of_ble_eq_true rfl, Nat.le_of_ble_eq_true rfl⟩) rfl (fun H locs hP hD hS => ?_)
    obtain rfl := Option.some.inj h
    exact rw_i (R := rmOf 6 0 0) F hP hD hS hr hlk ⟨Nat.le_of_ble_eq_true rfl, Nat.le_of_ble_eq_true rfl⟩ ⟨rfl, rfl⟩ (dd D_X9_moon 19 rfl)
  · refine lv_iload_n F.1 F.2.1 (dd D_X9_moon 4 rfl) rfl (lv_at hl 2 rfl) ?_
    refine lv_i2l (v := (Int32.toInt64 p2)) F.1 F.2.1 (dd D_X9_moon 5 rfl) rfl ?_
    refine lv_lconst (v := (0 : Int64)) F.1 F.2.1 (dd D_X9_moon 6 rfl) kl_0 ?_
    refine lv_ldc2 (own := RX9) (v := (8 : Int64)) F.1 F.2.1 F.2.2.2.1 (F.2.2.2.2 _ (kL_X9_251)) (dd D_X9_moon 7 rfl) ?_
    refine ro_go (st' := [.int (bI (F_X9_in (Int32.toInt64 p2) (0 : Int64) (8 : Int64)))]) (rS (rest := []) F (c_X9_in D cA (Int32.toInt64 p2) (0 : Int64) (8 : Int64) l) lk_X9_63 (Nat.le_of_ble_eq_true rfl) (preRO hK hS hAb (emP)) rfl hl rfl (Nat.le_of_ble_eq_true rfl) (dd D_X9_moon 8 rfl) ⟨Nat.le_of_ble_eq_true rfl, Nat.le_of_ble_eq_true rfl⟩) rfl ?_
    refine x_bif_eq (tgt := 33) F.1 F.2.1 (dd D_X9_moon 9 rfl) rfl h (fun c47 h => ?_) (fun c47 h => ?_)
    · refine lv_aload_n F.1 F.2.1 (dd D_X9_moon 16 rfl) rfl (lv_at hl 0 rfl) ?_
      refine lv_bipush (v := (-2 : Int32)) F.1 F.2.1 (dd D_X9_moon 17 rfl) kb_m2 ?_
      obtain ⟨r3, e4, h⟩ := Option.bind_eq_some_iff.mp h
      refine rwe_all (st' := [.int r3.1]) hD hS hA (rV (rest := []) F (c_X9_refuse D cA am s n (-2 : Int32) r3 e4 l H.size) lk_X9_79 (Nat.le_of_ble_eq_true rfl) (preRW hK hS hAb hP hD) (rcv_9 hK hP (q0 := (0)) (mp_0 cA am s)) rfl hl rfl (Nat.le_of_ble_eq_true rfl) (dd D_X9_moon 18 rfl) ⟨Nat.le_of_ble_eq_true rfl, Nat.le_of_ble_eq_true rfl⟩) rfl (fun H locs hP hD hS => ?_)
      obtain rfl := Option.some.inj h
      exact rw_i (R := rmOf 6 0 0) F hP hD hS hr hlk ⟨Nat.le_of_ble_eq_true rfl, Nat.le_of_ble_eq_true rfl⟩ ⟨rfl, rfl⟩ (dd D_X9_moon 19 rfl)
    · refine lv_iload_n F.1 F.2.1 (dd D_X9_moon 10 rfl) rfl (lv_at hl 2 rfl) ?_
      refine lv_bipush (v := (7 : Int32)) F.1 F.2.1 (dd D_X9_moon 11 rfl) kb_7 ?_
      refine x_icmp_ne (tgt := 40) F.1 F.2.1 (dd D_X9_moon 12 rfl) rfl h (fun c5 h => ?_) (fun c5 h => ?_)
      · refine lv_iload_n F.1 F.2.1 (dd D_X9_moon 20 rfl) rfl (lv_at hl 2 rfl) ?_
        refine x_ts (tgt := 88) F.1 F.2.1 (0 : Int32) (dd D_X9_moon 21 rfl) h (by decide) (by decide) rfl rfl (fun c6_0 h => ?_) (fun c6_0 h => ?_)
        · refine lv_aload_n F.1 F.2.1 (dd D_X9_moon 22 rfl) rfl (lv_at hl 0 rfl) ?_
          refine lv_iload_n F.1 F.2.1 (dd D_X9_moon 23 rfl) rfl (lv_at hl 1 rfl) ?_
          obtain ⟨r7, e8, h⟩ := Option.bind_eq_some_iff.mp h
          refine ro_go (st' := [.int r7]) (rV (rest := []) F (c_X9_age D cA am s n p1 r7 e8 l) lk_X9_96 (Nat.le_of_ble_eq_true rfl) (preRO hK hS hAb hP) (rcv_9 hK hP (q0 := (0)) (mp_0 cA am s)) rfl hl rfl (Nat.le_of_ble_eq_true rfl) (dd D_X9_moon 24 rfl) ⟨Nat.le_of_ble_eq_true rfl, Nat.le_of_ble_eq_true rfl⟩) rfl ?_
          obtain rfl := Option.some.inj h
          exact rw_i (R := rmOf 6 0 0) F hP hD hS hr hlk ⟨Nat.le_of_ble_eq_true rfl, Nat.le_of_ble_eq_true rfl⟩ ⟨rfl, rfl⟩ (dd D_X9_moon 25 rfl)
        refine x_ts (tgt := 94) F.1 F.2.1 (1 : Int32) (dd D_X9_moon 21 rfl) h (by decide) (by decide) rfl rfl (fun c6_1 h => ?_) (fun c6_1 h => ?_)
        · refine lv_aload_n F.1 F.2.1 (dd D_X9_moon 26 rfl) rfl (lv_at hl 0 rfl) ?_
          refine lv_iload_n F.1 F.2.1 (dd D_X9_moon 27 rfl) rfl (lv_at hl 1 rfl) ?_
          obtain ⟨r9, e10, h⟩ := Option.bind_eq_some_iff.mp h
          refine ro_go (st' := [.int r9]) (rV (rest := []) F (c_X9_lit D cA am s n p1 r9 e10 l) lk_X9_253 (Nat.le_of_ble_eq_true rfl) (preRO hK hS hAb hP) (rcv_9 hK hP (q0 := (0)) (mp_0 cA am s)) rfl hl rfl (Nat.le_of_ble_eq_true rfl) (dd D_X9_moon 28 rfl) ⟨Nat.le_of_ble_eq_true rfl, Nat.le_of_ble_eq_true rfl⟩) rfl ?_
          obtain rfl := Option.some.inj h
          exact rw_i (R := rmOf 6 0 0) F hP hD hS hr hlk ⟨Nat.le_of_ble_eq_true rfl, Nat.le_of_ble_eq_true rfl⟩ ⟨rfl, rfl⟩ (dd D_X9_moon 29 rfl)
        refine x_ts (tgt := 100) F.1 F.2.1 (2 : Int32) (dd D_X9_moon 21 rfl) h (by decide) (by decide) rfl rfl (fun c6_2 h => ?_) (fun c6_2 h => ?_)
        · refine lv_aload_n F.1 F.2.1 (dd D_X9_moon 30 rfl) rfl (lv_at hl 0 rfl) ?_
          refine lv_iload_n F.1 F.2.1 (dd D_X9_moon 31 rfl) rfl (lv_at hl 1 rfl) ?_
          obtain ⟨r11, e12, h⟩ := Option.bind_eq_some_iff.mp h
          refine ro_go (st' := [.int r11]) (rV (rest := []) F (c_X9_out D cA am s n p1 r11 e12 l) lk_X9_102 (Nat.le_of_ble_eq_true rfl) (preRO hK hS hAb hP) (rcv_9 hK hP (q0 := (0)) (mp_0 cA am s)) rfl hl rfl (Nat.le_of_ble_eq_true rfl) (dd D_X9_moon 32 rfl) ⟨Nat.le_of_ble_eq_true rfl, Nat.le_of_ble_eq_true rfl⟩) rfl ?_
          obtain rfl := Option.some.inj h
          exact rw_i (R := rmOf 6 0 0) F hP hD hS hr hlk ⟨Nat.le_of_ble_eq_true rfl, Nat.le_of_ble_eq_true rfl⟩ ⟨rfl, rfl⟩ (dd D_X9_moon 33 rfl)
        refine x_ts (tgt := 106) F.1 F.2.1 (3 : Int32) (dd D_X9_moon 21 rfl) h (by decide) (by decide) rfl rfl (fun c6_3 h => ?_) (fun c6_3 h => ?_)
        · refine lv_aload_n F.1 F.2.1 (dd D_X9_moon 34 rfl) rfl (lv_at hl 0 rfl) ?_
          refine lv_iload_n F.1 F.2.1 (dd D_X9_moon 35 rfl) rfl (lv_at hl 1 rfl) ?_
          obtain ⟨r13, e14, h⟩ := Option.bind_eq_some_iff.mp h
          refine ro_go (st' := [.int r13]) (rV (rest := []) F (c_X9_rise D cA am s n p1 r13 e14 l) lk_X9_242 (Nat.le_of_ble_eq_true rfl) (preRO hK hS hAb hP) (rcv_9 hK hP (q0 := (0)) (mp_0 cA am s)) rfl hl rfl (Nat.le_of_ble_eq_true rfl) (dd D_X9_moon 36 rfl) ⟨Nat.le_of_ble_eq_true rfl, Nat.le_of_ble_eq_true rfl⟩) rfl ?_
          obtain rfl := Option.some.inj h
          exact rw_i (R := rmOf 6 0 0) F hP hD hS hr hlk ⟨Nat.le_of_ble_eq_true rfl, Nat.le_of_ble_eq_true rfl⟩ ⟨rfl, rfl⟩ (dd D_X9_moon 37 rfl)
        refine x_ts (tgt := 112) F.1 F.2.1 (4 : Int32) (dd D_X9_moon 21 rfl) h (by decide) (by decide) rfl rfl (fun c6_4 h => ?_) (fun c6_4 h => ?_)
        · refine lv_aload_n F.1 F.2.1 (dd D_X9_moon 38 rfl) rfl (lv_at hl 0 rfl) ?_
          refine lv_iload_n F.1 F.2.1 (dd D_X9_moon 39 rfl) rfl (lv_at hl 1 rfl) ?_
          obtain ⟨r15, e16, h⟩ := Option.bind_eq_some_iff.mp h
          refine ro_go (st' := [.int r15]) (rV (rest := []) F (c_X9_way D cA am s n p1 r15 e16 l) lk_X9_239 (Nat.le_of_ble_eq_true rfl) (preRO hK hS hAb hP) (rcv_9 hK hP (q0 := (0)) (mp_0 cA am s)) rfl hl rfl (Nat.le_of_ble_eq_true rfl) (dd D_X9_moon 40 rfl) ⟨Nat.le_of_ble_eq_true rfl, Nat.le_of_ble_eq_true rfl⟩) rfl ?_
          obtain rfl := Option.some.inj h
          exact rw_i (R := rmOf 6 0 0) F hP hD hS hr hlk ⟨Nat.le_of_ble_eq_true rfl, Nat.le_of_ble_eq_true rfl⟩ ⟨rfl, rfl⟩ (dd D_X9_moon 41 rfl)
        refine x_ts (tgt := 118) F.1 F.2.1 (5 : Int32) (dd D_X9_moon 21 rfl) h (by decide) (by decide) rfl rfl (fun c6_5 h => ?_) (fun c6_5 h => ?_)
        · refine lv_aload_n F.1 F.2.1 (dd D_X9_moon 42 rfl) rfl (lv_at hl 0 rfl) ?_
          refine lv_iload_n F.1 F.2.1 (dd D_X9_moon 43 rfl) rfl (lv_at hl 1 rfl) ?_
          obtain ⟨r17, e18, h⟩ := Option.bind_eq_some_iff.mp h
          refine ro_go (st' := [.int r17]) (rV (rest := []) F (c_X9_over D cA am s n p1 r17 e18 l) lk_X9_245 (Nat.le_of_ble_eq_true rfl) (preRO hK hS hAb hP) (rcv_9 hK hP (q0 := (0)) (mp_0 cA am s)) rfl hl rfl (Nat.le_of_ble_eq_true rfl) (dd D_X9_moon 44 rfl) ⟨Nat.le_of_ble_eq_true rfl, Nat.le_of_ble_eq_true rfl⟩) rfl ?_
          obtain rfl := Option.some.inj h
          exact rw_i (R := rmOf 6 0 0) F hP hD hS hr hlk ⟨Nat.le_of_ble_eq_true rfl, Nat.le_of_ble_eq_true rfl⟩ ⟨rfl, rfl⟩ (dd D_X9_moon 45 rfl)
        refine x_ts (tgt := 124) F.1 F.2.1 (6 : Int32) (dd D_X9_moon 21 rfl) h (by decide) (by decide) rfl rfl (fun c6_6 h => ?_) (fun c6_6 h => ?_)
        · refine lv_aload_n F.1 F.2.1 (dd D_X9_moon 46 rfl) rfl (lv_at hl 0 rfl) ?_
          refine lv_iload_n F.1 F.2.1 (dd D_X9_moon 47 rfl) rfl (lv_at hl 1 rfl) ?_
          obtain ⟨r19, e20, h⟩ := Option.bind_eq_some_iff.mp h
          refine ro_go (st' := [.int r19]) (rV (rest := []) F (c_X9_up D cA am s n p1 r19 e20 l) lk_X9_248 (Nat.le_of_ble_eq_true rfl) (preRO hK hS hAb hP) (rcv_9 hK hP (q0 := (0)) (mp_0 cA am s)) rfl hl rfl (Nat.le_of_ble_eq_true rfl) (dd D_X9_moon 48 rfl) ⟨Nat.le_of_ble_eq_true rfl, Nat.le_of_ble_eq_true rfl⟩) rfl ?_
          obtain rfl := Option.some.inj h
          exact rw_i (R := rmOf 6 0 0) F hP hD hS hr hlk ⟨Nat.le_of_ble_eq_true rfl, Nat.le_of_ble_eq_true rfl⟩ ⟨rfl, rfl⟩ (dd D_X9_moon 49 rfl)
        refine x_ts (tgt := 130) F.1 F.2.1 (7 : Int32) (dd D_X9_moon 21 rfl) h (by decide) (by decide) rfl rfl (fun c6_7 h => ?_) (fun c6_7 h => ?_)
        · refine lv_aload_n F.1 F.2.1 (dd D_X9_moon 50 rfl) rfl (lv_at hl 0 rfl) ?_
          refine lv_iload_n F.1 F.2.1 (dd D_X9_moon 51 rfl) rfl (lv_at hl 1 rfl) ?_
          obtain ⟨r21, e22, h⟩ := Option.bind_eq_some_iff.mp h
          refine ro_go (st' := [.int r21]) (rV (rest := []) F (c_X9_later D cA am s n p1 r21 e22 l) lk_X9_99 (Nat.le_of_ble_eq_true rfl) (preRO hK hS hAb hP) (rcv_9 hK hP (q0 := (0)) (mp_0 cA am s)) rfl hl rfl (Nat.le_of_ble_eq_true rfl) (dd D_X9_moon 52 rfl) ⟨Nat.le_of_ble_eq_true rfl, Nat.le_of_ble_eq_true rfl⟩) rfl ?_
          obtain rfl := Option.some.inj h
          exact rw_i (R := rmOf 6 0 0) F hP hD hS hr hlk ⟨Nat.le_of_ble_eq_true rfl, Nat.le_of_ble_eq_true rfl⟩ ⟨rfl, rfl⟩ (dd D_X9_moon 53 rfl)
        refine lv_tableOut (tgt := 136) F.1 F.2.1 (dd D_X9_moon 21 rfl) (ts_out (lo := 0) (vs := [(0 : Int32), (1 : Int32), (2 : Int32), (3 : Int32), (4 : Int32), (5 : Int32), (6 : Int32), (7 : Int32)]) tsv_0_8 (by intro v hv; simp only [List.mem_cons, List.not_mem_nil, or_false] at hv; rcases hv with rfl | rfl | rfl | rfl | rfl | rfl | rfl | rfl <;> assumption)) rfl ?_
        refine lv_aload_n F.1 F.2.1 (dd D_X9_moon 54 rfl) rfl (lv_at hl 0 rfl) ?_
        refine lv_iload_n F.1 F.2.1 (dd D_X9_moon 55 rfl) rfl (lv_at hl 1 rfl) ?_
        obtain ⟨r23, e24, h⟩ := Option.bind_eq_some_iff.mp h
        refine ro_go (st' := [.int r23]) (rV (rest := []) F (c_X9_degreeUp D cA am s n p1 r23 e24 l) lk_X9_256 (Nat.le_of_ble_eq_true rfl) (preRO hK hS hAb hP) (rcv_9 hK hP (q0 := (0)) (mp_0 cA am s)) rfl hl rfl (Nat.le_of_ble_eq_true rfl) (dd D_X9_moon 56 rfl) ⟨Nat.le_of_ble_eq_true rfl, Nat.le_of_ble_eq_true rfl⟩) rfl ?_
        obtain rfl := Option.some.inj h
        exact rw_i (R := rmOf 6 0 0) F hP hD hS hr hlk ⟨Nat.le_of_ble_eq_true rfl, Nat.le_of_ble_eq_true rfl⟩ ⟨rfl, rfl⟩ (dd D_X9_moon 57 rfl)
      · refine lv_iload_n F.1 F.2.1 (dd D_X9_moon 13 rfl) rfl (lv_at hl 1 rfl) ?_
        refine lv_sipush (v := (9999 : Int32)) F.1 F.2.1 (dd D_X9_moon 14 rfl) ks_9999 ?_
        refine x_icmp_ne (tgt := 40) F.1 F.2.1 (dd D_X9_moon 15 rfl) rfl h (fun c25 h => ?_) (fun c25 h => ?_)
        · refine lv_iload_n F.1 F.2.1 (dd D_X9_moon 20 rfl) rfl (lv_at hl 2 rfl) ?_
          refine x_ts (tgt := 88) F.1 F.2.1 (0 : Int32) (dd D_X9_moon 21 rfl) h (by decide) (by decide) rfl rfl (fun c26_0 h => ?_) (fun c26_0 h => ?_)
          · refine lv_aload_n F.1 F.2.1 (dd D_X9_moon 22 rfl) rfl (lv_at hl 0 rfl) ?_
            refine lv_iload_n F.1 F.2.1 (dd D_X9_moon 23 rfl) rfl (lv_at hl 1 rfl) ?_
            obtain ⟨r27, e28, h⟩ := Option.bind_eq_some_iff.mp h
            refine ro_go (st' := [.int r27]) (rV (rest := []) F (c_X9_age D cA am s n p1 r27 e28 l) lk_X9_96 (Nat.le_of_ble_eq_true rfl) (preRO hK hS hAb hP) (rcv_9 hK hP (q0 := (0)) (mp_0 cA am s)) rfl hl rfl (Nat.le_of_ble_eq_true rfl) (dd D_X9_moon 24 rfl) ⟨Nat.le_of_ble_eq_true rfl, Nat.le_of_ble_eq_true rfl⟩) rfl ?_
            obtain rfl := Option.some.inj h
            exact rw_i (R := rmOf 6 0 0) F hP hD hS hr hlk ⟨Nat.le_of_ble_eq_true rfl, Nat.le_of_ble_eq_true rfl⟩ ⟨rfl, rfl⟩ (dd D_X9_moon 25 rfl)
          refine x_ts (tgt := 94) F.1 F.2.1 (1 : Int32) (dd D_X9_moon 21 rfl) h (by decide) (by decide) rfl rfl (fun c26_1 h => ?_) (fun c26_1 h => ?_)
          · refine lv_aload_n F.1 F.2.1 (dd D_X9_moon 26 rfl) rfl (lv_at hl 0 rfl) ?_
            refine lv_iload_n F.1 F.2.1 (dd D_X9_moon 27 rfl) rfl (lv_at hl 1 rfl) ?_
            obtain ⟨r29, e30, h⟩ := Option.bind_eq_some_iff.mp h
            refine ro_go (st' := [.int r29]) (rV (rest := []) F (c_X9_lit D cA am s n p1 r29 e30 l) lk_X9_253 (Nat.le_of_ble_eq_true rfl) (preRO hK hS hAb hP) (rcv_9 hK hP (q0 := (0)) (mp_0 cA am s)) rfl hl rfl (Nat.le_of_ble_eq_true rfl) (dd D_X9_moon 28 rfl) ⟨Nat.le_of_ble_eq_true rfl, Nat.le_of_ble_eq_true rfl⟩) rfl ?_
            obtain rfl := Option.some.inj h
            exact rw_i (R := rmOf 6 0 0) F hP hD hS hr hlk ⟨Nat.le_of_ble_eq_true rfl, Nat.le_of_ble_eq_true rfl⟩ ⟨rfl, rfl⟩ (dd D_X9_moon 29 rfl)
          refine x_ts (tgt := 100) F.1 F.2.1 (2 : Int32) (dd D_X9_moon 21 rfl) h (by decide) (by decide) rfl rfl (fun c26_2 h => ?_) (fun c26_2 h => ?_)
          · refine lv_aload_n F.1 F.2.1 (dd D_X9_moon 30 rfl) rfl (lv_at hl 0 rfl) ?_
            refine lv_iload_n F.1 F.2.1 (dd D_X9_moon 31 rfl) rfl (lv_at hl 1 rfl) ?_
            obtain ⟨r31, e32, h⟩ := Option.bind_eq_some_iff.mp h
            refine ro_go (st' := [.int r31]) (rV (rest := []) F (c_X9_out D cA am s n p1 r31 e32 l) lk_X9_102 (Nat.le_of_ble_eq_true rfl) (preRO hK hS hAb hP) (rcv_9 hK hP (q0 := (0)) (mp_0 cA am s)) rfl hl rfl (Nat.le_of_ble_eq_true rfl) (dd D_X9_moon 32 rfl) ⟨Nat.le_of_ble_eq_true rfl, Nat.le_of_ble_eq_true rfl⟩) rfl ?_
            obtain rfl := Option.some.inj h
            exact rw_i (R := rmOf 6 0 0) F hP hD hS hr hlk ⟨Nat.le_of_ble_eq_true rfl, Nat.le_of_ble_eq_true rfl⟩ ⟨rfl, rfl⟩ (dd D_X9_moon 33 rfl)
          refine x_ts (tgt := 106) F.1 F.2.1 (3 : Int32) (dd D_X9_moon 21 rfl) h (by decide) (by decide) rfl rfl (fun c26_3 h => ?_) (fun c26_3 h => ?_)
          · refine lv_aload_n F.1 F.2.1 (dd D_X9_moon 34 rfl) rfl (lv_at hl 0 rfl) ?_
            refine lv_iload_n F.1 F.2.1 (dd D_X9_moon 35 rfl) rfl (lv_at hl 1 rfl) ?_
            obtain ⟨r33, e34, h⟩ := Option.bind_eq_some_iff.mp h
            refine ro_go (st' := [.int r33]) (rV (rest := []) F (c_X9_rise D cA am s n p1 r33 e34 l) lk_X9_242 (Nat.le_of_ble_eq_true rfl) (preRO hK hS hAb hP) (rcv_9 hK hP (q0 := (0)) (mp_0 cA am s)) rfl hl rfl (Nat.le_of_ble_eq_true rfl) (dd D_X9_moon 36 rfl) ⟨Nat.le_of_ble_eq_true rfl, Nat.le_of_ble_eq_true rfl⟩) rfl ?_
            obtain rfl := Option.some.inj h
            exact rw_i (R := rmOf 6 0 0) F hP hD hS hr hlk ⟨Nat.le_of_ble_eq_true rfl, Nat.le_of_ble_eq_true rfl⟩ ⟨rfl, rfl⟩ (dd D_X9_moon 37 rfl)
          refine x_ts (tgt := 112) F.1 F.2.1 (4 : Int32) (dd D_X9_moon 21 rfl) h (by decide) (by decide) rfl rfl (fun c26_4 h => ?_) (fun c26_4 h => ?_)
          · refine lv_aload_n F.1 F.2.1 (dd D_X9_moon 38 rfl) rfl (lv_at hl 0 rfl) ?_
            refine lv_iload_n F.1 F.2.1 (dd D_X9_moon 39 rfl) rfl (lv_at hl 1 rfl) ?_
            obtain ⟨r35, e36, h⟩ := Option.bind_eq_some_iff.mp h
            refine ro_go (st' := [.int r35]) (rV (rest := []) F (c_X9_way D cA am s n p1 r35 e36 l) lk_X9_239 (Nat.le_of_ble_eq_true rfl) (preRO hK hS hAb hP) (rcv_9 hK hP (q0 := (0)) (mp_0 cA am s)) rfl hl rfl (Nat.le_of_ble_eq_true rfl) (dd D_X9_moon 40 rfl) ⟨Nat.le_of_ble_eq_true rfl, Nat.le_of_ble_eq_true rfl⟩) rfl ?_
            obtain rfl := Option.some.inj h
            exact rw_i (R := rmOf 6 0 0) F hP hD hS hr hlk ⟨Nat.le_of_ble_eq_true rfl, Nat.le_of_ble_eq_true rfl⟩ ⟨rfl, rfl⟩ (dd D_X9_moon 41 rfl)
          refine x_ts (tgt := 118) F.1 F.2.1 (5 : Int32) (dd D_X9_moon 21 rfl) h (by decide) (by decide) rfl rfl (fun c26_5 h => ?_) (fun c26_5 h => ?_)
          · refine lv_aload_n F.1 F.2.1 (dd D_X9_moon 42 rfl) rfl (lv_at hl 0 rfl) ?_
            refine lv_iload_n F.1 F.2.1 (dd D_X9_moon 43 rfl) rfl (lv_at hl 1 rfl) ?_
            obtain ⟨r37, e38, h⟩ := Option.bind_eq_some_iff.mp h
            refine ro_go (st' := [.int r37]) (rV (rest := []) F (c_X9_over D cA am s n p1 r37 e38 l) lk_X9_245 (Nat.le_of_ble_eq_true rfl) (preRO hK hS hAb hP) (rcv_9 hK hP (q0 := (0)) (mp_0 cA am s)) rfl hl rfl (Nat.le_of_ble_eq_true rfl) (dd D_X9_moon 44 rfl) ⟨Nat.le_of_ble_eq_true rfl, Nat.le_of_ble_eq_true rfl⟩) rfl ?_
            obtain rfl := Option.some.inj h
            exact rw_i (R := rmOf 6 0 0) F hP hD hS hr hlk ⟨Nat.le_of_ble_eq_true rfl, Nat.le_of_ble_eq_true rfl⟩ ⟨rfl, rfl⟩ (dd D_X9_moon 45 rfl)
          refine x_ts (tgt := 124) F.1 F.2.1 (6 : Int32) (dd D_X9_moon 21 rfl) h (by decide) (by decide) rfl rfl (fun c26_6 h => ?_) (fun c26_6 h => ?_)
          · refine lv_aload_n F.1 F.2.1 (dd D_X9_moon 46 rfl) rfl (lv_at hl 0 rfl) ?_
            refine lv_iload_n F.1 F.2.1 (dd D_X9_moon 47 rfl) rfl (lv_at hl 1 rfl) ?_
            obtain ⟨r39, e40, h⟩ := Option.bind_eq_some_iff.mp h
            refine ro_go (st' := [.int r39]) (rV (rest := []) F (c_X9_up D cA am s n p1 r39 e40 l) lk_X9_248 (Nat.le_of_ble_eq_true rfl) (preRO hK hS hAb hP) (rcv_9 hK hP (q0 := (0)) (mp_0 cA am s)) rfl hl rfl (Nat.le_of_ble_eq_true rfl) (dd D_X9_moon 48 rfl) ⟨Nat.le_of_ble_eq_true rfl, Nat.le_of_ble_eq_true rfl⟩) rfl ?_
            obtain rfl := Option.some.inj h
            exact rw_i (R := rmOf 6 0 0) F hP hD hS hr hlk ⟨Nat.le_of_ble_eq_true rfl, Nat.le_of_ble_eq_true rfl⟩ ⟨rfl, rfl⟩ (dd D_X9_moon 49 rfl)
          refine x_ts (tgt := 130) F.1 F.2.1 (7 : Int32) (dd D_X9_moon 21 rfl) h (by decide) (by decide) rfl rfl (fun c26_7 h => ?_) (fun c26_7 h => ?_)
          · refine lv_aload_n F.1 F.2.1 (dd D_X9_moon 50 rfl) rfl (lv_at hl 0 rfl) ?_
            refine lv_iload_n F.1 F.2.1 (dd D_X9_moon 51 rfl) rfl (lv_at hl 1 rfl) ?_
            obtain ⟨r41, e42, h⟩ := Option.bind_eq_some_iff.mp h
            refine ro_go (st' := [.int r41]) (rV (rest := []) F (c_X9_later D cA am s n p1 r41 e42 l) lk_X9_99 (Nat.le_of_ble_eq_true rfl) (preRO hK hS hAb hP) (rcv_9 hK hP (q0 := (0)) (mp_0 cA am s)) rfl hl rfl (Nat.le_of_ble_eq_true rfl) (dd D_X9_moon 52 rfl) ⟨Nat.le_of_ble_eq_true rfl, Nat.le_of_ble_eq_true rfl⟩) rfl ?_
            obtain rfl := Option.some.inj h
            exact rw_i (R := rmOf 6 0 0) F hP hD hS hr hlk ⟨Nat.le_of_ble_eq_true rfl, Nat.le_of_ble_eq_true rfl⟩ ⟨rfl, rfl⟩ (dd D_X9_moon 53 rfl)
          refine lv_tableOut (tgt := 136) F.1 F.2.1 (dd D_X9_moon 21 rfl) (ts_out (lo := 0) (vs := [(0 : Int32), (1 : Int32), (2 : Int32), (3 : Int32), (4 : Int32), (5 : Int32), (6 : Int32), (7 : Int32)]) tsv_0_8 (by intro v hv; simp only [List.mem_cons, List.not_mem_nil, or_false] at hv; rcases hv with rfl | rfl | rfl | rfl | rfl | rfl | rfl | rfl <;> assumption)) rfl ?_
          refine lv_aload_n F.1 F.2.1 (dd D_X9_moon 54 rfl) rfl (lv_at hl 0 rfl) ?_
          refine lv_iload_n F.1 F.2.1 (dd D_X9_moon 55 rfl) rfl (lv_at hl 1 rfl) ?_
          obtain ⟨r43, e44, h⟩ := Option.bind_eq_some_iff.mp h
          refine ro_go (st' := [.int r43]) (rV (rest := []) F (c_X9_degreeUp D cA am s n p1 r43 e44 l) lk_X9_256 (Nat.le_of_ble_eq_true rfl) (preRO hK hS hAb hP) (rcv_9 hK hP (q0 := (0)) (mp_0 cA am s)) rfl hl rfl (Nat.le_of_ble_eq_true rfl) (dd D_X9_moon 56 rfl) ⟨Nat.le_of_ble_eq_true rfl, Nat.le_of_ble_eq_true rfl⟩) rfl ?_
          obtain rfl := Option.some.inj h
          exact rw_i (R := rmOf 6 0 0) F hP hD hS hr hlk ⟨Nat.le_of_ble_eq_true rfl, Nat.le_of_ble_eq_true rfl⟩ ⟨rfl, rfl⟩ (dd D_X9_moon 57 rfl)
        · refine lv_aload_n F.1 F.2.1 (dd D_X9_moon 16 rfl) rfl (lv_at hl 0 rfl) ?_
          refine lv_bipush (v := (-2 : Int32)) F.1 F.2.1 (dd D_X9_moon 17 rfl) kb_m2 ?_
          obtain ⟨r45, e46, h⟩ := Option.bind_eq_some_iff.mp h
          refine rwe_all (st' := [.int r45.1]) hD hS hA (rV (rest := []) F (c_X9_refuse D cA am s n (-2 : Int32) r45 e46 l H.size) lk_X9_79 (Nat.le_of_ble_eq_true rfl) (preRW hK hS hAb hP hD) (rcv_9 hK hP (q0 := (0)) (mp_0 cA am s)) rfl hl rfl (Nat.le_of_ble_eq_true rfl) (dd D_X9_moon 18 rfl) ⟨Nat.le_of_ble_eq_true rfl, Nat.le_of_ble_eq_true rfl⟩) rfl (fun H locs hP hD hS => ?_)
          obtain rfl := Option.some.inj h
          exact rw_i (R := rmOf 6 0 0) F hP hD hS hr hlk ⟨Nat.le_of_ble_eq_true rfl, Nat.le_of_ble_eq_true rfl⟩ ⟨rfl, rfl⟩ (dd D_X9_moon 19 rfl)
def F_X9_slant (n : Nat) (s : MS) (p1 : Int32) : Option (Int32 × MS) := bf (F_X9_isDay (Int32.toInt64 p1)) ((((F_X9_slantOf n s p1)).bind fun r3 => some (r3, s))) ((((F_X9_refuse n s (-2 : Int32))).bind fun r1 => some (((-1000000 : Int32) + r1.1), r1.2)))
set_option maxHeartbeats 4000000 in
set_option maxRecDepth 100000 in
theorem c_X9_slant (D : va_G) (cA : Nat → ClassId) (am : Nat → Nat) (s : MS) (n : Nat) (p1 : Int32) (r : (Int32 × MS)) (h : F_X9_slant n s p1 = some r) : RW m_X9_slant 2 0 0 D cA [.ref (am 0), .int p1] (mW cA am s) (exq (some (.int r.1)) (mW cA am r.2)) := by
  refine RW.ofW gy_X9_slant.2.2 (Nat.le_of_ble_eq_true rfl) ?_
  intro l p e sM m below meth c A H locs F hr hlk hnm hK hP hD hS hA hAb ls hl
  have hl : lv_has ls 2 [(0, .ref (am 0)), (1, .int p1)] := hl
  unfold F_X9_slant at h
  refine lv_iload_n F.1 F.2.1 (dd D_X9_slant 0 rfl) rfl (lv_at hl 1 rfl) ?_
  refine lv_i2l (v := (Int32.toInt64 p1)) F.1 F.2.1 (dd D_X9_slant 1 rfl) rfl ?_
  refine ro_go (st' := [.int (bI (F_X9_isDay (Int32.toInt64 p1)))]) (rS (rest := []) F (c_X9_isDay D cA (Int32.toInt64 p1) l) lk_X9_67 (Nat.le_of_ble_eq_true rfl) (preRO hK hS hAb (emP)) rfl hl rfl (Nat.le_of_ble_eq_true rfl) (dd D_X9_slant 2 rfl) ⟨Nat.le_of_ble_eq_true rfl, Nat.le_of_ble_eq_true rfl⟩) rfl ?_
  refine x_bif_eq (tgt := 16) F.1 F.2.1 (dd D_X9_slant 3 rfl) rfl h (fun c5 h => ?_) (fun c5 h => ?_)
  · refine lv_ldcw (own := RX9) (v := (-1000000 : Int32)) F.1 F.2.1 F.2.2.2.1 (F.2.2.2.2 _ (w_1463)) (dd D_X9_slant 8 rfl) ?_
    refine lv_aload_n F.1 F.2.1 (dd D_X9_slant 9 rfl) rfl (lv_at hl 0 rfl) ?_
    refine lv_bipush (v := (-2 : Int32)) F.1 F.2.1 (dd D_X9_slant 10 rfl) kb_m2 ?_
    obtain ⟨r1, e2, h⟩ := Option.bind_eq_some_iff.mp h
    refine rwe_all (st' := [.int r1.1, .int (-1000000 : Int32)]) hD hS hA (rV (rest := [.int (-1000000 : Int32)]) F (c_X9_refuse D cA am s n (-2 : Int32) r1 e2 l H.size) lk_X9_79 (Nat.le_of_ble_eq_true rfl) (preRW hK hS hAb hP hD) (rcv_9 hK hP (q0 := (0)) (mp_0 cA am s)) rfl hl rfl (Nat.le_of_ble_eq_true rfl) (dd D_X9_slant 11 rfl) ⟨Nat.le_of_ble_eq_true rfl, Nat.le_of_ble_eq_true rfl⟩) rfl (fun H locs hP hD hS => ?_)
    refine lv_iadd F.1 F.2.1 (dd D_X9_slant 12 rfl) ?_
    obtain rfl := Option.some.inj h
    exact rw_i (R := rmOf 2 0 0) F hP hD hS hr hlk ⟨Nat.le_of_ble_eq_true rfl, Nat.le_of_ble_eq_true rfl⟩ ⟨rfl, rfl⟩ (dd D_X9_slant 13 rfl)
  · refine lv_aload_n F.1 F.2.1 (dd D_X9_slant 4 rfl) rfl (lv_at hl 0 rfl) ?_
    refine lv_iload_n F.1 F.2.1 (dd D_X9_slant 5 rfl) rfl (lv_at hl 1 rfl) ?_
    obtain ⟨r3, e4, h⟩ := Option.bind_eq_some_iff.mp h
    refine ro_go (st' := [.int r3]) (rV (rest := []) F (c_X9_slantOf D cA am s n p1 r3 e4 l) lk_X9_227 (Nat.le_of_ble_eq_true rfl) (preRO hK hS hAb hP) (rcv_9 hK hP (q0 := (0)) (mp_0 cA am s)) rfl hl rfl (Nat.le_of_ble_eq_true rfl) (dd D_X9_slant 6 rfl) ⟨Nat.le_of_ble_eq_true rfl, Nat.le_of_ble_eq_true rfl⟩) rfl ?_
    refine lv_goto (tgt := 26) F.1 F.2.1 (dd D_X9_slant 7 rfl) rfl ?_
    obtain rfl := Option.some.inj h
    exact rw_i (R := rmOf 2 0 0) F hP hD hS hr hlk ⟨Nat.le_of_ble_eq_true rfl, Nat.le_of_ble_eq_true rfl⟩ ⟨rfl, rfl⟩ (dd D_X9_slant 13 rfl)
def F_X9_behindOf_L34 (n : Nat) (u0 : MS) (v1 : Int32) (v2 : Int32) (v3 : Int32) (v4 : Int32) : Nat → Int32 → Option Int32
  | 0, _ => none
  | kf + 1, w5 => gd (inb w5 8) (gd (inb (2 : Int32) 3) ((if ((m_notch u0 (Int32.toNatClampNeg w5)) (Int32.toNatClampNeg (2 : Int32))) = v4 then gd (inb w5 8) (gd (inb (0 : Int32) 3) (gd (inb w5 8) (gd (inb (1 : Int32) 3) (bf (F_X9_in (Int32.toInt64 v3) (Int32.toInt64 ((m_notch u0 (Int32.toNatClampNeg w5)) (Int32.toNatClampNeg (0 : Int32)))) (Int32.toInt64 ((m_notch u0 (Int32.toNatClampNeg w5)) (Int32.toNatClampNeg (1 : Int32))))) (some (w5)) (F_X9_behindOf_L34 n u0 v1 v2 v3 v4 kf (w5 + (1 : Int32))))))) else F_X9_behindOf_L34 n u0 v1 v2 v3 v4 kf (w5 + (1 : Int32)))))
def F_X9_behindOf (n : Nat) (s : MS) (p1 : Int32) : Option Int32 := (((F_X9_over n s p1)).bind fun r1 => (if 0 ≤ (r1 - (1 : Int32)) then (((F_X9_way n s p1)).bind fun r4 => (((F_X9_lineAt n s (r4 + ((r1 - (1 : Int32)) / (4 : Int32))))).bind fun r6 => F_X9_behindOf_L34 n s p1 (r1 - (1 : Int32)) (r4 + ((r1 - (1 : Int32)) / (4 : Int32))) r6 n (0 : Int32))) else some ((-1 : Int32))))
set_option maxHeartbeats 4000000 in
set_option maxRecDepth 100000 in
theorem c_X9_behindOf (D : va_G) (cA : Nat → ClassId) (am : Nat → Nat) (s : MS) (n : Nat) (p1 : Int32) (r : Int32) (h : F_X9_behindOf n s p1 = some r) : RO m_X9_behindOf 4 D cA [.ref (am 0), .int p1] (mW cA am s) (some (.int r)) := by
  refine RO.ofW gy_X9_behindOf.2.2 (Nat.le_of_ble_eq_true rfl) ?_
  intro l p e sM m below meth c F hr hlk hK hP hS hAb ls hl
  have hl : lv_has ls 6 [(0, .ref (am 0)), (1, .int p1)] := hl
  unfold F_X9_behindOf at h
  refine lv_aload_n F.1 F.2.1 (dd D_X9_behindOf 0 rfl) rfl (lv_at hl 0 rfl) ?_
  refine lv_iload_n F.1 F.2.1 (dd D_X9_behindOf 1 rfl) rfl (lv_at hl 1 rfl) ?_
  obtain ⟨r1, e2, h⟩ := Option.bind_eq_some_iff.mp h
  refine ro_go (st' := [.int r1]) (rV (rest := []) F (c_X9_over D cA am s n p1 r1 e2 l) lk_X9_245 (Nat.le_of_ble_eq_true rfl) (preRO hK hS hAb hP) (rcv_9 hK hP (q0 := (0)) (mp_0 cA am s)) rfl hl rfl (Nat.le_of_ble_eq_true rfl) (dd D_X9_behindOf 2 rfl) ⟨Nat.le_of_ble_eq_true rfl, Nat.le_of_ble_eq_true rfl⟩) rfl ?_
  refine lv_iconst (v := (1 : Int32)) F.1 F.2.1 (dd D_X9_behindOf 3 rfl) ki_1 ?_
  refine lv_isub F.1 F.2.1 (dd D_X9_behindOf 4 rfl) ?_
  refine lv_istore_n (lv' := [(2, .int (r1 - (1 : Int32))), (0, .ref (am 0)), (1, .int p1)]) F.1 F.2.1 (dd D_X9_behindOf 5 rfl) rfl hl (Nat.le_of_ble_eq_true rfl) rfl (fun ls hl => ?_)
  refine lv_iload_n F.1 F.2.1 (dd D_X9_behindOf 6 rfl) rfl (lv_at hl 0 rfl) ?_
  refine x_if_ge (tgt := 14) F.1 F.2.1 (dd D_X9_behindOf 7 rfl) rfl h (fun c3 h => ?_) (fun c3 h => ?_)
  · refine lv_aload_n F.1 F.2.1 (dd D_X9_behindOf 10 rfl) rfl (lv_at hl 1 rfl) ?_
    refine lv_iload_n F.1 F.2.1 (dd D_X9_behindOf 11 rfl) rfl (lv_at hl 2 rfl) ?_
    obtain ⟨r4, e5, h⟩ := Option.bind_eq_some_iff.mp h
    refine ro_go (st' := [.int r4]) (rV (rest := []) F (c_X9_way D cA am s n p1 r4 e5 l) lk_X9_239 (Nat.le_of_ble_eq_true rfl) (preRO hK hS hAb hP) (rcv_9 hK hP (q0 := (0)) (mp_0 cA am s)) rfl hl rfl (Nat.le_of_ble_eq_true rfl) (dd D_X9_behindOf 12 rfl) ⟨Nat.le_of_ble_eq_true rfl, Nat.le_of_ble_eq_true rfl⟩) rfl ?_
    refine lv_iload_n F.1 F.2.1 (dd D_X9_behindOf 13 rfl) rfl (lv_at hl 0 rfl) ?_
    refine lv_iconst (v := (4 : Int32)) F.1 F.2.1 (dd D_X9_behindOf 14 rfl) ki_4 ?_
    refine lv_idiv F.1 F.2.1 (dd D_X9_behindOf 15 rfl) kd_4 ?_
    refine lv_iadd F.1 F.2.1 (dd D_X9_behindOf 16 rfl) ?_
    refine lv_istore_n (lv' := [(3, .int (r4 + ((r1 - (1 : Int32)) / (4 : Int32)))), (2, .int (r1 - (1 : Int32))), (0, .ref (am 0)), (1, .int p1)]) F.1 F.2.1 (dd D_X9_behindOf 17 rfl) rfl hl (Nat.le_of_ble_eq_true rfl) rfl (fun ls hl => ?_)
    refine lv_aload_n F.1 F.2.1 (dd D_X9_behindOf 18 rfl) rfl (lv_at hl 2 rfl) ?_
    refine lv_iload_n F.1 F.2.1 (dd D_X9_behindOf 19 rfl) rfl (lv_at hl 0 rfl) ?_
    obtain ⟨r6, e7, h⟩ := Option.bind_eq_some_iff.mp h
    refine ro_go (st' := [.int r6]) (rV (rest := []) F (c_X9_lineAt D cA am s n (r4 + ((r1 - (1 : Int32)) / (4 : Int32))) r6 e7 l) lk_X9_236 (Nat.le_of_ble_eq_true rfl) (preRO hK hS hAb hP) (rcv_9 hK hP (q0 := (0)) (mp_0 cA am s)) rfl hl rfl (Nat.le_of_ble_eq_true rfl) (dd D_X9_behindOf 20 rfl) ⟨Nat.le_of_ble_eq_true rfl, Nat.le_of_ble_eq_true rfl⟩) rfl ?_
    refine lv_istore (lv' := [(4, .int r6), (3, .int (r4 + ((r1 - (1 : Int32)) / (4 : Int32)))), (2, .int (r1 - (1 : Int32))), (0, .ref (am 0)), (1, .int p1)]) F.1 F.2.1 (dd D_X9_behindOf 21 rfl) hl (Nat.le_of_ble_eq_true rfl) rfl (fun ls hl => ?_)
    refine lv_iconst (v := (0 : Int32)) F.1 F.2.1 (dd D_X9_behindOf 22 rfl) ki_0 ?_
    refine lv_istore (lv' := [(5, .int (0 : Int32)), (4, .int r6), (3, .int (r4 + ((r1 - (1 : Int32)) / (4 : Int32)))), (2, .int (r1 - (1 : Int32))), (0, .ref (am 0)), (1, .int p1)]) F.1 F.2.1 (dd D_X9_behindOf 23 rfl) hl (Nat.le_of_ble_eq_true rfl) rfl (fun ls hl => ?_)
    have L19 : ∀ (kf : Nat) (w5_L19 : Int32) (ls : Array Slot), lv_has ls 6 [(0, .ref (am 0)), (1, .int p1), (2, .int (r1 - (1 : Int32))), (3, .int (r4 + ((r1 - (1 : Int32)) / (4 : Int32)))), (4, .int r6), (5, .int w5_L19)] → F_X9_behindOf_L34 n s p1 (r1 - (1 : Int32)) (r4 + ((r1 - (1 : Int32)) / (4 : Int32))) r6 kf w5_L19 = some r → Wro 4 (some (.int r)) p l e sM m ([.ref (am 0), .int p1] : List Value).toArray below meth c 34 ls [] := by
      intro kf
      induction kf with
      | zero =>
        intro w5_L19 ls hl h
        cases (show none = some r from h)
      | succ k_L19 ih_L19 =>
        intro w5_L19 ls hl h
        unfold F_X9_behindOf_L34 at h
        refine lv_aload_n F.1 F.2.1 (dd D_X9_behindOf 24 rfl) rfl (lv_at hl 0 rfl) ?_
        refine getF F hK hP lf_X9_45 (0) (mp_0 cA am s) rfl (dd D_X9_behindOf 25 rfl) ?_
        refine lv_iload F.1 F.2.1 (dd D_X9_behindOf 26 rfl) (lv_at hl 5 rfl) ?_
        refine aldA (g := fun j => am (20+j)) F hK hP (19) (mp_19 cA am s) 4 rfl (fun _ => rfl) h (dd D_X9_behindOf 27 rfl) (fun z20 h => ?_)
        have hk21 : (Int32.toNatClampNeg w5_L19) < 8 := inb_lt z20
        refine lv_iconst (v := (2 : Int32)) F.1 F.2.1 (dd D_X9_behindOf 28 rfl) ki_2 ?_
        refine aldI F hK hP (20+(Int32.toNatClampNeg w5_L19)) (mp_notch cA am s (Int32.toNatClampNeg w5_L19) hk21) h (dd D_X9_behindOf 29 rfl) (fun z22 h => ?_)
        refine lv_iload F.1 F.2.1 (dd D_X9_behindOf 30 rfl) (lv_at hl 4 rfl) ?_
        refine x_icmp_ne (tgt := 76) F.1 F.2.1 (dd D_X9_behindOf 31 rfl) rfl h (fun c23 h => ?_) (fun c23 h => ?_)
        · refine lv_iinc (v := (w5_L19 + (1 : Int32))) (lv' := [(5, .int (w5_L19 + (1 : Int32))), (0, .ref (am 0)), (1, .int p1), (2, .int (r1 - (1 : Int32))), (3, .int (r4 + ((r1 - (1 : Int32)) / (4 : Int32)))), (4, .int r6)]) F.1 F.2.1 (dd D_X9_behindOf 50 rfl) hl (k := 5) rfl (congrArg (fun z => w5_L19 + z) ki_1) (Nat.le_of_ble_eq_true rfl) rfl (fun ls hl => ?_)
          refine lv_goto (tgt := 34) F.1 F.2.1 (dd D_X9_behindOf 51 rfl) rfl ?_
          exact ih_L19 (w5_L19 + (1 : Int32)) ls (lv_sub hl [1, 2, 3, 4, 5, 0] rfl) h
        · refine lv_iload_n F.1 F.2.1 (dd D_X9_behindOf 32 rfl) rfl (lv_at hl 3 rfl) ?_
          refine lv_i2l (v := (Int32.toInt64 (r4 + ((r1 - (1 : Int32)) / (4 : Int32))))) F.1 F.2.1 (dd D_X9_behindOf 33 rfl) rfl ?_
          refine lv_aload_n F.1 F.2.1 (dd D_X9_behindOf 34 rfl) rfl (lv_at hl 0 rfl) ?_
          refine getF F hK hP lf_X9_45 (0) (mp_0 cA am s) rfl (dd D_X9_behindOf 35 rfl) ?_
          refine lv_iload F.1 F.2.1 (dd D_X9_behindOf 36 rfl) (lv_at hl 5 rfl) ?_
          refine aldA (g := fun j => am (20+j)) F hK hP (19) (mp_19 cA am s) 4 rfl (fun _ => rfl) h (dd D_X9_behindOf 37 rfl) (fun z24 h => ?_)
          have hk25 : (Int32.toNatClampNeg w5_L19) < 8 := inb_lt z24
          refine lv_iconst (v := (0 : Int32)) F.1 F.2.1 (dd D_X9_behindOf 38 rfl) ki_0 ?_
          refine aldI F hK hP (20+(Int32.toNatClampNeg w5_L19)) (mp_notch cA am s (Int32.toNatClampNeg w5_L19) hk25) h (dd D_X9_behindOf 39 rfl) (fun z26 h => ?_)
          refine lv_i2l (v := (Int32.toInt64 ((m_notch s (Int32.toNatClampNeg w5_L19)) (Int32.toNatClampNeg (0 : Int32))))) F.1 F.2.1 (dd D_X9_behindOf 40 rfl) rfl ?_
          refine lv_aload_n F.1 F.2.1 (dd D_X9_behindOf 41 rfl) rfl (lv_at hl 0 rfl) ?_
          refine getF F hK hP lf_X9_45 (0) (mp_0 cA am s) rfl (dd D_X9_behindOf 42 rfl) ?_
          refine lv_iload F.1 F.2.1 (dd D_X9_behindOf 43 rfl) (lv_at hl 5 rfl) ?_
          refine aldA (g := fun j => am (20+j)) F hK hP (19) (mp_19 cA am s) 4 rfl (fun _ => rfl) h (dd D_X9_behindOf 44 rfl) (fun z27 h => ?_)
          have hk28 : (Int32.toNatClampNeg w5_L19) < 8 := inb_lt z27
          refine lv_iconst (v := (1 : Int32)) F.1 F.2.1 (dd D_X9_behindOf 45 rfl) ki_1 ?_
          refine aldI F hK hP (20+(Int32.toNatClampNeg w5_L19)) (mp_notch cA am s (Int32.toNatClampNeg w5_L19) hk28) h (dd D_X9_behindOf 46 rfl) (fun z29 h => ?_)
          refine lv_i2l (v := (Int32.toInt64 ((m_notch s (Int32.toNatClampNeg w5_L19)) (Int32.toNatClampNeg (1 : Int32))))) F.1 F.2.1 (dd D_X9_behindOf 47 rfl) rfl ?_
          refine ro_go (st' := [.int (bI (F_X9_in (Int32.toInt64 (r4 + ((r1 - (1 : Int32)) / (4 : Int32)))) (Int32.toInt64 ((m_notch s (Int32.toNatClampNeg w5_L19)) (Int32.toNatClampNeg (0 : Int32)))) (Int32.toInt64 ((m_notch s (Int32.toNatClampNeg w5_L19)) (Int32.toNatClampNeg (1 : Int32))))))]) (rS (rest := []) F (c_X9_in D cA (Int32.toInt64 (r4 + ((r1 - (1 : Int32)) / (4 : Int32)))) (Int32.toInt64 ((m_notch s (Int32.toNatClampNeg w5_L19)) (Int32.toNatClampNeg (0 : Int32)))) (Int32.toInt64 ((m_notch s (Int32.toNatClampNeg w5_L19)) (Int32.toNatClampNeg (1 : Int32)))) l) lk_X9_63 (Nat.le_of_ble_eq_true rfl) (preRO hK hS hAb (emP)) rfl hl rfl (Nat.le_of_ble_eq_true rfl) (dd D_X9_behindOf 48 rfl) ⟨Nat.le_of_ble_eq_true rfl, Nat.le_of_ble_eq_true rfl⟩) rfl ?_
          refine x_bif_ne (tgt := 82) F.1 F.2.1 (dd D_X9_behindOf 49 rfl) rfl h (fun c30 h => ?_) (fun c30 h => ?_)
          · refine lv_iload F.1 F.2.1 (dd D_X9_behindOf 52 rfl) (lv_at hl 5 rfl) ?_
            exact ro_i (R := rmOf 4 0 0) F hr hlk (congrArg (Option.map Value.int) h) (dd D_X9_behindOf 53 rfl)
          · refine lv_iinc (v := (w5_L19 + (1 : Int32))) (lv' := [(5, .int (w5_L19 + (1 : Int32))), (0, .ref (am 0)), (1, .int p1), (2, .int (r1 - (1 : Int32))), (3, .int (r4 + ((r1 - (1 : Int32)) / (4 : Int32)))), (4, .int r6)]) F.1 F.2.1 (dd D_X9_behindOf 50 rfl) hl (k := 5) rfl (congrArg (fun z => w5_L19 + z) ki_1) (Nat.le_of_ble_eq_true rfl) rfl (fun ls hl => ?_)
            refine lv_goto (tgt := 34) F.1 F.2.1 (dd D_X9_behindOf 51 rfl) rfl ?_
            exact ih_L19 (w5_L19 + (1 : Int32)) ls (lv_sub hl [1, 2, 3, 4, 5, 0] rfl) h
    exact L19 n (0 : Int32) ls (lv_sub hl [4, 5, 3, 2, 1, 0] rfl) h
  · refine lv_iconst (v := (-1 : Int32)) F.1 F.2.1 (dd D_X9_behindOf 8 rfl) ki_m1 ?_
    exact ro_i (R := rmOf 4 0 0) F hr hlk (congrArg (Option.map Value.int) h) (dd D_X9_behindOf 9 rfl)
def F_X9_behind (n : Nat) (s : MS) (p1 : Int32) : Option (Int32 × MS) := bf (F_X9_isDay (Int32.toInt64 p1)) ((((F_X9_behindOf n s p1)).bind fun r3 => some (r3, s))) ((((F_X9_refuse n s (-2 : Int32))).bind fun r1 => some (r1.1, r1.2)))
set_option maxHeartbeats 4000000 in
set_option maxRecDepth 100000 in
theorem c_X9_behind (D : va_G) (cA : Nat → ClassId) (am : Nat → Nat) (s : MS) (n : Nat) (p1 : Int32) (r : (Int32 × MS)) (h : F_X9_behind n s p1 = some r) : RW m_X9_behind 5 0 0 D cA [.ref (am 0), .int p1] (mW cA am s) (exq (some (.int r.1)) (mW cA am r.2)) := by
  refine RW.ofW gy_X9_behind.2.2 (Nat.le_of_ble_eq_true rfl) ?_
  intro l p e sM m below meth c A H locs F hr hlk hnm hK hP hD hS hA hAb ls hl
  have hl : lv_has ls 2 [(0, .ref (am 0)), (1, .int p1)] := hl
  unfold F_X9_behind at h
  refine lv_iload_n F.1 F.2.1 (dd D_X9_behind 0 rfl) rfl (lv_at hl 1 rfl) ?_
  refine lv_i2l (v := (Int32.toInt64 p1)) F.1 F.2.1 (dd D_X9_behind 1 rfl) rfl ?_
  refine ro_go (st' := [.int (bI (F_X9_isDay (Int32.toInt64 p1)))]) (rS (rest := []) F (c_X9_isDay D cA (Int32.toInt64 p1) l) lk_X9_67 (Nat.le_of_ble_eq_true rfl) (preRO hK hS hAb (emP)) rfl hl rfl (Nat.le_of_ble_eq_true rfl) (dd D_X9_behind 2 rfl) ⟨Nat.le_of_ble_eq_true rfl, Nat.le_of_ble_eq_true rfl⟩) rfl ?_
  refine x_bif_eq (tgt := 16) F.1 F.2.1 (dd D_X9_behind 3 rfl) rfl h (fun c5 h => ?_) (fun c5 h => ?_)
  · refine lv_aload_n F.1 F.2.1 (dd D_X9_behind 8 rfl) rfl (lv_at hl 0 rfl) ?_
    refine lv_bipush (v := (-2 : Int32)) F.1 F.2.1 (dd D_X9_behind 9 rfl) kb_m2 ?_
    obtain ⟨r1, e2, h⟩ := Option.bind_eq_some_iff.mp h
    refine rwe_all (st' := [.int r1.1]) hD hS hA (rV (rest := []) F (c_X9_refuse D cA am s n (-2 : Int32) r1 e2 l H.size) lk_X9_79 (Nat.le_of_ble_eq_true rfl) (preRW hK hS hAb hP hD) (rcv_9 hK hP (q0 := (0)) (mp_0 cA am s)) rfl hl rfl (Nat.le_of_ble_eq_true rfl) (dd D_X9_behind 10 rfl) ⟨Nat.le_of_ble_eq_true rfl, Nat.le_of_ble_eq_true rfl⟩) rfl (fun H locs hP hD hS => ?_)
    obtain rfl := Option.some.inj h
    exact rw_i (R := rmOf 5 0 0) F hP hD hS hr hlk ⟨Nat.le_of_ble_eq_true rfl, Nat.le_of_ble_eq_true rfl⟩ ⟨rfl, rfl⟩ (dd D_X9_behind 11 rfl)
  · refine lv_aload_n F.1 F.2.1 (dd D_X9_behind 4 rfl) rfl (lv_at hl 0 rfl) ?_
    refine lv_iload_n F.1 F.2.1 (dd D_X9_behind 5 rfl) rfl (lv_at hl 1 rfl) ?_
    obtain ⟨r3, e4, h⟩ := Option.bind_eq_some_iff.mp h
    refine ro_go (st' := [.int r3]) (rV (rest := []) F (c_X9_behindOf D cA am s n p1 r3 e4 l) lk_X9_260 (Nat.le_of_ble_eq_true rfl) (preRO hK hS hAb hP) (rcv_9 hK hP (q0 := (0)) (mp_0 cA am s)) rfl hl rfl (Nat.le_of_ble_eq_true rfl) (dd D_X9_behind 6 rfl) ⟨Nat.le_of_ble_eq_true rfl, Nat.le_of_ble_eq_true rfl⟩) rfl ?_
    refine lv_goto (tgt := 22) F.1 F.2.1 (dd D_X9_behind 7 rfl) rfl ?_
    obtain rfl := Option.some.inj h
    exact rw_i (R := rmOf 5 0 0) F hP hD hS hr hlk ⟨Nat.le_of_ble_eq_true rfl, Nat.le_of_ble_eq_true rfl⟩ ⟨rfl, rfl⟩ (dd D_X9_behind 11 rfl)
def F_X9_is (n : Nat) (s : MS) (p1 : Int32) (p2 : Int32) : Option (Int32 × MS) := bf (F_X9_isDay (Int32.toInt64 p1)) (bf (F_X9_in (Int32.toInt64 p2) (0 : Int64) (5 : Int64)) ((((F_X9_isOf n s p1 p2)).bind fun r3 => bf r3 (some ((1 : Int32), s)) (some ((0 : Int32), s)))) ((((F_X9_refuse n s (-2 : Int32))).bind fun r6 => some (r6.1, r6.2)))) ((((F_X9_refuse n s (-2 : Int32))).bind fun r1 => some (r1.1, r1.2)))
set_option maxHeartbeats 4000000 in
set_option maxRecDepth 100000 in
theorem c_X9_is (D : va_G) (cA : Nat → ClassId) (am : Nat → Nat) (s : MS) (n : Nat) (p1 : Int32) (p2 : Int32) (r : (Int32 × MS)) (h : F_X9_is n s p1 p2 = some r) : RW m_X9_is 7 0 0 D cA [.ref (am 0), .int p1, .int p2] (mW cA am s) (exq (some (.int r.1)) (mW cA am r.2)) := by
  refine RW.ofW gy_X9_is.2.2 (Nat.le_of_ble_eq_true rfl) ?_
  intro l p e sM m below meth c A H locs F hr hlk hnm hK hP hD hS hA hAb ls hl
  have hl : lv_has ls 3 [(0, .ref (am 0)), (1, .int p1), (2, .int p2)] := hl
  unfold F_X9_is at h
  refine lv_iload_n F.1 F.2.1 (dd D_X9_is 0 rfl) rfl (lv_at hl 1 rfl) ?_
  refine lv_i2l (v := (Int32.toInt64 p1)) F.1 F.2.1 (dd D_X9_is 1 rfl) rfl ?_
  refine ro_go (st' := [.int (bI (F_X9_isDay (Int32.toInt64 p1)))]) (rS (rest := []) F (c_X9_isDay D cA (Int32.toInt64 p1) l) lk_X9_67 (Nat.le_of_ble_eq_true rfl) (preRO hK hS hAb (emP)) rfl hl rfl (Nat.le_of_ble_eq_true rfl) (dd D_X9_is 2 rfl) ⟨Nat.le_of_ble_eq_true rfl, Nat.le_of_ble_eq_true rfl⟩) rfl ?_
  refine x_bif_eq (tgt := 20) F.1 F.2.1 (dd D_X9_is 3 rfl) rfl h (fun c9 h => ?_) (fun c9 h => ?_)
  · refine lv_aload_n F.1 F.2.1 (dd D_X9_is 10 rfl) rfl (lv_at hl 0 rfl) ?_
    refine lv_bipush (v := (-2 : Int32)) F.1 F.2.1 (dd D_X9_is 11 rfl) kb_m2 ?_
    obtain ⟨r1, e2, h⟩ := Option.bind_eq_some_iff.mp h
    refine rwe_all (st' := [.int r1.1]) hD hS hA (rV (rest := []) F (c_X9_refuse D cA am s n (-2 : Int32) r1 e2 l H.size) lk_X9_79 (Nat.le_of_ble_eq_true rfl) (preRW hK hS hAb hP hD) (rcv_9 hK hP (q0 := (0)) (mp_0 cA am s)) rfl hl rfl (Nat.le_of_ble_eq_true rfl) (dd D_X9_is 12 rfl) ⟨Nat.le_of_ble_eq_true rfl, Nat.le_of_ble_eq_true rfl⟩) rfl (fun H locs hP hD hS => ?_)
    obtain rfl := Option.some.inj h
    exact rw_i (R := rmOf 7 0 0) F hP hD hS hr hlk ⟨Nat.le_of_ble_eq_true rfl, Nat.le_of_ble_eq_true rfl⟩ ⟨rfl, rfl⟩ (dd D_X9_is 13 rfl)
  · refine lv_iload_n F.1 F.2.1 (dd D_X9_is 4 rfl) rfl (lv_at hl 2 rfl) ?_
    refine lv_i2l (v := (Int32.toInt64 p2)) F.1 F.2.1 (dd D_X9_is 5 rfl) rfl ?_
    refine lv_lconst (v := (0 : Int64)) F.1 F.2.1 (dd D_X9_is 6 rfl) kl_0 ?_
    refine lv_ldc2 (own := RX9) (v := (5 : Int64)) F.1 F.2.1 F.2.2.2.1 (F.2.2.2.2 _ (kL_X9_90)) (dd D_X9_is 7 rfl) ?_
    refine ro_go (st' := [.int (bI (F_X9_in (Int32.toInt64 p2) (0 : Int64) (5 : Int64)))]) (rS (rest := []) F (c_X9_in D cA (Int32.toInt64 p2) (0 : Int64) (5 : Int64) l) lk_X9_63 (Nat.le_of_ble_eq_true rfl) (preRO hK hS hAb (emP)) rfl hl rfl (Nat.le_of_ble_eq_true rfl) (dd D_X9_is 8 rfl) ⟨Nat.le_of_ble_eq_true rfl, Nat.le_of_ble_eq_true rfl⟩) rfl ?_
    refine x_bif_ne (tgt := 27) F.1 F.2.1 (dd D_X9_is 9 rfl) rfl h (fun c8 h => ?_) (fun c8 h => ?_)
    · refine lv_aload_n F.1 F.2.1 (dd D_X9_is 14 rfl) rfl (lv_at hl 0 rfl) ?_
      refine lv_iload_n F.1 F.2.1 (dd D_X9_is 15 rfl) rfl (lv_at hl 1 rfl) ?_
      refine lv_iload_n F.1 F.2.1 (dd D_X9_is 16 rfl) rfl (lv_at hl 2 rfl) ?_
      obtain ⟨r3, e4, h⟩ := Option.bind_eq_some_iff.mp h
      refine ro_go (st' := [.int (bI r3)]) (rV (rest := []) F (c_X9_isOf D cA am s n p1 p2 r3 e4 l) lk_X9_109 (Nat.le_of_ble_eq_true rfl) (preRO hK hS hAb hP) (rcv_9 hK hP (q0 := (0)) (mp_0 cA am s)) rfl hl rfl (Nat.le_of_ble_eq_true rfl) (dd D_X9_is 17 rfl) ⟨Nat.le_of_ble_eq_true rfl, Nat.le_of_ble_eq_true rfl⟩) rfl ?_
      refine x_bif_eq (tgt := 40) F.1 F.2.1 (dd D_X9_is 18 rfl) rfl h (fun c5 h => ?_) (fun c5 h => ?_)
      · refine lv_iconst (v := (0 : Int32)) F.1 F.2.1 (dd D_X9_is 21 rfl) ki_0 ?_
        obtain rfl := Option.some.inj h
        exact rw_i (R := rmOf 7 0 0) F hP hD hS hr hlk ⟨Nat.le_of_ble_eq_true rfl, Nat.le_of_ble_eq_true rfl⟩ ⟨rfl, rfl⟩ (dd D_X9_is 22 rfl)
      · refine lv_iconst (v := (1 : Int32)) F.1 F.2.1 (dd D_X9_is 19 rfl) ki_1 ?_
        refine lv_goto (tgt := 41) F.1 F.2.1 (dd D_X9_is 20 rfl) rfl ?_
        obtain rfl := Option.some.inj h
        exact rw_i (R := rmOf 7 0 0) F hP hD hS hr hlk ⟨Nat.le_of_ble_eq_true rfl, Nat.le_of_ble_eq_true rfl⟩ ⟨rfl, rfl⟩ (dd D_X9_is 22 rfl)
    · refine lv_aload_n F.1 F.2.1 (dd D_X9_is 10 rfl) rfl (lv_at hl 0 rfl) ?_
      refine lv_bipush (v := (-2 : Int32)) F.1 F.2.1 (dd D_X9_is 11 rfl) kb_m2 ?_
      obtain ⟨r6, e7, h⟩ := Option.bind_eq_some_iff.mp h
      refine rwe_all (st' := [.int r6.1]) hD hS hA (rV (rest := []) F (c_X9_refuse D cA am s n (-2 : Int32) r6 e7 l H.size) lk_X9_79 (Nat.le_of_ble_eq_true rfl) (preRW hK hS hAb hP hD) (rcv_9 hK hP (q0 := (0)) (mp_0 cA am s)) rfl hl rfl (Nat.le_of_ble_eq_true rfl) (dd D_X9_is 12 rfl) ⟨Nat.le_of_ble_eq_true rfl, Nat.le_of_ble_eq_true rfl⟩) rfl (fun H locs hP hD hS => ?_)
      obtain rfl := Option.some.inj h
      exact rw_i (R := rmOf 7 0 0) F hP hD hS hr hlk ⟨Nat.le_of_ble_eq_true rfl, Nat.le_of_ble_eq_true rfl⟩ ⟨rfl, rfl⟩ (dd D_X9_is 13 rfl)
def F_X9_areMinutes (p0 : Int32) (p1 : Int32) : Bool := (if p0 < 0 then (false) else (if p1 < p0 then (false) else (if (1439 : Int32) < p1 then (false) else (true))))
set_option maxHeartbeats 4000000 in
set_option maxRecDepth 100000 in
theorem c_X9_areMinutes (D : va_G) (cA : Nat → ClassId)  (p0 : Int32) (p1 : Int32) : RO m_X9_areMinutes 0 D cA [.int p0, .int p1] [] (some (.int (bI (F_X9_areMinutes p0 p1)))) := by
  obtain ⟨r, h⟩ : ∃ r, F_X9_areMinutes p0 p1 = r := ⟨_, rfl⟩
  rw [h]
  refine RO.ofW gy_X9_areMinutes.2.2 (Nat.le_of_ble_eq_true rfl) ?_
  intro l p e sM m below meth c F hr hlk hK hP hS hAb ls hl
  have hl : lv_has ls 2 [(0, .int p0), (1, .int p1)] := hl
  unfold F_X9_areMinutes at h
  refine lv_iload_n F.1 F.2.1 (dd D_X9_areMinutes 0 rfl) rfl (lv_at hl 0 rfl) ?_
  refine x_if_lt (tgt := 20) F.1 F.2.1 (dd D_X9_areMinutes 1 rfl) rfl h (fun c1 h => ?_) (fun c1 h => ?_)
  · refine lv_iconst (v := (0 : Int32)) F.1 F.2.1 (dd D_X9_areMinutes 10 rfl) ki_0 ?_
    exact ro_z (R := rmOf 0 0 0) F hr rfl hlk (congrArg (fun z => some (Value.int (bI z))) h) (dd D_X9_areMinutes 11 rfl)
  · refine lv_iload_n F.1 F.2.1 (dd D_X9_areMinutes 2 rfl) rfl (lv_at hl 0 rfl) ?_
    refine lv_iload_n F.1 F.2.1 (dd D_X9_areMinutes 3 rfl) rfl (lv_at hl 1 rfl) ?_
    refine x_icmp_gt (tgt := 20) F.1 F.2.1 (dd D_X9_areMinutes 4 rfl) rfl h (fun c2 h => ?_) (fun c2 h => ?_)
    · refine lv_iconst (v := (0 : Int32)) F.1 F.2.1 (dd D_X9_areMinutes 10 rfl) ki_0 ?_
      exact ro_z (R := rmOf 0 0 0) F hr rfl hlk (congrArg (fun z => some (Value.int (bI z))) h) (dd D_X9_areMinutes 11 rfl)
    · refine lv_iload_n F.1 F.2.1 (dd D_X9_areMinutes 5 rfl) rfl (lv_at hl 1 rfl) ?_
      refine lv_sipush (v := (1439 : Int32)) F.1 F.2.1 (dd D_X9_areMinutes 6 rfl) ks_1439 ?_
      refine x_icmp_gt (tgt := 20) F.1 F.2.1 (dd D_X9_areMinutes 7 rfl) rfl h (fun c3 h => ?_) (fun c3 h => ?_)
      · refine lv_iconst (v := (0 : Int32)) F.1 F.2.1 (dd D_X9_areMinutes 10 rfl) ki_0 ?_
        exact ro_z (R := rmOf 0 0 0) F hr rfl hlk (congrArg (fun z => some (Value.int (bI z))) h) (dd D_X9_areMinutes 11 rfl)
      · refine lv_iconst (v := (1 : Int32)) F.1 F.2.1 (dd D_X9_areMinutes 8 rfl) ki_1 ?_
        refine lv_goto (tgt := 21) F.1 F.2.1 (dd D_X9_areMinutes 9 rfl) rfl ?_
        exact ro_z (R := rmOf 0 0 0) F hr rfl hlk (congrArg (fun z => some (Value.int (bI z))) h) (dd D_X9_areMinutes 11 rfl)
def F_X9_shines (n : Nat) (s : MS) (p1 : Int32) (p2 : Int32) (p3 : Int32) : Option (Int32 × MS) := bf (F_X9_isDay (Int32.toInt64 p1)) (bf (F_X9_areMinutes p2 p3) ((((F_X9_shinesIn n s p1 p2 p3)).bind fun r5 => some (r5, s))) ((((F_X9_refuse n s (-2 : Int32))).bind fun r3 => some (r3.1, r3.2)))) ((((F_X9_refuse n s (-2 : Int32))).bind fun r1 => some (r1.1, r1.2)))
set_option maxHeartbeats 4000000 in
set_option maxRecDepth 100000 in
theorem c_X9_shines (D : va_G) (cA : Nat → ClassId) (am : Nat → Nat) (s : MS) (n : Nat) (p1 : Int32) (p2 : Int32) (p3 : Int32) (r : (Int32 × MS)) (h : F_X9_shines n s p1 p2 p3 = some r) : RW m_X9_shines 6 0 0 D cA [.ref (am 0), .int p1, .int p2, .int p3] (mW cA am s) (exq (some (.int r.1)) (mW cA am r.2)) := by
  refine RW.ofW gy_X9_shines.2.2 (Nat.le_of_ble_eq_true rfl) ?_
  intro l p e sM m below meth c A H locs F hr hlk hnm hK hP hD hS hA hAb ls hl
  have hl : lv_has ls 4 [(0, .ref (am 0)), (1, .int p1), (2, .int p2), (3, .int p3)] := hl
  unfold F_X9_shines at h
  refine lv_iload_n F.1 F.2.1 (dd D_X9_shines 0 rfl) rfl (lv_at hl 1 rfl) ?_
  refine lv_i2l (v := (Int32.toInt64 p1)) F.1 F.2.1 (dd D_X9_shines 1 rfl) rfl ?_
  refine ro_go (st' := [.int (bI (F_X9_isDay (Int32.toInt64 p1)))]) (rS (rest := []) F (c_X9_isDay D cA (Int32.toInt64 p1) l) lk_X9_67 (Nat.le_of_ble_eq_true rfl) (preRO hK hS hAb (emP)) rfl hl rfl (Nat.le_of_ble_eq_true rfl) (dd D_X9_shines 2 rfl) ⟨Nat.le_of_ble_eq_true rfl, Nat.le_of_ble_eq_true rfl⟩) rfl ?_
  refine x_bif_eq (tgt := 26) F.1 F.2.1 (dd D_X9_shines 3 rfl) rfl h (fun c8 h => ?_) (fun c8 h => ?_)
  · refine lv_aload_n F.1 F.2.1 (dd D_X9_shines 14 rfl) rfl (lv_at hl 0 rfl) ?_
    refine lv_bipush (v := (-2 : Int32)) F.1 F.2.1 (dd D_X9_shines 15 rfl) kb_m2 ?_
    obtain ⟨r1, e2, h⟩ := Option.bind_eq_some_iff.mp h
    refine rwe_all (st' := [.int r1.1]) hD hS hA (rV (rest := []) F (c_X9_refuse D cA am s n (-2 : Int32) r1 e2 l H.size) lk_X9_79 (Nat.le_of_ble_eq_true rfl) (preRW hK hS hAb hP hD) (rcv_9 hK hP (q0 := (0)) (mp_0 cA am s)) rfl hl rfl (Nat.le_of_ble_eq_true rfl) (dd D_X9_shines 16 rfl) ⟨Nat.le_of_ble_eq_true rfl, Nat.le_of_ble_eq_true rfl⟩) rfl (fun H locs hP hD hS => ?_)
    obtain rfl := Option.some.inj h
    exact rw_i (R := rmOf 6 0 0) F hP hD hS hr hlk ⟨Nat.le_of_ble_eq_true rfl, Nat.le_of_ble_eq_true rfl⟩ ⟨rfl, rfl⟩ (dd D_X9_shines 17 rfl)
  · refine lv_iload_n F.1 F.2.1 (dd D_X9_shines 4 rfl) rfl (lv_at hl 2 rfl) ?_
    refine lv_iload_n F.1 F.2.1 (dd D_X9_shines 5 rfl) rfl (lv_at hl 3 rfl) ?_
    refine ro_go (st' := [.int (bI (F_X9_areMinutes p2 p3))]) (rS (rest := []) F (c_X9_areMinutes D cA p2 p3 l) lk_X9_267 (Nat.le_of_ble_eq_true rfl) (preRO hK hS hAb (emP)) rfl hl rfl (Nat.le_of_ble_eq_true rfl) (dd D_X9_shines 6 rfl) ⟨Nat.le_of_ble_eq_true rfl, Nat.le_of_ble_eq_true rfl⟩) rfl ?_
    refine x_bif_eq (tgt := 26) F.1 F.2.1 (dd D_X9_shines 7 rfl) rfl h (fun c7 h => ?_) (fun c7 h => ?_)
    · refine lv_aload_n F.1 F.2.1 (dd D_X9_shines 14 rfl) rfl (lv_at hl 0 rfl) ?_
      refine lv_bipush (v := (-2 : Int32)) F.1 F.2.1 (dd D_X9_shines 15 rfl) kb_m2 ?_
      obtain ⟨r3, e4, h⟩ := Option.bind_eq_some_iff.mp h
      refine rwe_all (st' := [.int r3.1]) hD hS hA (rV (rest := []) F (c_X9_refuse D cA am s n (-2 : Int32) r3 e4 l H.size) lk_X9_79 (Nat.le_of_ble_eq_true rfl) (preRW hK hS hAb hP hD) (rcv_9 hK hP (q0 := (0)) (mp_0 cA am s)) rfl hl rfl (Nat.le_of_ble_eq_true rfl) (dd D_X9_shines 16 rfl) ⟨Nat.le_of_ble_eq_true rfl, Nat.le_of_ble_eq_true rfl⟩) rfl (fun H locs hP hD hS => ?_)
      obtain rfl := Option.some.inj h
      exact rw_i (R := rmOf 6 0 0) F hP hD hS hr hlk ⟨Nat.le_of_ble_eq_true rfl, Nat.le_of_ble_eq_true rfl⟩ ⟨rfl, rfl⟩ (dd D_X9_shines 17 rfl)
    · refine lv_aload_n F.1 F.2.1 (dd D_X9_shines 8 rfl) rfl (lv_at hl 0 rfl) ?_
      refine lv_iload_n F.1 F.2.1 (dd D_X9_shines 9 rfl) rfl (lv_at hl 1 rfl) ?_
      refine lv_iload_n F.1 F.2.1 (dd D_X9_shines 10 rfl) rfl (lv_at hl 2 rfl) ?_
      refine lv_iload_n F.1 F.2.1 (dd D_X9_shines 11 rfl) rfl (lv_at hl 3 rfl) ?_
      obtain ⟨r5, e6, h⟩ := Option.bind_eq_some_iff.mp h
      refine ro_go (st' := [.int r5]) (rV (rest := []) F (c_X9_shinesIn D cA am s n p1 p2 p3 r5 e6 l) lk_X9_105 (Nat.le_of_ble_eq_true rfl) (preRO hK hS hAb hP) (rcv_9 hK hP (q0 := (0)) (mp_0 cA am s)) rfl hl rfl (Nat.le_of_ble_eq_true rfl) (dd D_X9_shines 12 rfl) ⟨Nat.le_of_ble_eq_true rfl, Nat.le_of_ble_eq_true rfl⟩) rfl ?_
      refine lv_goto (tgt := 32) F.1 F.2.1 (dd D_X9_shines 13 rfl) rfl ?_
      obtain rfl := Option.some.inj h
      exact rw_i (R := rmOf 6 0 0) F hP hD hS hr hlk ⟨Nat.le_of_ble_eq_true rfl, Nat.le_of_ble_eq_true rfl⟩ ⟨rfl, rfl⟩ (dd D_X9_shines 17 rfl)
def F_X9_lightIn (n : Nat) (s : MS) (p1 : Int32) (p2 : Int32) (p3 : Int32) : Option Int32 := (((F_X9_shinesIn n s p1 p2 p3)).bind fun r1 => (((F_X9_lit n s p1)).bind fun r3 => some (((r1 * r3) / (100 : Int32)))))
set_option maxHeartbeats 4000000 in
set_option maxRecDepth 100000 in
theorem c_X9_lightIn (D : va_G) (cA : Nat → ClassId) (am : Nat → Nat) (s : MS) (n : Nat) (p1 : Int32) (p2 : Int32) (p3 : Int32) (r : Int32) (h : F_X9_lightIn n s p1 p2 p3 = some r) : RO m_X9_lightIn 6 D cA [.ref (am 0), .int p1, .int p2, .int p3] (mW cA am s) (some (.int r)) := by
  refine RO.ofW gy_X9_lightIn.2.2 (Nat.le_of_ble_eq_true rfl) ?_
  intro l p e sM m below meth c F hr hlk hK hP hS hAb ls hl
  have hl : lv_has ls 4 [(0, .ref (am 0)), (1, .int p1), (2, .int p2), (3, .int p3)] := hl
  unfold F_X9_lightIn at h
  refine lv_aload_n F.1 F.2.1 (dd D_X9_lightIn 0 rfl) rfl (lv_at hl 0 rfl) ?_
  refine lv_iload_n F.1 F.2.1 (dd D_X9_lightIn 1 rfl) rfl (lv_at hl 1 rfl) ?_
  refine lv_iload_n F.1 F.2.1 (dd D_X9_lightIn 2 rfl) rfl (lv_at hl 2 rfl) ?_
  refine lv_iload_n F.1 F.2.1 (dd D_X9_lightIn 3 rfl) rfl (lv_at hl 3 rfl) ?_
  obtain ⟨r1, e2, h⟩ := Option.bind_eq_some_iff.mp h
  refine ro_go (st' := [.int r1]) (rV (rest := []) F (c_X9_shinesIn D cA am s n p1 p2 p3 r1 e2 l) lk_X9_105 (Nat.le_of_ble_eq_true rfl) (preRO hK hS hAb hP) (rcv_9 hK hP (q0 := (0)) (mp_0 cA am s)) rfl hl rfl (Nat.le_of_ble_eq_true rfl) (dd D_X9_lightIn 4 rfl) ⟨Nat.le_of_ble_eq_true rfl, Nat.le_of_ble_eq_true rfl⟩) rfl ?_
  refine lv_aload_n F.1 F.2.1 (dd D_X9_lightIn 5 rfl) rfl (lv_at hl 0 rfl) ?_
  refine lv_iload_n F.1 F.2.1 (dd D_X9_lightIn 6 rfl) rfl (lv_at hl 1 rfl) ?_
  obtain ⟨r3, e4, h⟩ := Option.bind_eq_some_iff.mp h
  refine ro_go (st' := [.int r3, .int r1]) (rV (rest := [.int r1]) F (c_X9_lit D cA am s n p1 r3 e4 l) lk_X9_253 (Nat.le_of_ble_eq_true rfl) (preRO hK hS hAb hP) (rcv_9 hK hP (q0 := (0)) (mp_0 cA am s)) rfl hl rfl (Nat.le_of_ble_eq_true rfl) (dd D_X9_lightIn 7 rfl) ⟨Nat.le_of_ble_eq_true rfl, Nat.le_of_ble_eq_true rfl⟩) rfl ?_
  refine lv_imul F.1 F.2.1 (dd D_X9_lightIn 8 rfl) ?_
  refine lv_bipush (v := (100 : Int32)) F.1 F.2.1 (dd D_X9_lightIn 9 rfl) kb_100 ?_
  refine lv_idiv F.1 F.2.1 (dd D_X9_lightIn 10 rfl) kd_100 ?_
  exact ro_i (R := rmOf 6 0 0) F hr hlk (congrArg (Option.map Value.int) h) (dd D_X9_lightIn 11 rfl)
def F_X9_light (n : Nat) (s : MS) (p1 : Int32) (p2 : Int32) (p3 : Int32) : Option (Int32 × MS) := bf (F_X9_isDay (Int32.toInt64 p1)) (bf (F_X9_areMinutes p2 p3) ((((F_X9_lightIn n s p1 p2 p3)).bind fun r5 => some (r5, s))) ((((F_X9_refuse n s (-2 : Int32))).bind fun r3 => some (r3.1, r3.2)))) ((((F_X9_refuse n s (-2 : Int32))).bind fun r1 => some (r1.1, r1.2)))
set_option maxHeartbeats 4000000 in
set_option maxRecDepth 100000 in
theorem c_X9_light (D : va_G) (cA : Nat → ClassId) (am : Nat → Nat) (s : MS) (n : Nat) (p1 : Int32) (p2 : Int32) (p3 : Int32) (r : (Int32 × MS)) (h : F_X9_light n s p1 p2 p3 = some r) : RW m_X9_light 7 0 0 D cA [.ref (am 0), .int p1, .int p2, .int p3] (mW cA am s) (exq (some (.int r.1)) (mW cA am r.2)) := by
  refine RW.ofW gy_X9_light.2.2 (Nat.le_of_ble_eq_true rfl) ?_
  intro l p e sM m below meth c A H locs F hr hlk hnm hK hP hD hS hA hAb ls hl
  have hl : lv_has ls 4 [(0, .ref (am 0)), (1, .int p1), (2, .int p2), (3, .int p3)] := hl
  unfold F_X9_light at h
  refine lv_iload_n F.1 F.2.1 (dd D_X9_light 0 rfl) rfl (lv_at hl 1 rfl) ?_
  refine lv_i2l (v := (Int32.toInt64 p1)) F.1 F.2.1 (dd D_X9_light 1 rfl) rfl ?_
  refine ro_go (st' := [.int (bI (F_X9_isDay (Int32.toInt64 p1)))]) (rS (rest := []) F (c_X9_isDay D cA (Int32.toInt64 p1) l) lk_X9_67 (Nat.le_of_ble_eq_true rfl) (preRO hK hS hAb (emP)) rfl hl rfl (Nat.le_of_ble_eq_true rfl) (dd D_X9_light 2 rfl) ⟨Nat.le_of_ble_eq_true rfl, Nat.le_of_ble_eq_true rfl⟩) rfl ?_
  refine x_bif_eq (tgt := 26) F.1 F.2.1 (dd D_X9_light 3 rfl) rfl h (fun c8 h => ?_) (fun c8 h => ?_)
  · refine lv_aload_n F.1 F.2.1 (dd D_X9_light 14 rfl) rfl (lv_at hl 0 rfl) ?_
    refine lv_bipush (v := (-2 : Int32)) F.1 F.2.1 (dd D_X9_light 15 rfl) kb_m2 ?_
    obtain ⟨r1, e2, h⟩ := Option.bind_eq_some_iff.mp h
    refine rwe_all (st' := [.int r1.1]) hD hS hA (rV (rest := []) F (c_X9_refuse D cA am s n (-2 : Int32) r1 e2 l H.size) lk_X9_79 (Nat.le_of_ble_eq_true rfl) (preRW hK hS hAb hP hD) (rcv_9 hK hP (q0 := (0)) (mp_0 cA am s)) rfl hl rfl (Nat.le_of_ble_eq_true rfl) (dd D_X9_light 16 rfl) ⟨Nat.le_of_ble_eq_true rfl, Nat.le_of_ble_eq_true rfl⟩) rfl (fun H locs hP hD hS => ?_)
    obtain rfl := Option.some.inj h
    exact rw_i (R := rmOf 7 0 0) F hP hD hS hr hlk ⟨Nat.le_of_ble_eq_true rfl, Nat.le_of_ble_eq_true rfl⟩ ⟨rfl, rfl⟩ (dd D_X9_light 17 rfl)
  · refine lv_iload_n F.1 F.2.1 (dd D_X9_light 4 rfl) rfl (lv_at hl 2 rfl) ?_
    refine lv_iload_n F.1 F.2.1 (dd D_X9_light 5 rfl) rfl (lv_at hl 3 rfl) ?_
    refine ro_go (st' := [.int (bI (F_X9_areMinutes p2 p3))]) (rS (rest := []) F (c_X9_areMinutes D cA p2 p3 l) lk_X9_267 (Nat.le_of_ble_eq_true rfl) (preRO hK hS hAb (emP)) rfl hl rfl (Nat.le_of_ble_eq_true rfl) (dd D_X9_light 6 rfl) ⟨Nat.le_of_ble_eq_true rfl, Nat.le_of_ble_eq_true rfl⟩) rfl ?_
    refine x_bif_eq (tgt := 26) F.1 F.2.1 (dd D_X9_light 7 rfl) rfl h (fun c7 h => ?_) (fun c7 h => ?_)
    · refine lv_aload_n F.1 F.2.1 (dd D_X9_light 14 rfl) rfl (lv_at hl 0 rfl) ?_
      refine lv_bipush (v := (-2 : Int32)) F.1 F.2.1 (dd D_X9_light 15 rfl) kb_m2 ?_
      obtain ⟨r3, e4, h⟩ := Option.bind_eq_some_iff.mp h
      refine rwe_all (st' := [.int r3.1]) hD hS hA (rV (rest := []) F (c_X9_refuse D cA am s n (-2 : Int32) r3 e4 l H.size) lk_X9_79 (Nat.le_of_ble_eq_true rfl) (preRW hK hS hAb hP hD) (rcv_9 hK hP (q0 := (0)) (mp_0 cA am s)) rfl hl rfl (Nat.le_of_ble_eq_true rfl) (dd D_X9_light 16 rfl) ⟨Nat.le_of_ble_eq_true rfl, Nat.le_of_ble_eq_true rfl⟩) rfl (fun H locs hP hD hS => ?_)
      obtain rfl := Option.some.inj h
      exact rw_i (R := rmOf 7 0 0) F hP hD hS hr hlk ⟨Nat.le_of_ble_eq_true rfl, Nat.le_of_ble_eq_true rfl⟩ ⟨rfl, rfl⟩ (dd D_X9_light 17 rfl)
    · refine lv_aload_n F.1 F.2.1 (dd D_X9_light 8 rfl) rfl (lv_at hl 0 rfl) ?_
      refine lv_iload_n F.1 F.2.1 (dd D_X9_light 9 rfl) rfl (lv_at hl 1 rfl) ?_
      refine lv_iload_n F.1 F.2.1 (dd D_X9_light 10 rfl) rfl (lv_at hl 2 rfl) ?_
      refine lv_iload_n F.1 F.2.1 (dd D_X9_light 11 rfl) rfl (lv_at hl 3 rfl) ?_
      obtain ⟨r5, e6, h⟩ := Option.bind_eq_some_iff.mp h
      refine ro_go (st' := [.int r5]) (rV (rest := []) F (c_X9_lightIn D cA am s n p1 p2 p3 r5 e6 l) lk_X9_270 (Nat.le_of_ble_eq_true rfl) (preRO hK hS hAb hP) (rcv_9 hK hP (q0 := (0)) (mp_0 cA am s)) rfl hl rfl (Nat.le_of_ble_eq_true rfl) (dd D_X9_light 12 rfl) ⟨Nat.le_of_ble_eq_true rfl, Nat.le_of_ble_eq_true rfl⟩) rfl ?_
      refine lv_goto (tgt := 32) F.1 F.2.1 (dd D_X9_light 13 rfl) rfl ?_
      obtain rfl := Option.some.inj h
      exact rw_i (R := rmOf 7 0 0) F hP hD hS hr hlk ⟨Nat.le_of_ble_eq_true rfl, Nat.le_of_ble_eq_true rfl⟩ ⟨rfl, rfl⟩ (dd D_X9_light 17 rfl)
def F_X9_grows (n : Nat) (s : MS) (p1 : Int32) : Option (Int32 × MS) := bf (F_X9_isDay (Int32.toInt64 p1)) ((((F_X9_age n s p1)).bind fun r3 => (if (1476 : Int32) < r3 then some ((0 : Int32), s) else some ((1 : Int32), s)))) ((((F_X9_refuse n s (-2 : Int32))).bind fun r1 => some (r1.1, r1.2)))
set_option maxHeartbeats 4000000 in
set_option maxRecDepth 100000 in
theorem c_X9_grows (D : va_G) (cA : Nat → ClassId) (am : Nat → Nat) (s : MS) (n : Nat) (p1 : Int32) (r : (Int32 × MS)) (h : F_X9_grows n s p1 = some r) : RW m_X9_grows 2 0 0 D cA [.ref (am 0), .int p1] (mW cA am s) (exq (some (.int r.1)) (mW cA am r.2)) := by
  refine RW.ofW gy_X9_grows.2.2 (Nat.le_of_ble_eq_true rfl) ?_
  intro l p e sM m below meth c A H locs F hr hlk hnm hK hP hD hS hA hAb ls hl
  have hl : lv_has ls 2 [(0, .ref (am 0)), (1, .int p1)] := hl
  unfold F_X9_grows at h
  refine lv_iload_n F.1 F.2.1 (dd D_X9_grows 0 rfl) rfl (lv_at hl 1 rfl) ?_
  refine lv_i2l (v := (Int32.toInt64 p1)) F.1 F.2.1 (dd D_X9_grows 1 rfl) rfl ?_
  refine ro_go (st' := [.int (bI (F_X9_isDay (Int32.toInt64 p1)))]) (rS (rest := []) F (c_X9_isDay D cA (Int32.toInt64 p1) l) lk_X9_67 (Nat.le_of_ble_eq_true rfl) (preRO hK hS hAb (emP)) rfl hl rfl (Nat.le_of_ble_eq_true rfl) (dd D_X9_grows 2 rfl) ⟨Nat.le_of_ble_eq_true rfl, Nat.le_of_ble_eq_true rfl⟩) rfl ?_
  refine x_bif_eq (tgt := 27) F.1 F.2.1 (dd D_X9_grows 3 rfl) rfl h (fun c6 h => ?_) (fun c6 h => ?_)
  · refine lv_aload_n F.1 F.2.1 (dd D_X9_grows 13 rfl) rfl (lv_at hl 0 rfl) ?_
    refine lv_bipush (v := (-2 : Int32)) F.1 F.2.1 (dd D_X9_grows 14 rfl) kb_m2 ?_
    obtain ⟨r1, e2, h⟩ := Option.bind_eq_some_iff.mp h
    refine rwe_all (st' := [.int r1.1]) hD hS hA (rV (rest := []) F (c_X9_refuse D cA am s n (-2 : Int32) r1 e2 l H.size) lk_X9_79 (Nat.le_of_ble_eq_true rfl) (preRW hK hS hAb hP hD) (rcv_9 hK hP (q0 := (0)) (mp_0 cA am s)) rfl hl rfl (Nat.le_of_ble_eq_true rfl) (dd D_X9_grows 15 rfl) ⟨Nat.le_of_ble_eq_true rfl, Nat.le_of_ble_eq_true rfl⟩) rfl (fun H locs hP hD hS => ?_)
    obtain rfl := Option.some.inj h
    exact rw_i (R := rmOf 2 0 0) F hP hD hS hr hlk ⟨Nat.le_of_ble_eq_true rfl, Nat.le_of_ble_eq_true rfl⟩ ⟨rfl, rfl⟩ (dd D_X9_grows 16 rfl)
  · refine lv_aload_n F.1 F.2.1 (dd D_X9_grows 4 rfl) rfl (lv_at hl 0 rfl) ?_
    refine lv_iload_n F.1 F.2.1 (dd D_X9_grows 5 rfl) rfl (lv_at hl 1 rfl) ?_
    obtain ⟨r3, e4, h⟩ := Option.bind_eq_some_iff.mp h
    refine ro_go (st' := [.int r3]) (rV (rest := []) F (c_X9_age D cA am s n p1 r3 e4 l) lk_X9_96 (Nat.le_of_ble_eq_true rfl) (preRO hK hS hAb hP) (rcv_9 hK hP (q0 := (0)) (mp_0 cA am s)) rfl hl rfl (Nat.le_of_ble_eq_true rfl) (dd D_X9_grows 6 rfl) ⟨Nat.le_of_ble_eq_true rfl, Nat.le_of_ble_eq_true rfl⟩) rfl ?_
    refine lv_sipush (v := (1476 : Int32)) F.1 F.2.1 (dd D_X9_grows 7 rfl) ks_1476 ?_
    refine x_icmp_gt (tgt := 23) F.1 F.2.1 (dd D_X9_grows 8 rfl) rfl h (fun c5 h => ?_) (fun c5 h => ?_)
    · refine lv_iconst (v := (0 : Int32)) F.1 F.2.1 (dd D_X9_grows 11 rfl) ki_0 ?_
      refine lv_goto (tgt := 33) F.1 F.2.1 (dd D_X9_grows 12 rfl) rfl ?_
      obtain rfl := Option.some.inj h
      exact rw_i (R := rmOf 2 0 0) F hP hD hS hr hlk ⟨Nat.le_of_ble_eq_true rfl, Nat.le_of_ble_eq_true rfl⟩ ⟨rfl, rfl⟩ (dd D_X9_grows 16 rfl)
    · refine lv_iconst (v := (1 : Int32)) F.1 F.2.1 (dd D_X9_grows 9 rfl) ki_1 ?_
      refine lv_goto (tgt := 33) F.1 F.2.1 (dd D_X9_grows 10 rfl) rfl ?_
      obtain rfl := Option.some.inj h
      exact rw_i (R := rmOf 2 0 0) F hP hD hS hr hlk ⟨Nat.le_of_ble_eq_true rfl, Nat.le_of_ble_eq_true rfl⟩ ⟨rfl, rfl⟩ (dd D_X9_grows 16 rfl)
def F_X9_lights_L42 (n : Nat) (u0 : MS) (v1 : Int32) (v2 : Int32) (v3 : Int32) (v4 : Int32) : Nat → Int32 → Int32 → Option (Int32 × MS)
  | 0, _, _ => none
  | kf + 1, w5, w6 => (if (F_X9_lastOf v1 v2) < w6 then some (w5, u0) else (((F_X9_lightIn n u0 w6 v3 v4)).bind fun r6 => F_X9_lights_L42 n u0 v1 v2 v3 v4 kf (w5 + r6) (w6 + (1 : Int32))))
def F_X9_lights (n : Nat) (s : MS) (p1 : Int32) (p2 : Int32) (p3 : Int32) (p4 : Int32) : Option (Int32 × MS) := bf (F_X9_isDay (Int32.toInt64 p1)) (bf (F_X9_in (Int32.toInt64 p2) (1 : Int64) (40 : Int64)) (bf (F_X9_areMinutes p3 p4) (F_X9_lights_L42 n s p1 p2 p3 p4 n (0 : Int32) p1) ((((F_X9_refuse n s (-2 : Int32))).bind fun r12 => some (r12.1, r12.2)))) ((((F_X9_refuse n s (-2 : Int32))).bind fun r3 => some (r3.1, r3.2)))) ((((F_X9_refuse n s (-2 : Int32))).bind fun r1 => some (r1.1, r1.2)))
set_option maxHeartbeats 4000000 in
set_option maxRecDepth 100000 in
theorem c_X9_lights (D : va_G) (cA : Nat → ClassId) (am : Nat → Nat) (s : MS) (n : Nat) (p1 : Int32) (p2 : Int32) (p3 : Int32) (p4 : Int32) (r : (Int32 × MS)) (h : F_X9_lights n s p1 p2 p3 p4 = some r) : RW m_X9_lights 7 0 0 D cA [.ref (am 0), .int p1, .int p2, .int p3, .int p4] (mW cA am s) (exq (some (.int r.1)) (mW cA am r.2)) := by
  refine RW.ofW gy_X9_lights.2.2 (Nat.le_of_ble_eq_true rfl) ?_
  intro l p e sM m below meth c A H locs F hr hlk hnm hK hP hD hS hA hAb ls hl
  have hl : lv_has ls 7 [(0, .ref (am 0)), (1, .int p1), (2, .int p2), (3, .int p3), (4, .int p4)] := hl
  unfold F_X9_lights at h
  refine lv_iload_n F.1 F.2.1 (dd D_X9_lights 0 rfl) rfl (lv_at hl 1 rfl) ?_
  refine lv_i2l (v := (Int32.toInt64 p1)) F.1 F.2.1 (dd D_X9_lights 1 rfl) rfl ?_
  refine ro_go (st' := [.int (bI (F_X9_isDay (Int32.toInt64 p1)))]) (rS (rest := []) F (c_X9_isDay D cA (Int32.toInt64 p1) l) lk_X9_67 (Nat.le_of_ble_eq_true rfl) (preRO hK hS hAb (emP)) rfl hl rfl (Nat.le_of_ble_eq_true rfl) (dd D_X9_lights 2 rfl) ⟨Nat.le_of_ble_eq_true rfl, Nat.le_of_ble_eq_true rfl⟩) rfl ?_
  refine x_bif_eq (tgt := 29) F.1 F.2.1 (dd D_X9_lights 3 rfl) rfl h (fun c16 h => ?_) (fun c16 h => ?_)
  · refine lv_aload_n F.1 F.2.1 (dd D_X9_lights 14 rfl) rfl (lv_at hl 0 rfl) ?_
    refine lv_bipush (v := (-2 : Int32)) F.1 F.2.1 (dd D_X9_lights 15 rfl) kb_m2 ?_
    obtain ⟨r1, e2, h⟩ := Option.bind_eq_some_iff.mp h
    refine rwe_all (st' := [.int r1.1]) hD hS hA (rV (rest := []) F (c_X9_refuse D cA am s n (-2 : Int32) r1 e2 l H.size) lk_X9_79 (Nat.le_of_ble_eq_true rfl) (preRW hK hS hAb hP hD) (rcv_9 hK hP (q0 := (0)) (mp_0 cA am s)) rfl hl rfl (Nat.le_of_ble_eq_true rfl) (dd D_X9_lights 16 rfl) ⟨Nat.le_of_ble_eq_true rfl, Nat.le_of_ble_eq_true rfl⟩) rfl (fun H locs hP hD hS => ?_)
    obtain rfl := Option.some.inj h
    exact rw_i (R := rmOf 7 0 0) F hP hD hS hr hlk ⟨Nat.le_of_ble_eq_true rfl, Nat.le_of_ble_eq_true rfl⟩ ⟨rfl, rfl⟩ (dd D_X9_lights 17 rfl)
  · refine lv_iload_n F.1 F.2.1 (dd D_X9_lights 4 rfl) rfl (lv_at hl 2 rfl) ?_
    refine lv_i2l (v := (Int32.toInt64 p2)) F.1 F.2.1 (dd D_X9_lights 5 rfl) rfl ?_
    refine lv_lconst (v := (1 : Int64)) F.1 F.2.1 (dd D_X9_lights 6 rfl) kl_1 ?_
    refine lv_ldc2 (own := RX9) (v := (40 : Int64)) F.1 F.2.1 F.2.2.2.1 (F.2.2.2.2 _ (kL_X9_77)) (dd D_X9_lights 7 rfl) ?_
    refine ro_go (st' := [.int (bI (F_X9_in (Int32.toInt64 p2) (1 : Int64) (40 : Int64)))]) (rS (rest := []) F (c_X9_in D cA (Int32.toInt64 p2) (1 : Int64) (40 : Int64) l) lk_X9_63 (Nat.le_of_ble_eq_true rfl) (preRO hK hS hAb (emP)) rfl hl rfl (Nat.le_of_ble_eq_true rfl) (dd D_X9_lights 8 rfl) ⟨Nat.le_of_ble_eq_true rfl, Nat.le_of_ble_eq_true rfl⟩) rfl ?_
    refine x_bif_eq (tgt := 29) F.1 F.2.1 (dd D_X9_lights 9 rfl) rfl h (fun c15 h => ?_) (fun c15 h => ?_)
    · refine lv_aload_n F.1 F.2.1 (dd D_X9_lights 14 rfl) rfl (lv_at hl 0 rfl) ?_
      refine lv_bipush (v := (-2 : Int32)) F.1 F.2.1 (dd D_X9_lights 15 rfl) kb_m2 ?_
      obtain ⟨r3, e4, h⟩ := Option.bind_eq_some_iff.mp h
      refine rwe_all (st' := [.int r3.1]) hD hS hA (rV (rest := []) F (c_X9_refuse D cA am s n (-2 : Int32) r3 e4 l H.size) lk_X9_79 (Nat.le_of_ble_eq_true rfl) (preRW hK hS hAb hP hD) (rcv_9 hK hP (q0 := (0)) (mp_0 cA am s)) rfl hl rfl (Nat.le_of_ble_eq_true rfl) (dd D_X9_lights 16 rfl) ⟨Nat.le_of_ble_eq_true rfl, Nat.le_of_ble_eq_true rfl⟩) rfl (fun H locs hP hD hS => ?_)
      obtain rfl := Option.some.inj h
      exact rw_i (R := rmOf 7 0 0) F hP hD hS hr hlk ⟨Nat.le_of_ble_eq_true rfl, Nat.le_of_ble_eq_true rfl⟩ ⟨rfl, rfl⟩ (dd D_X9_lights 17 rfl)
    · refine lv_iload_n F.1 F.2.1 (dd D_X9_lights 10 rfl) rfl (lv_at hl 3 rfl) ?_
      refine lv_iload F.1 F.2.1 (dd D_X9_lights 11 rfl) (lv_at hl 4 rfl) ?_
      refine ro_go (st' := [.int (bI (F_X9_areMinutes p3 p4))]) (rS (rest := []) F (c_X9_areMinutes D cA p3 p4 l) lk_X9_267 (Nat.le_of_ble_eq_true rfl) (preRO hK hS hAb (emP)) rfl hl rfl (Nat.le_of_ble_eq_true rfl) (dd D_X9_lights 12 rfl) ⟨Nat.le_of_ble_eq_true rfl, Nat.le_of_ble_eq_true rfl⟩) rfl ?_
      refine x_bif_ne (tgt := 36) F.1 F.2.1 (dd D_X9_lights 13 rfl) rfl h (fun c14 h => ?_) (fun c14 h => ?_)
      · refine lv_iconst (v := (0 : Int32)) F.1 F.2.1 (dd D_X9_lights 18 rfl) ki_0 ?_
        refine lv_istore (lv' := [(5, .int (0 : Int32)), (0, .ref (am 0)), (1, .int p1), (2, .int p2), (3, .int p3), (4, .int p4)]) F.1 F.2.1 (dd D_X9_lights 19 rfl) hl (Nat.le_of_ble_eq_true rfl) rfl (fun ls hl => ?_)
        refine lv_iload_n F.1 F.2.1 (dd D_X9_lights 20 rfl) rfl (lv_at hl 2 rfl) ?_
        refine lv_istore (lv' := [(6, .int p1), (5, .int (0 : Int32)), (0, .ref (am 0)), (1, .int p1), (2, .int p2), (3, .int p3), (4, .int p4)]) F.1 F.2.1 (dd D_X9_lights 21 rfl) hl (Nat.le_of_ble_eq_true rfl) rfl (fun ls hl => ?_)
        have L8 : ∀ (kf : Nat) (w5_L8 : Int32) (w6_L8 : Int32) (H : Heap) (locs : List Loc) (ls : Array Slot), va_P D vwCl (mW cA am s) H → va_D A (mW cA am s) → va_S A sM.heap H locs → lv_has ls 7 [(0, .ref (am 0)), (1, .int p1), (2, .int p2), (3, .int p3), (4, .int p4), (5, .int w5_L8), (6, .int w6_L8)] → F_X9_lights_L42 n s p1 p2 p3 p4 kf w5_L8 w6_L8 = some r → Wrw 7 0 0 D A (exq (some (.int r.1)) (mW cA am r.2)) p l e sM m ([.ref (am 0), .int p1, .int p2, .int p3, .int p4] : List Value).toArray below meth c H locs 0 0 42 ls [] := by
          intro kf
          induction kf with
          | zero =>
            intro w5_L8 w6_L8 H locs ls hP hD hS hl h
            cases (show none = some r from h)
          | succ k_L8 ih_L8 =>
            intro w5_L8 w6_L8 H locs ls hP hD hS hl h
            unfold F_X9_lights_L42 at h
            refine lv_iload F.1 F.2.1 (dd D_X9_lights 22 rfl) (lv_at hl 6 rfl) ?_
            refine lv_iload_n F.1 F.2.1 (dd D_X9_lights 23 rfl) rfl (lv_at hl 1 rfl) ?_
            refine lv_iload_n F.1 F.2.1 (dd D_X9_lights 24 rfl) rfl (lv_at hl 2 rfl) ?_
            refine ro_go (st' := [.int (F_X9_lastOf p1 p2), .int w6_L8]) (rS (rest := [.int w6_L8]) F (c_X9_lastOf D cA p1 p2 l) lk_X9_273 (Nat.le_of_ble_eq_true rfl) (preRO hK hS hAb (emP)) rfl hl rfl (Nat.le_of_ble_eq_true rfl) (dd D_X9_lights 25 rfl) ⟨Nat.le_of_ble_eq_true rfl, Nat.le_of_ble_eq_true rfl⟩) rfl ?_
            refine x_icmp_gt (tgt := 72) F.1 F.2.1 (dd D_X9_lights 26 rfl) rfl h (fun c9 h => ?_) (fun c9 h => ?_)
            · refine lv_iload F.1 F.2.1 (dd D_X9_lights 37 rfl) (lv_at hl 5 rfl) ?_
              obtain rfl := Option.some.inj h
              exact rw_i (R := rmOf 7 0 0) F hP hD hS hr hlk ⟨Nat.le_of_ble_eq_true rfl, Nat.le_of_ble_eq_true rfl⟩ ⟨rfl, rfl⟩ (dd D_X9_lights 38 rfl)
            · refine lv_iload F.1 F.2.1 (dd D_X9_lights 27 rfl) (lv_at hl 5 rfl) ?_
              refine lv_aload_n F.1 F.2.1 (dd D_X9_lights 28 rfl) rfl (lv_at hl 0 rfl) ?_
              refine lv_iload F.1 F.2.1 (dd D_X9_lights 29 rfl) (lv_at hl 6 rfl) ?_
              refine lv_iload_n F.1 F.2.1 (dd D_X9_lights 30 rfl) rfl (lv_at hl 3 rfl) ?_
              refine lv_iload F.1 F.2.1 (dd D_X9_lights 31 rfl) (lv_at hl 4 rfl) ?_
              obtain ⟨r10, e11, h⟩ := Option.bind_eq_some_iff.mp h
              refine ro_go (st' := [.int r10, .int w5_L8]) (rV (rest := [.int w5_L8]) F (c_X9_lightIn D cA am s n w6_L8 p3 p4 r10 e11 l) lk_X9_270 (Nat.le_of_ble_eq_true rfl) (preRO hK hS hAb hP) (rcv_9 hK hP (q0 := (0)) (mp_0 cA am s)) rfl hl rfl (Nat.le_of_ble_eq_true rfl) (dd D_X9_lights 32 rfl) ⟨Nat.le_of_ble_eq_true rfl, Nat.le_of_ble_eq_true rfl⟩) rfl ?_
              refine lv_iadd F.1 F.2.1 (dd D_X9_lights 33 rfl) ?_
              refine lv_istore (lv' := [(5, .int (w5_L8 + r10)), (0, .ref (am 0)), (1, .int p1), (2, .int p2), (3, .int p3), (4, .int p4), (6, .int w6_L8)]) F.1 F.2.1 (dd D_X9_lights 34 rfl) hl (Nat.le_of_ble_eq_true rfl) rfl (fun ls hl => ?_)
              refine lv_iinc (v := (w6_L8 + (1 : Int32))) (lv' := [(6, .int (w6_L8 + (1 : Int32))), (5, .int (w5_L8 + r10)), (0, .ref (am 0)), (1, .int p1), (2, .int p2), (3, .int p3), (4, .int p4)]) F.1 F.2.1 (dd D_X9_lights 35 rfl) hl (k := 6) rfl (congrArg (fun z => w6_L8 + z) ki_1) (Nat.le_of_ble_eq_true rfl) rfl (fun ls hl => ?_)
              refine lv_goto (tgt := 42) F.1 F.2.1 (dd D_X9_lights 36 rfl) rfl ?_
              exact ih_L8 (w5_L8 + r10) (w6_L8 + (1 : Int32)) _ _ ls hP hD hS (lv_sub hl [2, 3, 4, 5, 6, 1, 0] rfl) h
        exact L8 n (0 : Int32) p1 _ _ ls hP hD hS (lv_sub hl [2, 3, 4, 5, 6, 1, 0] rfl) h
      · refine lv_aload_n F.1 F.2.1 (dd D_X9_lights 14 rfl) rfl (lv_at hl 0 rfl) ?_
        refine lv_bipush (v := (-2 : Int32)) F.1 F.2.1 (dd D_X9_lights 15 rfl) kb_m2 ?_
        obtain ⟨r12, e13, h⟩ := Option.bind_eq_some_iff.mp h
        refine rwe_all (st' := [.int r12.1]) hD hS hA (rV (rest := []) F (c_X9_refuse D cA am s n (-2 : Int32) r12 e13 l H.size) lk_X9_79 (Nat.le_of_ble_eq_true rfl) (preRW hK hS hAb hP hD) (rcv_9 hK hP (q0 := (0)) (mp_0 cA am s)) rfl hl rfl (Nat.le_of_ble_eq_true rfl) (dd D_X9_lights 16 rfl) ⟨Nat.le_of_ble_eq_true rfl, Nat.le_of_ble_eq_true rfl⟩) rfl (fun H locs hP hD hS => ?_)
        obtain rfl := Option.some.inj h
        exact rw_i (R := rmOf 7 0 0) F hP hD hS hr hlk ⟨Nat.le_of_ble_eq_true rfl, Nat.le_of_ble_eq_true rfl⟩ ⟨rfl, rfl⟩ (dd D_X9_lights 17 rfl)
def F_X9_soonest_L29 (n : Nat) (u0 : MS) (v1 : Int32) (v2 : Int32) : Nat → Int32 → Int32 → Int32 → Option (Int32 × MS)
  | 0, _, _, _ => none
  | kf + 1, w3, w4, w5 => (if (F_X9_lastOf v1 v2) < w5 then some (w3, u0) else (((F_X9_over n u0 w5)).bind fun r4 => (if w4 ≤ r4 then (if w4 ≤ r4 then F_X9_soonest_L29 n u0 v1 v2 kf w3 w4 (w5 + (1 : Int32)) else F_X9_soonest_L29 n u0 v1 v2 kf w3 r4 (w5 + (1 : Int32))) else (if w4 ≤ r4 then F_X9_soonest_L29 n u0 v1 v2 kf w5 w4 (w5 + (1 : Int32)) else F_X9_soonest_L29 n u0 v1 v2 kf w5 r4 (w5 + (1 : Int32))))))
def F_X9_soonest (n : Nat) (s : MS) (p1 : Int32) (p2 : Int32) : Option (Int32 × MS) := bf (F_X9_areDays p1 p2) ((((F_X9_over n s p1)).bind fun r1 => F_X9_soonest_L29 n s p1 p2 n p1 r1 (p1 + (1 : Int32)))) ((((F_X9_refuse n s (-2 : Int32))).bind fun r16 => some (r16.1, r16.2)))
set_option maxHeartbeats 4000000 in
set_option maxRecDepth 100000 in
theorem c_X9_soonest (D : va_G) (cA : Nat → ClassId) (am : Nat → Nat) (s : MS) (n : Nat) (p1 : Int32) (p2 : Int32) (r : (Int32 × MS)) (h : F_X9_soonest n s p1 p2 = some r) : RW m_X9_soonest 4 0 0 D cA [.ref (am 0), .int p1, .int p2] (mW cA am s) (exq (some (.int r.1)) (mW cA am r.2)) := by
  refine RW.ofW gy_X9_soonest.2.2 (Nat.le_of_ble_eq_true rfl) ?_
  intro l p e sM m below meth c A H locs F hr hlk hnm hK hP hD hS hA hAb ls hl
  have hl : lv_has ls 7 [(0, .ref (am 0)), (1, .int p1), (2, .int p2)] := hl
  unfold F_X9_soonest at h
  refine lv_iload_n F.1 F.2.1 (dd D_X9_soonest 0 rfl) rfl (lv_at hl 1 rfl) ?_
  refine lv_iload_n F.1 F.2.1 (dd D_X9_soonest 1 rfl) rfl (lv_at hl 2 rfl) ?_
  refine ro_go (st' := [.int (bI (F_X9_areDays p1 p2))]) (rS (rest := []) F (c_X9_areDays D cA p1 p2 l) lk_X9_276 (Nat.le_of_ble_eq_true rfl) (preRO hK hS hAb (emP)) rfl hl rfl (Nat.le_of_ble_eq_true rfl) (dd D_X9_soonest 2 rfl) ⟨Nat.le_of_ble_eq_true rfl, Nat.le_of_ble_eq_true rfl⟩) rfl ?_
  refine x_bif_ne (tgt := 15) F.1 F.2.1 (dd D_X9_soonest 3 rfl) rfl h (fun c18 h => ?_) (fun c18 h => ?_)
  · refine lv_iload_n F.1 F.2.1 (dd D_X9_soonest 8 rfl) rfl (lv_at hl 1 rfl) ?_
    refine lv_istore_n (lv' := [(3, .int p1), (0, .ref (am 0)), (1, .int p1), (2, .int p2)]) F.1 F.2.1 (dd D_X9_soonest 9 rfl) rfl hl (Nat.le_of_ble_eq_true rfl) rfl (fun ls hl => ?_)
    refine lv_aload_n F.1 F.2.1 (dd D_X9_soonest 10 rfl) rfl (lv_at hl 1 rfl) ?_
    refine lv_iload_n F.1 F.2.1 (dd D_X9_soonest 11 rfl) rfl (lv_at hl 2 rfl) ?_
    obtain ⟨r1, e2, h⟩ := Option.bind_eq_some_iff.mp h
    refine ro_go (st' := [.int r1]) (rV (rest := []) F (c_X9_over D cA am s n p1 r1 e2 l) lk_X9_245 (Nat.le_of_ble_eq_true rfl) (preRO hK hS hAb hP) (rcv_9 hK hP (q0 := (0)) (mp_0 cA am s)) rfl hl rfl (Nat.le_of_ble_eq_true rfl) (dd D_X9_soonest 12 rfl) ⟨Nat.le_of_ble_eq_true rfl, Nat.le_of_ble_eq_true rfl⟩) rfl ?_
    refine lv_istore (lv' := [(4, .int r1), (3, .int p1), (0, .ref (am 0)), (1, .int p1), (2, .int p2)]) F.1 F.2.1 (dd D_X9_soonest 13 rfl) hl (Nat.le_of_ble_eq_true rfl) rfl (fun ls hl => ?_)
    refine lv_iload_n F.1 F.2.1 (dd D_X9_soonest 14 rfl) rfl (lv_at hl 3 rfl) ?_
    refine lv_iconst (v := (1 : Int32)) F.1 F.2.1 (dd D_X9_soonest 15 rfl) ki_1 ?_
    refine lv_iadd F.1 F.2.1 (dd D_X9_soonest 16 rfl) ?_
    refine lv_istore (lv' := [(5, .int (p1 + (1 : Int32))), (4, .int r1), (3, .int p1), (0, .ref (am 0)), (1, .int p1), (2, .int p2)]) F.1 F.2.1 (dd D_X9_soonest 17 rfl) hl (Nat.le_of_ble_eq_true rfl) rfl (fun ls hl => ?_)
    have L9 : ∀ (kf : Nat) (w3_L9 : Int32) (w4_L9 : Int32) (w5_L9 : Int32) (H : Heap) (locs : List Loc) (ls : Array Slot), va_P D vwCl (mW cA am s) H → va_D A (mW cA am s) → va_S A sM.heap H locs → lv_has ls 7 [(0, .ref (am 0)), (1, .int p1), (2, .int p2), (3, .int w3_L9), (4, .int w4_L9), (5, .int w5_L9)] → F_X9_soonest_L29 n s p1 p2 kf w3_L9 w4_L9 w5_L9 = some r → Wrw 4 0 0 D A (exq (some (.int r.1)) (mW cA am r.2)) p l e sM m ([.ref (am 0), .int p1, .int p2] : List Value).toArray below meth c H locs 0 0 29 ls [] := by
      intro kf
      induction kf with
      | zero =>
        intro w3_L9 w4_L9 w5_L9 H locs ls hP hD hS hl h
        cases (show none = some r from h)
      | succ k_L9 ih_L9 =>
        intro w3_L9 w4_L9 w5_L9 H locs ls hP hD hS hl h
        unfold F_X9_soonest_L29 at h
        refine lv_iload F.1 F.2.1 (dd D_X9_soonest 18 rfl) (lv_at hl 5 rfl) ?_
        refine lv_iload_n F.1 F.2.1 (dd D_X9_soonest 19 rfl) rfl (lv_at hl 1 rfl) ?_
        refine lv_iload_n F.1 F.2.1 (dd D_X9_soonest 20 rfl) rfl (lv_at hl 2 rfl) ?_
        refine ro_go (st' := [.int (F_X9_lastOf p1 p2), .int w5_L9]) (rS (rest := [.int w5_L9]) F (c_X9_lastOf D cA p1 p2 l) lk_X9_273 (Nat.le_of_ble_eq_true rfl) (preRO hK hS hAb (emP)) rfl hl rfl (Nat.le_of_ble_eq_true rfl) (dd D_X9_soonest 21 rfl) ⟨Nat.le_of_ble_eq_true rfl, Nat.le_of_ble_eq_true rfl⟩) rfl ?_
        refine x_icmp_gt (tgt := 83) F.1 F.2.1 (dd D_X9_soonest 22 rfl) rfl h (fun c10 h => ?_) (fun c10 h => ?_)
        · refine lv_iload_n F.1 F.2.1 (dd D_X9_soonest 43 rfl) rfl (lv_at hl 3 rfl) ?_
          obtain rfl := Option.some.inj h
          exact rw_i (R := rmOf 4 0 0) F hP hD hS hr hlk ⟨Nat.le_of_ble_eq_true rfl, Nat.le_of_ble_eq_true rfl⟩ ⟨rfl, rfl⟩ (dd D_X9_soonest 44 rfl)
        · refine lv_aload_n F.1 F.2.1 (dd D_X9_soonest 23 rfl) rfl (lv_at hl 0 rfl) ?_
          refine lv_iload F.1 F.2.1 (dd D_X9_soonest 24 rfl) (lv_at hl 5 rfl) ?_
          obtain ⟨r11, e12, h⟩ := Option.bind_eq_some_iff.mp h
          refine ro_go (st' := [.int r11]) (rV (rest := []) F (c_X9_over D cA am s n w5_L9 r11 e12 l) lk_X9_245 (Nat.le_of_ble_eq_true rfl) (preRO hK hS hAb hP) (rcv_9 hK hP (q0 := (0)) (mp_0 cA am s)) rfl hl rfl (Nat.le_of_ble_eq_true rfl) (dd D_X9_soonest 25 rfl) ⟨Nat.le_of_ble_eq_true rfl, Nat.le_of_ble_eq_true rfl⟩) rfl ?_
          refine lv_istore (lv' := [(6, .int r11), (0, .ref (am 0)), (1, .int p1), (2, .int p2), (3, .int w3_L9), (4, .int w4_L9), (5, .int w5_L9)]) F.1 F.2.1 (dd D_X9_soonest 26 rfl) hl (Nat.le_of_ble_eq_true rfl) rfl (fun ls hl => ?_)
          refine lv_iload F.1 F.2.1 (dd D_X9_soonest 27 rfl) (lv_at hl 0 rfl) ?_
          refine lv_iload F.1 F.2.1 (dd D_X9_soonest 28 rfl) (lv_at hl 5 rfl) ?_
          refine x_icmp_ge (tgt := 59) F.1 F.2.1 (dd D_X9_soonest 29 rfl) rfl h (fun c13 h => ?_) (fun c13 h => ?_)
          · refine lv_iload_n F.1 F.2.1 (dd D_X9_soonest 32 rfl) rfl (lv_at hl 4 rfl) ?_
            refine lv_istore_n (lv' := [(3, .int w3_L9), (6, .int r11), (0, .ref (am 0)), (1, .int p1), (2, .int p2), (4, .int w4_L9), (5, .int w5_L9)]) F.1 F.2.1 (dd D_X9_soonest 33 rfl) rfl hl (Nat.le_of_ble_eq_true rfl) rfl (fun ls hl => ?_)
            refine lv_iload F.1 F.2.1 (dd D_X9_soonest 34 rfl) (lv_at hl 1 rfl) ?_
            refine lv_iload F.1 F.2.1 (dd D_X9_soonest 35 rfl) (lv_at hl 5 rfl) ?_
            refine x_icmp_ge (tgt := 73) F.1 F.2.1 (dd D_X9_soonest 36 rfl) rfl h (fun c14 h => ?_) (fun c14 h => ?_)
            · refine lv_iload F.1 F.2.1 (dd D_X9_soonest 39 rfl) (lv_at hl 5 rfl) ?_
              refine lv_istore (lv' := [(4, .int w4_L9), (3, .int w3_L9), (6, .int r11), (0, .ref (am 0)), (1, .int p1), (2, .int p2), (5, .int w5_L9)]) F.1 F.2.1 (dd D_X9_soonest 40 rfl) hl (Nat.le_of_ble_eq_true rfl) rfl (fun ls hl => ?_)
              refine lv_iinc (v := (w5_L9 + (1 : Int32))) (lv' := [(5, .int (w5_L9 + (1 : Int32))), (4, .int w4_L9), (3, .int w3_L9), (6, .int r11), (0, .ref (am 0)), (1, .int p1), (2, .int p2)]) F.1 F.2.1 (dd D_X9_soonest 41 rfl) hl (k := 6) rfl (congrArg (fun z => w5_L9 + z) ki_1) (Nat.le_of_ble_eq_true rfl) rfl (fun ls hl => ?_)
              refine lv_goto (tgt := 29) F.1 F.2.1 (dd D_X9_soonest 42 rfl) rfl ?_
              exact ih_L9 w3_L9 w4_L9 (w5_L9 + (1 : Int32)) _ _ ls hP hD hS (lv_sub hl [4, 5, 6, 2, 1, 0] rfl) h
            · refine lv_iload F.1 F.2.1 (dd D_X9_soonest 37 rfl) (lv_at hl 1 rfl) ?_
              refine lv_goto (tgt := 75) F.1 F.2.1 (dd D_X9_soonest 38 rfl) rfl ?_
              refine lv_istore (lv' := [(4, .int r11), (3, .int w3_L9), (6, .int r11), (0, .ref (am 0)), (1, .int p1), (2, .int p2), (5, .int w5_L9)]) F.1 F.2.1 (dd D_X9_soonest 40 rfl) hl (Nat.le_of_ble_eq_true rfl) rfl (fun ls hl => ?_)
              refine lv_iinc (v := (w5_L9 + (1 : Int32))) (lv' := [(5, .int (w5_L9 + (1 : Int32))), (4, .int r11), (3, .int w3_L9), (6, .int r11), (0, .ref (am 0)), (1, .int p1), (2, .int p2)]) F.1 F.2.1 (dd D_X9_soonest 41 rfl) hl (k := 6) rfl (congrArg (fun z => w5_L9 + z) ki_1) (Nat.le_of_ble_eq_true rfl) rfl (fun ls hl => ?_)
              refine lv_goto (tgt := 29) F.1 F.2.1 (dd D_X9_soonest 42 rfl) rfl ?_
              exact ih_L9 w3_L9 r11 (w5_L9 + (1 : Int32)) _ _ ls hP hD hS (lv_sub hl [4, 5, 6, 2, 1, 0] rfl) h
          · refine lv_iload F.1 F.2.1 (dd D_X9_soonest 30 rfl) (lv_at hl 6 rfl) ?_
            refine lv_goto (tgt := 60) F.1 F.2.1 (dd D_X9_soonest 31 rfl) rfl ?_
            refine lv_istore_n (lv' := [(3, .int w5_L9), (6, .int r11), (0, .ref (am 0)), (1, .int p1), (2, .int p2), (4, .int w4_L9), (5, .int w5_L9)]) F.1 F.2.1 (dd D_X9_soonest 33 rfl) rfl hl (Nat.le_of_ble_eq_true rfl) rfl (fun ls hl => ?_)
            refine lv_iload F.1 F.2.1 (dd D_X9_soonest 34 rfl) (lv_at hl 1 rfl) ?_
            refine lv_iload F.1 F.2.1 (dd D_X9_soonest 35 rfl) (lv_at hl 5 rfl) ?_
            refine x_icmp_ge (tgt := 73) F.1 F.2.1 (dd D_X9_soonest 36 rfl) rfl h (fun c15 h => ?_) (fun c15 h => ?_)
            · refine lv_iload F.1 F.2.1 (dd D_X9_soonest 39 rfl) (lv_at hl 5 rfl) ?_
              refine lv_istore (lv' := [(4, .int w4_L9), (3, .int w5_L9), (6, .int r11), (0, .ref (am 0)), (1, .int p1), (2, .int p2), (5, .int w5_L9)]) F.1 F.2.1 (dd D_X9_soonest 40 rfl) hl (Nat.le_of_ble_eq_true rfl) rfl (fun ls hl => ?_)
              refine lv_iinc (v := (w5_L9 + (1 : Int32))) (lv' := [(5, .int (w5_L9 + (1 : Int32))), (4, .int w4_L9), (3, .int w5_L9), (6, .int r11), (0, .ref (am 0)), (1, .int p1), (2, .int p2)]) F.1 F.2.1 (dd D_X9_soonest 41 rfl) hl (k := 6) rfl (congrArg (fun z => w5_L9 + z) ki_1) (Nat.le_of_ble_eq_true rfl) rfl (fun ls hl => ?_)
              refine lv_goto (tgt := 29) F.1 F.2.1 (dd D_X9_soonest 42 rfl) rfl ?_
              exact ih_L9 w5_L9 w4_L9 (w5_L9 + (1 : Int32)) _ _ ls hP hD hS (lv_sub hl [4, 5, 6, 2, 1, 0] rfl) h
            · refine lv_iload F.1 F.2.1 (dd D_X9_soonest 37 rfl) (lv_at hl 1 rfl) ?_
              refine lv_goto (tgt := 75) F.1 F.2.1 (dd D_X9_soonest 38 rfl) rfl ?_
              refine lv_istore (lv' := [(4, .int r11), (3, .int w5_L9), (6, .int r11), (0, .ref (am 0)), (1, .int p1), (2, .int p2), (5, .int w5_L9)]) F.1 F.2.1 (dd D_X9_soonest 40 rfl) hl (Nat.le_of_ble_eq_true rfl) rfl (fun ls hl => ?_)
              refine lv_iinc (v := (w5_L9 + (1 : Int32))) (lv' := [(5, .int (w5_L9 + (1 : Int32))), (4, .int r11), (3, .int w5_L9), (6, .int r11), (0, .ref (am 0)), (1, .int p1), (2, .int p2)]) F.1 F.2.1 (dd D_X9_soonest 41 rfl) hl (k := 6) rfl (congrArg (fun z => w5_L9 + z) ki_1) (Nat.le_of_ble_eq_true rfl) rfl (fun ls hl => ?_)
              refine lv_goto (tgt := 29) F.1 F.2.1 (dd D_X9_soonest 42 rfl) rfl ?_
              exact ih_L9 w5_L9 r11 (w5_L9 + (1 : Int32)) _ _ ls hP hD hS (lv_sub hl [4, 5, 6, 2, 1, 0] rfl) h
    exact L9 n p1 r1 (p1 + (1 : Int32)) _ _ ls hP hD hS (lv_sub hl [3, 4, 5, 2, 1, 0] rfl) h
  · refine lv_aload_n F.1 F.2.1 (dd D_X9_soonest 4 rfl) rfl (lv_at hl 0 rfl) ?_
    refine lv_bipush (v := (-2 : Int32)) F.1 F.2.1 (dd D_X9_soonest 5 rfl) kb_m2 ?_
    obtain ⟨r16, e17, h⟩ := Option.bind_eq_some_iff.mp h
    refine rwe_all (st' := [.int r16.1]) hD hS hA (rV (rest := []) F (c_X9_refuse D cA am s n (-2 : Int32) r16 e17 l H.size) lk_X9_79 (Nat.le_of_ble_eq_true rfl) (preRW hK hS hAb hP hD) (rcv_9 hK hP (q0 := (0)) (mp_0 cA am s)) rfl hl rfl (Nat.le_of_ble_eq_true rfl) (dd D_X9_soonest 6 rfl) ⟨Nat.le_of_ble_eq_true rfl, Nat.le_of_ble_eq_true rfl⟩) rfl (fun H locs hP hD hS => ?_)
    obtain rfl := Option.some.inj h
    exact rw_i (R := rmOf 4 0 0) F hP hD hS hr hlk ⟨Nat.le_of_ble_eq_true rfl, Nat.le_of_ble_eq_true rfl⟩ ⟨rfl, rfl⟩ (dd D_X9_soonest 7 rfl)
