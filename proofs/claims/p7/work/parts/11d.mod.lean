def F_X9_stone (n : Nat) (s : MS) (p1 : Int32) : Option (Int32 × MS) := bf (F_X9_in (Int32.toInt64 p1) (0 : Int64) (179 : Int64)) ((if (m_stones s) = (6 : Int32) then (((F_X9_refuse n s (-6 : Int32))).bind fun r3 => some (r3.1, r3.2)) else gd (inb (m_stones s) 6) (some ((m_stones (m_set_stone s (upd (m_stone s) (Int32.toNatClampNeg (m_stones s)) p1))), (m_set_stones (m_set_stone s (upd (m_stone s) (Int32.toNatClampNeg (m_stones s)) p1)) ((m_stones (m_set_stone s (upd (m_stone s) (Int32.toNatClampNeg (m_stones s)) p1))) + (1 : Int32))))))) ((((F_X9_refuse n s (-2 : Int32))).bind fun r5 => some (r5.1, r5.2)))
set_option maxHeartbeats 4000000 in
set_option maxRecDepth 100000 in
theorem c_X9_stone (D : va_G) (cA : Nat → ClassId) (am : Nat → Nat) (s : MS) (n : Nat) (p1 : Int32) (r : (Int32 × MS)) (h : F_X9_stone n s p1 = some r) : RW m_X9_stone 1 0 0 D cA [.ref (am 0), .int p1] (mW cA am s) (exq (some (.int r.1)) (mW cA am r.2)) := by
  refine RW.ofW gy_X9_stone.2.2 (Nat.le_of_ble_eq_true rfl) ?_
  intro l p e sM m below meth c A H locs F hr hlk hnm hK hP hD hS hA hAb ls hl
  have hl : lv_has ls 2 [(0, .ref (am 0)), (1, .int p1)] := hl
  unfold F_X9_stone at h
  refine lv_iload_n F.1 F.2.1 (dd D_X9_stone 0 rfl) rfl (lv_at hl 1 rfl) ?_
  refine lv_i2l (v := (Int32.toInt64 p1)) F.1 F.2.1 (dd D_X9_stone 1 rfl) rfl ?_
  refine lv_lconst (v := (0 : Int64)) F.1 F.2.1 (dd D_X9_stone 2 rfl) kl_0 ?_
  refine lv_ldc2 (own := RX9) (v := (179 : Int64)) F.1 F.2.1 F.2.2.2.1 (F.2.2.2.2 _ (kL_X9_119)) (dd D_X9_stone 3 rfl) ?_
  refine ro_go (st' := [.int (bI (F_X9_in (Int32.toInt64 p1) (0 : Int64) (179 : Int64)))]) (rS (rest := []) F (c_X9_in D cA (Int32.toInt64 p1) (0 : Int64) (179 : Int64) l) lk_X9_63 (Nat.le_of_ble_eq_true rfl) (preRO hK hS hAb (emP)) rfl hl rfl (Nat.le_of_ble_eq_true rfl) (dd D_X9_stone 4 rfl) ⟨Nat.le_of_ble_eq_true rfl, Nat.le_of_ble_eq_true rfl⟩) rfl ?_
  refine x_bif_ne (tgt := 19) F.1 F.2.1 (dd D_X9_stone 5 rfl) rfl h (fun c7 h => ?_) (fun c7 h => ?_)
  · refine lv_aload_n F.1 F.2.1 (dd D_X9_stone 10 rfl) rfl (lv_at hl 0 rfl) ?_
    refine getF F hK hP lf_X9_127 (0) (mp_0 cA am s) rfl (dd D_X9_stone 11 rfl) ?_
    refine lv_bipush (v := (6 : Int32)) F.1 F.2.1 (dd D_X9_stone 12 rfl) kb_6 ?_
    refine x_icmp_ne (tgt := 35) F.1 F.2.1 (dd D_X9_stone 13 rfl) rfl h (fun c1 h => ?_) (fun c1 h => ?_)
    · refine lv_aload_n F.1 F.2.1 (dd D_X9_stone 18 rfl) rfl (lv_at hl 0 rfl) ?_
      refine getF F hK hP lf_X9_48 (0) (mp_0 cA am s) rfl (dd D_X9_stone 19 rfl) ?_
      refine lv_aload_n F.1 F.2.1 (dd D_X9_stone 20 rfl) rfl (lv_at hl 0 rfl) ?_
      refine getF F hK hP lf_X9_127 (0) (mp_0 cA am s) rfl (dd D_X9_stone 21 rfl) ?_
      refine lv_iload_n F.1 F.2.1 (dd D_X9_stone 22 rfl) rfl (lv_at hl 1 rfl) ?_
      refine astI F hK hP hD hS (28) (mp_28 cA am s) h (ws' := (mW cA am (m_set_stone s (upd (m_stone s) (Int32.toNatClampNeg (m_stones s)) p1)))) (ms_28 cA am s (upd (m_stone s) (Int32.toNatClampNeg (m_stones s)) p1)) (dd D_X9_stone 23 rfl) (fun z2 h H locs hP hD hS => ?_)
      refine lv_aload_n F.1 F.2.1 (dd D_X9_stone 24 rfl) rfl (lv_at hl 0 rfl) ?_
      refine lv_dup F.1 F.2.1 (dd D_X9_stone 25 rfl) rfl ?_
      refine getF F hK hP lf_X9_127 (0) (mp_0 cA am (m_set_stone s (upd (m_stone s) (Int32.toNatClampNeg (m_stones s)) p1))) rfl (dd D_X9_stone 26 rfl) ?_
      refine lv_dup_x1 F.1 F.2.1 (dd D_X9_stone 27 rfl) rfl rfl ?_
      refine lv_iconst (v := (1 : Int32)) F.1 F.2.1 (dd D_X9_stone 28 rfl) ki_1 ?_
      refine lv_iadd F.1 F.2.1 (dd D_X9_stone 29 rfl) ?_
      refine putF F hK hP hD hS lp_X9_127 (0) (mp_0 cA am (m_set_stone s (upd (m_stone s) (Int32.toNatClampNeg (m_stones s)) p1))) (Nat.le_of_ble_eq_true rfl) (nar_int _) (fit_int _) (ws' := (mW cA am (m_set_stones (m_set_stone s (upd (m_stone s) (Int32.toNatClampNeg (m_stones s)) p1)) ((m_stones (m_set_stone s (upd (m_stone s) (Int32.toNatClampNeg (m_stones s)) p1))) + (1 : Int32))))) (ms_0_13 cA am (m_set_stone s (upd (m_stone s) (Int32.toNatClampNeg (m_stones s)) p1)) ((m_stones (m_set_stone s (upd (m_stone s) (Int32.toNatClampNeg (m_stones s)) p1))) + (1 : Int32))) (dd D_X9_stone 30 rfl) (fun H locs hP hD hS => ?_)
      obtain rfl := Option.some.inj h
      exact rw_i (R := rmOf 1 0 0) F hP hD hS hr hlk ⟨Nat.le_of_ble_eq_true rfl, Nat.le_of_ble_eq_true rfl⟩ ⟨rfl, rfl⟩ (dd D_X9_stone 31 rfl)
    · refine lv_aload_n F.1 F.2.1 (dd D_X9_stone 14 rfl) rfl (lv_at hl 0 rfl) ?_
      refine lv_bipush (v := (-6 : Int32)) F.1 F.2.1 (dd D_X9_stone 15 rfl) kb_m6 ?_
      obtain ⟨r3, e4, h⟩ := Option.bind_eq_some_iff.mp h
      refine rwe_all (st' := [.int r3.1]) hD hS hA (rV (rest := []) F (c_X9_refuse D cA am s n (-6 : Int32) r3 e4 l H.size) lk_X9_79 (Nat.le_of_ble_eq_true rfl) (preRW hK hS hAb hP hD) (rcv_9 hK hP (q0 := (0)) (mp_0 cA am s)) rfl hl rfl (Nat.le_of_ble_eq_true rfl) (dd D_X9_stone 16 rfl) ⟨Nat.le_of_ble_eq_true rfl, Nat.le_of_ble_eq_true rfl⟩) rfl (fun H locs hP hD hS => ?_)
      obtain rfl := Option.some.inj h
      exact rw_i (R := rmOf 1 0 0) F hP hD hS hr hlk ⟨Nat.le_of_ble_eq_true rfl, Nat.le_of_ble_eq_true rfl⟩ ⟨rfl, rfl⟩ (dd D_X9_stone 17 rfl)
  · refine lv_aload_n F.1 F.2.1 (dd D_X9_stone 6 rfl) rfl (lv_at hl 0 rfl) ?_
    refine lv_bipush (v := (-2 : Int32)) F.1 F.2.1 (dd D_X9_stone 7 rfl) kb_m2 ?_
    obtain ⟨r5, e6, h⟩ := Option.bind_eq_some_iff.mp h
    refine rwe_all (st' := [.int r5.1]) hD hS hA (rV (rest := []) F (c_X9_refuse D cA am s n (-2 : Int32) r5 e6 l H.size) lk_X9_79 (Nat.le_of_ble_eq_true rfl) (preRW hK hS hAb hP hD) (rcv_9 hK hP (q0 := (0)) (mp_0 cA am s)) rfl hl rfl (Nat.le_of_ble_eq_true rfl) (dd D_X9_stone 8 rfl) ⟨Nat.le_of_ble_eq_true rfl, Nat.le_of_ble_eq_true rfl⟩) rfl (fun H locs hP hD hS => ?_)
    obtain rfl := Option.some.inj h
    exact rw_i (R := rmOf 1 0 0) F hP hD hS hr hlk ⟨Nat.le_of_ble_eq_true rfl, Nat.le_of_ble_eq_true rfl⟩ ⟨rfl, rfl⟩ (dd D_X9_stone 9 rfl)
def F_X9_isCloud_L2 (n : Nat) (u0 : MS) (v1 : Int32) : Nat → Int32 → Option Bool
  | 0, _ => none
  | kf + 1, w2 => (if (m_clouds u0) ≤ w2 then some (false) else gd (inb w2 8) ((if ((m_cloud u0) (Int32.toNatClampNeg w2)) = v1 then some (true) else F_X9_isCloud_L2 n u0 v1 kf (w2 + (1 : Int32)))))
def F_X9_isCloud (n : Nat) (s : MS) (p1 : Int32) : Option Bool := F_X9_isCloud_L2 n s p1 n (0 : Int32)
set_option maxHeartbeats 4000000 in
set_option maxRecDepth 100000 in
theorem c_X9_isCloud (D : va_G) (cA : Nat → ClassId) (am : Nat → Nat) (s : MS) (n : Nat) (p1 : Int32) (r : Bool) (h : F_X9_isCloud n s p1 = some r) : RO m_X9_isCloud 0 D cA [.ref (am 0), .int p1] (mW cA am s) (some (.int (bI r))) := by
  refine RO.ofW gy_X9_isCloud.2.2 (Nat.le_of_ble_eq_true rfl) ?_
  intro l p e sM m below meth c F hr hlk hK hP hS hAb ls hl
  have hl : lv_has ls 3 [(0, .ref (am 0)), (1, .int p1)] := hl
  unfold F_X9_isCloud at h
  refine lv_iconst (v := (0 : Int32)) F.1 F.2.1 (dd D_X9_isCloud 0 rfl) ki_0 ?_
  refine lv_istore_n (lv' := [(2, .int (0 : Int32)), (0, .ref (am 0)), (1, .int p1)]) F.1 F.2.1 (dd D_X9_isCloud 1 rfl) rfl hl (Nat.le_of_ble_eq_true rfl) rfl (fun ls hl => ?_)
  have L4 : ∀ (kf : Nat) (w2_L4 : Int32) (ls : Array Slot), lv_has ls 3 [(0, .ref (am 0)), (1, .int p1), (2, .int w2_L4)] → F_X9_isCloud_L2 n s p1 kf w2_L4 = some r → Wro 0 (some (.int (bI r))) p l e sM m ([.ref (am 0), .int p1] : List Value).toArray below meth c 2 ls [] := by
    intro kf
    induction kf with
    | zero =>
      intro w2_L4 ls hl h
      cases (show none = some r from h)
    | succ k_L4 ih_L4 =>
      intro w2_L4 ls hl h
      unfold F_X9_isCloud_L2 at h
      refine lv_iload_n F.1 F.2.1 (dd D_X9_isCloud 2 rfl) rfl (lv_at hl 2 rfl) ?_
      refine lv_aload_n F.1 F.2.1 (dd D_X9_isCloud 3 rfl) rfl (lv_at hl 0 rfl) ?_
      refine getF F hK hP lf_X9_130 (0) (mp_0 cA am s) rfl (dd D_X9_isCloud 4 rfl) ?_
      refine x_icmp_ge (tgt := 28) F.1 F.2.1 (dd D_X9_isCloud 5 rfl) rfl h (fun c5 h => ?_) (fun c5 h => ?_)
      · refine lv_iconst (v := (0 : Int32)) F.1 F.2.1 (dd D_X9_isCloud 16 rfl) ki_0 ?_
        exact ro_z (R := rmOf 0 0 0) F hr rfl hlk (congrArg (Option.map fun z => Value.int (bI z)) h) (dd D_X9_isCloud 17 rfl)
      · refine lv_aload_n F.1 F.2.1 (dd D_X9_isCloud 6 rfl) rfl (lv_at hl 0 rfl) ?_
        refine getF F hK hP lf_X9_51 (0) (mp_0 cA am s) rfl (dd D_X9_isCloud 7 rfl) ?_
        refine lv_iload_n F.1 F.2.1 (dd D_X9_isCloud 8 rfl) rfl (lv_at hl 2 rfl) ?_
        refine aldI F hK hP (29) (mp_29 cA am s) h (dd D_X9_isCloud 9 rfl) (fun z6 h => ?_)
        refine lv_iload_n F.1 F.2.1 (dd D_X9_isCloud 10 rfl) rfl (lv_at hl 1 rfl) ?_
        refine x_icmp_ne (tgt := 22) F.1 F.2.1 (dd D_X9_isCloud 11 rfl) rfl h (fun c7 h => ?_) (fun c7 h => ?_)
        · refine lv_iinc (v := (w2_L4 + (1 : Int32))) (lv' := [(2, .int (w2_L4 + (1 : Int32))), (0, .ref (am 0)), (1, .int p1)]) F.1 F.2.1 (dd D_X9_isCloud 14 rfl) hl (k := 2) rfl (congrArg (fun z => w2_L4 + z) ki_1) (Nat.le_of_ble_eq_true rfl) rfl (fun ls hl => ?_)
          refine lv_goto (tgt := 2) F.1 F.2.1 (dd D_X9_isCloud 15 rfl) rfl ?_
          exact ih_L4 (w2_L4 + (1 : Int32)) ls (lv_sub hl [1, 2, 0] rfl) h
        · refine lv_iconst (v := (1 : Int32)) F.1 F.2.1 (dd D_X9_isCloud 12 rfl) ki_1 ?_
          exact ro_z (R := rmOf 0 0 0) F hr rfl hlk (congrArg (Option.map fun z => Value.int (bI z)) h) (dd D_X9_isCloud 13 rfl)
  exact L4 n (0 : Int32) ls (lv_sub hl [1, 2, 0] rfl) h
def F_X9_cloud (n : Nat) (s : MS) (p1 : Int32) : Option (Int32 × MS) := bf (F_X9_isDay (Int32.toInt64 p1)) ((((F_X9_isCloud n s p1)).bind fun r1 => bf r1 ((((F_X9_refuse n s (-5 : Int32))).bind fun r7 => some (r7.1, r7.2))) ((if (m_clouds s) = (8 : Int32) then (((F_X9_refuse n s (-6 : Int32))).bind fun r5 => some (r5.1, r5.2)) else gd (inb (m_clouds s) 8) (some ((m_clouds (m_set_cloud (m_set_clouds s ((m_clouds s) + (1 : Int32))) (upd (m_cloud (m_set_clouds s ((m_clouds s) + (1 : Int32)))) (Int32.toNatClampNeg (m_clouds s)) p1))), (m_set_cloud (m_set_clouds s ((m_clouds s) + (1 : Int32))) (upd (m_cloud (m_set_clouds s ((m_clouds s) + (1 : Int32)))) (Int32.toNatClampNeg (m_clouds s)) p1)))))))) ((((F_X9_refuse n s (-2 : Int32))).bind fun r10 => some (r10.1, r10.2)))
set_option maxHeartbeats 4000000 in
set_option maxRecDepth 100000 in
theorem c_X9_cloud (D : va_G) (cA : Nat → ClassId) (am : Nat → Nat) (s : MS) (n : Nat) (p1 : Int32) (r : (Int32 × MS)) (h : F_X9_cloud n s p1 = some r) : RW m_X9_cloud 2 0 0 D cA [.ref (am 0), .int p1] (mW cA am s) (exq (some (.int r.1)) (mW cA am r.2)) := by
  refine RW.ofW gy_X9_cloud.2.2 (Nat.le_of_ble_eq_true rfl) ?_
  intro l p e sM m below meth c A H locs F hr hlk hnm hK hP hD hS hA hAb ls hl
  have hl : lv_has ls 2 [(0, .ref (am 0)), (1, .int p1)] := hl
  unfold F_X9_cloud at h
  refine lv_iload_n F.1 F.2.1 (dd D_X9_cloud 0 rfl) rfl (lv_at hl 1 rfl) ?_
  refine lv_i2l (v := (Int32.toInt64 p1)) F.1 F.2.1 (dd D_X9_cloud 1 rfl) rfl ?_
  refine ro_go (st' := [.int (bI (F_X9_isDay (Int32.toInt64 p1)))]) (rS (rest := []) F (c_X9_isDay D cA (Int32.toInt64 p1) l) lk_X9_67 (Nat.le_of_ble_eq_true rfl) (preRO hK hS hAb (emP)) rfl hl rfl (Nat.le_of_ble_eq_true rfl) (dd D_X9_cloud 2 rfl) ⟨Nat.le_of_ble_eq_true rfl, Nat.le_of_ble_eq_true rfl⟩) rfl ?_
  refine x_bif_ne (tgt := 15) F.1 F.2.1 (dd D_X9_cloud 3 rfl) rfl h (fun c12 h => ?_) (fun c12 h => ?_)
  · refine lv_aload_n F.1 F.2.1 (dd D_X9_cloud 8 rfl) rfl (lv_at hl 0 rfl) ?_
    refine lv_iload_n F.1 F.2.1 (dd D_X9_cloud 9 rfl) rfl (lv_at hl 1 rfl) ?_
    obtain ⟨r1, e2, h⟩ := Option.bind_eq_some_iff.mp h
    refine ro_go (st' := [.int (bI r1)]) (rV (rest := []) F (c_X9_isCloud D cA am s n p1 r1 e2 l) lk_X9_133 (Nat.le_of_ble_eq_true rfl) (preRO hK hS hAb hP) (rcv_9 hK hP (q0 := (0)) (mp_0 cA am s)) rfl hl rfl (Nat.le_of_ble_eq_true rfl) (dd D_X9_cloud 10 rfl) ⟨Nat.le_of_ble_eq_true rfl, Nat.le_of_ble_eq_true rfl⟩) rfl ?_
    refine x_bif_eq (tgt := 30) F.1 F.2.1 (dd D_X9_cloud 11 rfl) rfl h (fun c9 h => ?_) (fun c9 h => ?_)
    · refine lv_aload_n F.1 F.2.1 (dd D_X9_cloud 16 rfl) rfl (lv_at hl 0 rfl) ?_
      refine getF F hK hP lf_X9_130 (0) (mp_0 cA am s) rfl (dd D_X9_cloud 17 rfl) ?_
      refine lv_bipush (v := (8 : Int32)) F.1 F.2.1 (dd D_X9_cloud 18 rfl) kb_8 ?_
      refine x_icmp_ne (tgt := 46) F.1 F.2.1 (dd D_X9_cloud 19 rfl) rfl h (fun c3 h => ?_) (fun c3 h => ?_)
      · refine lv_aload_n F.1 F.2.1 (dd D_X9_cloud 24 rfl) rfl (lv_at hl 0 rfl) ?_
        refine getF F hK hP lf_X9_51 (0) (mp_0 cA am s) rfl (dd D_X9_cloud 25 rfl) ?_
        refine lv_aload_n F.1 F.2.1 (dd D_X9_cloud 26 rfl) rfl (lv_at hl 0 rfl) ?_
        refine lv_dup F.1 F.2.1 (dd D_X9_cloud 27 rfl) rfl ?_
        refine getF F hK hP lf_X9_130 (0) (mp_0 cA am s) rfl (dd D_X9_cloud 28 rfl) ?_
        refine lv_dup_x1 F.1 F.2.1 (dd D_X9_cloud 29 rfl) rfl rfl ?_
        refine lv_iconst (v := (1 : Int32)) F.1 F.2.1 (dd D_X9_cloud 30 rfl) ki_1 ?_
        refine lv_iadd F.1 F.2.1 (dd D_X9_cloud 31 rfl) ?_
        refine putF F hK hP hD hS lp_X9_130 (0) (mp_0 cA am s) (Nat.le_of_ble_eq_true rfl) (nar_int _) (fit_int _) (ws' := (mW cA am (m_set_clouds s ((m_clouds s) + (1 : Int32))))) (ms_0_15 cA am s ((m_clouds s) + (1 : Int32))) (dd D_X9_cloud 32 rfl) (fun H locs hP hD hS => ?_)
        refine lv_iload_n F.1 F.2.1 (dd D_X9_cloud 33 rfl) rfl (lv_at hl 1 rfl) ?_
        refine astI F hK hP hD hS (29) (mp_29 cA am (m_set_clouds s ((m_clouds s) + (1 : Int32)))) h (ws' := (mW cA am (m_set_cloud (m_set_clouds s ((m_clouds s) + (1 : Int32))) (upd (m_cloud (m_set_clouds s ((m_clouds s) + (1 : Int32)))) (Int32.toNatClampNeg (m_clouds s)) p1)))) (ms_29 cA am (m_set_clouds s ((m_clouds s) + (1 : Int32))) (upd (m_cloud (m_set_clouds s ((m_clouds s) + (1 : Int32)))) (Int32.toNatClampNeg (m_clouds s)) p1)) (dd D_X9_cloud 34 rfl) (fun z4 h H locs hP hD hS => ?_)
        refine lv_aload_n F.1 F.2.1 (dd D_X9_cloud 35 rfl) rfl (lv_at hl 0 rfl) ?_
        refine getF F hK hP lf_X9_130 (0) (mp_0 cA am (m_set_cloud (m_set_clouds s ((m_clouds s) + (1 : Int32))) (upd (m_cloud (m_set_clouds s ((m_clouds s) + (1 : Int32)))) (Int32.toNatClampNeg (m_clouds s)) p1))) rfl (dd D_X9_cloud 36 rfl) ?_
        obtain rfl := Option.some.inj h
        exact rw_i (R := rmOf 2 0 0) F hP hD hS hr hlk ⟨Nat.le_of_ble_eq_true rfl, Nat.le_of_ble_eq_true rfl⟩ ⟨rfl, rfl⟩ (dd D_X9_cloud 37 rfl)
      · refine lv_aload_n F.1 F.2.1 (dd D_X9_cloud 20 rfl) rfl (lv_at hl 0 rfl) ?_
        refine lv_bipush (v := (-6 : Int32)) F.1 F.2.1 (dd D_X9_cloud 21 rfl) kb_m6 ?_
        obtain ⟨r5, e6, h⟩ := Option.bind_eq_some_iff.mp h
        refine rwe_all (st' := [.int r5.1]) hD hS hA (rV (rest := []) F (c_X9_refuse D cA am s n (-6 : Int32) r5 e6 l H.size) lk_X9_79 (Nat.le_of_ble_eq_true rfl) (preRW hK hS hAb hP hD) (rcv_9 hK hP (q0 := (0)) (mp_0 cA am s)) rfl hl rfl (Nat.le_of_ble_eq_true rfl) (dd D_X9_cloud 22 rfl) ⟨Nat.le_of_ble_eq_true rfl, Nat.le_of_ble_eq_true rfl⟩) rfl (fun H locs hP hD hS => ?_)
        obtain rfl := Option.some.inj h
        exact rw_i (R := rmOf 2 0 0) F hP hD hS hr hlk ⟨Nat.le_of_ble_eq_true rfl, Nat.le_of_ble_eq_true rfl⟩ ⟨rfl, rfl⟩ (dd D_X9_cloud 23 rfl)
    · refine lv_aload_n F.1 F.2.1 (dd D_X9_cloud 12 rfl) rfl (lv_at hl 0 rfl) ?_
      refine lv_bipush (v := (-5 : Int32)) F.1 F.2.1 (dd D_X9_cloud 13 rfl) kb_m5 ?_
      obtain ⟨r7, e8, h⟩ := Option.bind_eq_some_iff.mp h
      refine rwe_all (st' := [.int r7.1]) hD hS hA (rV (rest := []) F (c_X9_refuse D cA am s n (-5 : Int32) r7 e8 l H.size) lk_X9_79 (Nat.le_of_ble_eq_true rfl) (preRW hK hS hAb hP hD) (rcv_9 hK hP (q0 := (0)) (mp_0 cA am s)) rfl hl rfl (Nat.le_of_ble_eq_true rfl) (dd D_X9_cloud 14 rfl) ⟨Nat.le_of_ble_eq_true rfl, Nat.le_of_ble_eq_true rfl⟩) rfl (fun H locs hP hD hS => ?_)
      obtain rfl := Option.some.inj h
      exact rw_i (R := rmOf 2 0 0) F hP hD hS hr hlk ⟨Nat.le_of_ble_eq_true rfl, Nat.le_of_ble_eq_true rfl⟩ ⟨rfl, rfl⟩ (dd D_X9_cloud 15 rfl)
  · refine lv_aload_n F.1 F.2.1 (dd D_X9_cloud 4 rfl) rfl (lv_at hl 0 rfl) ?_
    refine lv_bipush (v := (-2 : Int32)) F.1 F.2.1 (dd D_X9_cloud 5 rfl) kb_m2 ?_
    obtain ⟨r10, e11, h⟩ := Option.bind_eq_some_iff.mp h
    refine rwe_all (st' := [.int r10.1]) hD hS hA (rV (rest := []) F (c_X9_refuse D cA am s n (-2 : Int32) r10 e11 l H.size) lk_X9_79 (Nat.le_of_ble_eq_true rfl) (preRW hK hS hAb hP hD) (rcv_9 hK hP (q0 := (0)) (mp_0 cA am s)) rfl hl rfl (Nat.le_of_ble_eq_true rfl) (dd D_X9_cloud 6 rfl) ⟨Nat.le_of_ble_eq_true rfl, Nat.le_of_ble_eq_true rfl⟩) rfl (fun H locs hP hD hS => ?_)
    obtain rfl := Option.some.inj h
    exact rw_i (R := rmOf 2 0 0) F hP hD hS hr hlk ⟨Nat.le_of_ble_eq_true rfl, Nat.le_of_ble_eq_true rfl⟩ ⟨rfl, rfl⟩ (dd D_X9_cloud 7 rfl)
def F_X9_clear (n : Nat) (s : MS) (p1 : Int32) : Option (Int32 × MS) := bf (F_X9_in (Int32.toInt64 p1) (0 : Int64) (2 : Int64)) ((if p1 = 0 then (if p1 = 0 then (if p1 = (1 : Int32) then (if p1 = (2 : Int32) then some ((m_notches s), (m_set_clouds (m_set_stones (m_set_notches s (0 : Int32)) (0 : Int32)) (0 : Int32))) else some ((m_notches s), (m_set_clouds (m_set_stones (m_set_notches s (0 : Int32)) (0 : Int32)) (m_clouds (m_set_stones (m_set_notches s (0 : Int32)) (0 : Int32)))))) else (if p1 = (2 : Int32) then some ((m_notches s), (m_set_clouds (m_set_stones (m_set_notches s (0 : Int32)) (m_stones (m_set_notches s (0 : Int32)))) (0 : Int32))) else some ((m_notches s), (m_set_clouds (m_set_stones (m_set_notches s (0 : Int32)) (m_stones (m_set_notches s (0 : Int32)))) (m_clouds (m_set_stones (m_set_notches s (0 : Int32)) (m_stones (m_set_notches s (0 : Int32))))))))) else (if p1 = (1 : Int32) then (if p1 = (2 : Int32) then some ((m_notches s), (m_set_clouds (m_set_stones (m_set_notches s (m_notches s)) (0 : Int32)) (0 : Int32))) else some ((m_notches s), (m_set_clouds (m_set_stones (m_set_notches s (m_notches s)) (0 : Int32)) (m_clouds (m_set_stones (m_set_notches s (m_notches s)) (0 : Int32)))))) else (if p1 = (2 : Int32) then some ((m_notches s), (m_set_clouds (m_set_stones (m_set_notches s (m_notches s)) (m_stones (m_set_notches s (m_notches s)))) (0 : Int32))) else some ((m_notches s), (m_set_clouds (m_set_stones (m_set_notches s (m_notches s)) (m_stones (m_set_notches s (m_notches s)))) (m_clouds (m_set_stones (m_set_notches s (m_notches s)) (m_stones (m_set_notches s (m_notches s)))))))))) else (if p1 = (1 : Int32) then (if p1 = 0 then (if p1 = (1 : Int32) then (if p1 = (2 : Int32) then some ((m_stones s), (m_set_clouds (m_set_stones (m_set_notches s (0 : Int32)) (0 : Int32)) (0 : Int32))) else some ((m_stones s), (m_set_clouds (m_set_stones (m_set_notches s (0 : Int32)) (0 : Int32)) (m_clouds (m_set_stones (m_set_notches s (0 : Int32)) (0 : Int32)))))) else (if p1 = (2 : Int32) then some ((m_stones s), (m_set_clouds (m_set_stones (m_set_notches s (0 : Int32)) (m_stones (m_set_notches s (0 : Int32)))) (0 : Int32))) else some ((m_stones s), (m_set_clouds (m_set_stones (m_set_notches s (0 : Int32)) (m_stones (m_set_notches s (0 : Int32)))) (m_clouds (m_set_stones (m_set_notches s (0 : Int32)) (m_stones (m_set_notches s (0 : Int32))))))))) else (if p1 = (1 : Int32) then (if p1 = (2 : Int32) then some ((m_stones s), (m_set_clouds (m_set_stones (m_set_notches s (m_notches s)) (0 : Int32)) (0 : Int32))) else some ((m_stones s), (m_set_clouds (m_set_stones (m_set_notches s (m_notches s)) (0 : Int32)) (m_clouds (m_set_stones (m_set_notches s (m_notches s)) (0 : Int32)))))) else (if p1 = (2 : Int32) then some ((m_stones s), (m_set_clouds (m_set_stones (m_set_notches s (m_notches s)) (m_stones (m_set_notches s (m_notches s)))) (0 : Int32))) else some ((m_stones s), (m_set_clouds (m_set_stones (m_set_notches s (m_notches s)) (m_stones (m_set_notches s (m_notches s)))) (m_clouds (m_set_stones (m_set_notches s (m_notches s)) (m_stones (m_set_notches s (m_notches s)))))))))) else (if p1 = 0 then (if p1 = (1 : Int32) then (if p1 = (2 : Int32) then some ((m_clouds s), (m_set_clouds (m_set_stones (m_set_notches s (0 : Int32)) (0 : Int32)) (0 : Int32))) else some ((m_clouds s), (m_set_clouds (m_set_stones (m_set_notches s (0 : Int32)) (0 : Int32)) (m_clouds (m_set_stones (m_set_notches s (0 : Int32)) (0 : Int32)))))) else (if p1 = (2 : Int32) then some ((m_clouds s), (m_set_clouds (m_set_stones (m_set_notches s (0 : Int32)) (m_stones (m_set_notches s (0 : Int32)))) (0 : Int32))) else some ((m_clouds s), (m_set_clouds (m_set_stones (m_set_notches s (0 : Int32)) (m_stones (m_set_notches s (0 : Int32)))) (m_clouds (m_set_stones (m_set_notches s (0 : Int32)) (m_stones (m_set_notches s (0 : Int32))))))))) else (if p1 = (1 : Int32) then (if p1 = (2 : Int32) then some ((m_clouds s), (m_set_clouds (m_set_stones (m_set_notches s (m_notches s)) (0 : Int32)) (0 : Int32))) else some ((m_clouds s), (m_set_clouds (m_set_stones (m_set_notches s (m_notches s)) (0 : Int32)) (m_clouds (m_set_stones (m_set_notches s (m_notches s)) (0 : Int32)))))) else (if p1 = (2 : Int32) then some ((m_clouds s), (m_set_clouds (m_set_stones (m_set_notches s (m_notches s)) (m_stones (m_set_notches s (m_notches s)))) (0 : Int32))) else some ((m_clouds s), (m_set_clouds (m_set_stones (m_set_notches s (m_notches s)) (m_stones (m_set_notches s (m_notches s)))) (m_clouds (m_set_stones (m_set_notches s (m_notches s)) (m_stones (m_set_notches s (m_notches s))))))))))))) ((((F_X9_refuse n s (-2 : Int32))).bind fun r24 => some (r24.1, r24.2)))
set_option maxHeartbeats 4000000 in
set_option maxRecDepth 100000 in
theorem c_X9_clear (D : va_G) (cA : Nat → ClassId) (am : Nat → Nat) (s : MS) (n : Nat) (p1 : Int32) (r : (Int32 × MS)) (h : F_X9_clear n s p1 = some r) : RW m_X9_clear 1 0 0 D cA [.ref (am 0), .int p1] (mW cA am s) (exq (some (.int r.1)) (mW cA am r.2)) := by
  refine RW.ofW gy_X9_clear.2.2 (Nat.le_of_ble_eq_true rfl) ?_
  intro l p e sM m below meth c A H locs F hr hlk hnm hK hP hD hS hA hAb ls hl
  have hl : lv_has ls 3 [(0, .ref (am 0)), (1, .int p1)] := hl
  unfold F_X9_clear at h
  refine lv_iload_n F.1 F.2.1 (dd D_X9_clear 0 rfl) rfl (lv_at hl 1 rfl) ?_
  refine lv_i2l (v := (Int32.toInt64 p1)) F.1 F.2.1 (dd D_X9_clear 1 rfl) rfl ?_
  refine lv_lconst (v := (0 : Int64)) F.1 F.2.1 (dd D_X9_clear 2 rfl) kl_0 ?_
  refine lv_ldc2 (own := RX9) (v := (2 : Int64)) F.1 F.2.1 F.2.2.2.1 (F.2.2.2.2 _ (kL_X9_137)) (dd D_X9_clear 3 rfl) ?_
  refine ro_go (st' := [.int (bI (F_X9_in (Int32.toInt64 p1) (0 : Int64) (2 : Int64)))]) (rS (rest := []) F (c_X9_in D cA (Int32.toInt64 p1) (0 : Int64) (2 : Int64) l) lk_X9_63 (Nat.le_of_ble_eq_true rfl) (preRO hK hS hAb (emP)) rfl hl rfl (Nat.le_of_ble_eq_true rfl) (dd D_X9_clear 4 rfl) ⟨Nat.le_of_ble_eq_true rfl, Nat.le_of_ble_eq_true rfl⟩) rfl ?_
  refine x_bif_ne (tgt := 19) F.1 F.2.1 (dd D_X9_clear 5 rfl) rfl h (fun c26 h => ?_) (fun c26 h => ?_)
  · refine lv_iload_n F.1 F.2.1 (dd D_X9_clear 10 rfl) rfl (lv_at hl 1 rfl) ?_
    refine x_if_ne (tgt := 30) F.1 F.2.1 (dd D_X9_clear 11 rfl) rfl h (fun c1 h => ?_) (fun c1 h => ?_)
    · refine lv_iload_n F.1 F.2.1 (dd D_X9_clear 15 rfl) rfl (lv_at hl 1 rfl) ?_
      refine lv_iconst (v := (1 : Int32)) F.1 F.2.1 (dd D_X9_clear 16 rfl) ki_1 ?_
      refine x_icmp_ne (tgt := 42) F.1 F.2.1 (dd D_X9_clear 17 rfl) rfl h (fun c2 h => ?_) (fun c2 h => ?_)
      · refine lv_aload_n F.1 F.2.1 (dd D_X9_clear 21 rfl) rfl (lv_at hl 0 rfl) ?_
        refine getF F hK hP lf_X9_130 (0) (mp_0 cA am s) rfl (dd D_X9_clear 22 rfl) ?_
        refine lv_istore_n (lv' := [(2, .int (m_clouds s)), (0, .ref (am 0)), (1, .int p1)]) F.1 F.2.1 (dd D_X9_clear 23 rfl) rfl hl (Nat.le_of_ble_eq_true rfl) rfl (fun ls hl => ?_)
        refine lv_aload_n F.1 F.2.1 (dd D_X9_clear 24 rfl) rfl (lv_at hl 1 rfl) ?_
        refine lv_iload_n F.1 F.2.1 (dd D_X9_clear 25 rfl) rfl (lv_at hl 2 rfl) ?_
        refine x_if_ne (tgt := 56) F.1 F.2.1 (dd D_X9_clear 26 rfl) rfl h (fun c3 h => ?_) (fun c3 h => ?_)
        · refine lv_aload_n F.1 F.2.1 (dd D_X9_clear 29 rfl) rfl (lv_at hl 1 rfl) ?_
          refine getF F hK hP lf_X9_116 (0) (mp_0 cA am s) rfl (dd D_X9_clear 30 rfl) ?_
          refine putF F hK hP hD hS lp_X9_116 (0) (mp_0 cA am s) (Nat.le_of_ble_eq_true rfl) (nar_int _) (fit_int _) (ws' := (mW cA am (m_set_notches s (m_notches s)))) (ms_0_11 cA am s (m_notches s)) (dd D_X9_clear 31 rfl) (fun H locs hP hD hS => ?_)
          refine lv_aload_n F.1 F.2.1 (dd D_X9_clear 32 rfl) rfl (lv_at hl 1 rfl) ?_
          refine lv_iload_n F.1 F.2.1 (dd D_X9_clear 33 rfl) rfl (lv_at hl 2 rfl) ?_
          refine lv_iconst (v := (1 : Int32)) F.1 F.2.1 (dd D_X9_clear 34 rfl) ki_1 ?_
          refine x_icmp_ne (tgt := 73) F.1 F.2.1 (dd D_X9_clear 35 rfl) rfl h (fun c4 h => ?_) (fun c4 h => ?_)
          · refine lv_aload_n F.1 F.2.1 (dd D_X9_clear 38 rfl) rfl (lv_at hl 1 rfl) ?_
            refine getF F hK hP lf_X9_127 (0) (mp_0 cA am (m_set_notches s (m_notches s))) rfl (dd D_X9_clear 39 rfl) ?_
            refine putF F hK hP hD hS lp_X9_127 (0) (mp_0 cA am (m_set_notches s (m_notches s))) (Nat.le_of_ble_eq_true rfl) (nar_int _) (fit_int _) (ws' := (mW cA am (m_set_stones (m_set_notches s (m_notches s)) (m_stones (m_set_notches s (m_notches s)))))) (ms_0_13 cA am (m_set_notches s (m_notches s)) (m_stones (m_set_notches s (m_notches s)))) (dd D_X9_clear 40 rfl) (fun H locs hP hD hS => ?_)
            refine lv_aload_n F.1 F.2.1 (dd D_X9_clear 41 rfl) rfl (lv_at hl 1 rfl) ?_
            refine lv_iload_n F.1 F.2.1 (dd D_X9_clear 42 rfl) rfl (lv_at hl 2 rfl) ?_
            refine lv_iconst (v := (2 : Int32)) F.1 F.2.1 (dd D_X9_clear 43 rfl) ki_2 ?_
            refine x_icmp_ne (tgt := 90) F.1 F.2.1 (dd D_X9_clear 44 rfl) rfl h (fun c5 h => ?_) (fun c5 h => ?_)
            · refine lv_aload_n F.1 F.2.1 (dd D_X9_clear 47 rfl) rfl (lv_at hl 1 rfl) ?_
              refine getF F hK hP lf_X9_130 (0) (mp_0 cA am (m_set_stones (m_set_notches s (m_notches s)) (m_stones (m_set_notches s (m_notches s))))) rfl (dd D_X9_clear 48 rfl) ?_
              refine putF F hK hP hD hS lp_X9_130 (0) (mp_0 cA am (m_set_stones (m_set_notches s (m_notches s)) (m_stones (m_set_notches s (m_notches s))))) (Nat.le_of_ble_eq_true rfl) (nar_int _) (fit_int _) (ws' := (mW cA am (m_set_clouds (m_set_stones (m_set_notches s (m_notches s)) (m_stones (m_set_notches s (m_notches s)))) (m_clouds (m_set_stones (m_set_notches s (m_notches s)) (m_stones (m_set_notches s (m_notches s)))))))) (ms_0_15 cA am (m_set_stones (m_set_notches s (m_notches s)) (m_stones (m_set_notches s (m_notches s)))) (m_clouds (m_set_stones (m_set_notches s (m_notches s)) (m_stones (m_set_notches s (m_notches s)))))) (dd D_X9_clear 49 rfl) (fun H locs hP hD hS => ?_)
              refine lv_iload_n F.1 F.2.1 (dd D_X9_clear 50 rfl) rfl (lv_at hl 0 rfl) ?_
              obtain rfl := Option.some.inj h
              exact rw_i (R := rmOf 1 0 0) F hP hD hS hr hlk ⟨Nat.le_of_ble_eq_true rfl, Nat.le_of_ble_eq_true rfl⟩ ⟨rfl, rfl⟩ (dd D_X9_clear 51 rfl)
            · refine lv_iconst (v := (0 : Int32)) F.1 F.2.1 (dd D_X9_clear 45 rfl) ki_0 ?_
              refine lv_goto (tgt := 94) F.1 F.2.1 (dd D_X9_clear 46 rfl) rfl ?_
              refine putF F hK hP hD hS lp_X9_130 (0) (mp_0 cA am (m_set_stones (m_set_notches s (m_notches s)) (m_stones (m_set_notches s (m_notches s))))) (Nat.le_of_ble_eq_true rfl) (nar_int _) (fit_int _) (ws' := (mW cA am (m_set_clouds (m_set_stones (m_set_notches s (m_notches s)) (m_stones (m_set_notches s (m_notches s)))) (0 : Int32)))) (ms_0_15 cA am (m_set_stones (m_set_notches s (m_notches s)) (m_stones (m_set_notches s (m_notches s)))) (0 : Int32)) (dd D_X9_clear 49 rfl) (fun H locs hP hD hS => ?_)
              refine lv_iload_n F.1 F.2.1 (dd D_X9_clear 50 rfl) rfl (lv_at hl 0 rfl) ?_
              obtain rfl := Option.some.inj h
              exact rw_i (R := rmOf 1 0 0) F hP hD hS hr hlk ⟨Nat.le_of_ble_eq_true rfl, Nat.le_of_ble_eq_true rfl⟩ ⟨rfl, rfl⟩ (dd D_X9_clear 51 rfl)
          · refine lv_iconst (v := (0 : Int32)) F.1 F.2.1 (dd D_X9_clear 36 rfl) ki_0 ?_
            refine lv_goto (tgt := 77) F.1 F.2.1 (dd D_X9_clear 37 rfl) rfl ?_
            refine putF F hK hP hD hS lp_X9_127 (0) (mp_0 cA am (m_set_notches s (m_notches s))) (Nat.le_of_ble_eq_true rfl) (nar_int _) (fit_int _) (ws' := (mW cA am (m_set_stones (m_set_notches s (m_notches s)) (0 : Int32)))) (ms_0_13 cA am (m_set_notches s (m_notches s)) (0 : Int32)) (dd D_X9_clear 40 rfl) (fun H locs hP hD hS => ?_)
            refine lv_aload_n F.1 F.2.1 (dd D_X9_clear 41 rfl) rfl (lv_at hl 1 rfl) ?_
            refine lv_iload_n F.1 F.2.1 (dd D_X9_clear 42 rfl) rfl (lv_at hl 2 rfl) ?_
            refine lv_iconst (v := (2 : Int32)) F.1 F.2.1 (dd D_X9_clear 43 rfl) ki_2 ?_
            refine x_icmp_ne (tgt := 90) F.1 F.2.1 (dd D_X9_clear 44 rfl) rfl h (fun c6 h => ?_) (fun c6 h => ?_)
            · refine lv_aload_n F.1 F.2.1 (dd D_X9_clear 47 rfl) rfl (lv_at hl 1 rfl) ?_
              refine getF F hK hP lf_X9_130 (0) (mp_0 cA am (m_set_stones (m_set_notches s (m_notches s)) (0 : Int32))) rfl (dd D_X9_clear 48 rfl) ?_
              refine putF F hK hP hD hS lp_X9_130 (0) (mp_0 cA am (m_set_stones (m_set_notches s (m_notches s)) (0 : Int32))) (Nat.le_of_ble_eq_true rfl) (nar_int _) (fit_int _) (ws' := (mW cA am (m_set_clouds (m_set_stones (m_set_notches s (m_notches s)) (0 : Int32)) (m_clouds (m_set_stones (m_set_notches s (m_notches s)) (0 : Int32)))))) (ms_0_15 cA am (m_set_stones (m_set_notches s (m_notches s)) (0 : Int32)) (m_clouds (m_set_stones (m_set_notches s (m_notches s)) (0 : Int32)))) (dd D_X9_clear 49 rfl) (fun H locs hP hD hS => ?_)
              refine lv_iload_n F.1 F.2.1 (dd D_X9_clear 50 rfl) rfl (lv_at hl 0 rfl) ?_
              obtain rfl := Option.some.inj h
              exact rw_i (R := rmOf 1 0 0) F hP hD hS hr hlk ⟨Nat.le_of_ble_eq_true rfl, Nat.le_of_ble_eq_true rfl⟩ ⟨rfl, rfl⟩ (dd D_X9_clear 51 rfl)
            · refine lv_iconst (v := (0 : Int32)) F.1 F.2.1 (dd D_X9_clear 45 rfl) ki_0 ?_
              refine lv_goto (tgt := 94) F.1 F.2.1 (dd D_X9_clear 46 rfl) rfl ?_
              refine putF F hK hP hD hS lp_X9_130 (0) (mp_0 cA am (m_set_stones (m_set_notches s (m_notches s)) (0 : Int32))) (Nat.le_of_ble_eq_true rfl) (nar_int _) (fit_int _) (ws' := (mW cA am (m_set_clouds (m_set_stones (m_set_notches s (m_notches s)) (0 : Int32)) (0 : Int32)))) (ms_0_15 cA am (m_set_stones (m_set_notches s (m_notches s)) (0 : Int32)) (0 : Int32)) (dd D_X9_clear 49 rfl) (fun H locs hP hD hS => ?_)
              refine lv_iload_n F.1 F.2.1 (dd D_X9_clear 50 rfl) rfl (lv_at hl 0 rfl) ?_
              obtain rfl := Option.some.inj h
              exact rw_i (R := rmOf 1 0 0) F hP hD hS hr hlk ⟨Nat.le_of_ble_eq_true rfl, Nat.le_of_ble_eq_true rfl⟩ ⟨rfl, rfl⟩ (dd D_X9_clear 51 rfl)
        · refine lv_iconst (v := (0 : Int32)) F.1 F.2.1 (dd D_X9_clear 27 rfl) ki_0 ?_
          refine lv_goto (tgt := 60) F.1 F.2.1 (dd D_X9_clear 28 rfl) rfl ?_
          refine putF F hK hP hD hS lp_X9_116 (0) (mp_0 cA am s) (Nat.le_of_ble_eq_true rfl) (nar_int _) (fit_int _) (ws' := (mW cA am (m_set_notches s (0 : Int32)))) (ms_0_11 cA am s (0 : Int32)) (dd D_X9_clear 31 rfl) (fun H locs hP hD hS => ?_)
          refine lv_aload_n F.1 F.2.1 (dd D_X9_clear 32 rfl) rfl (lv_at hl 1 rfl) ?_
          refine lv_iload_n F.1 F.2.1 (dd D_X9_clear 33 rfl) rfl (lv_at hl 2 rfl) ?_
          refine lv_iconst (v := (1 : Int32)) F.1 F.2.1 (dd D_X9_clear 34 rfl) ki_1 ?_
          refine x_icmp_ne (tgt := 73) F.1 F.2.1 (dd D_X9_clear 35 rfl) rfl h (fun c7 h => ?_) (fun c7 h => ?_)
          · refine lv_aload_n F.1 F.2.1 (dd D_X9_clear 38 rfl) rfl (lv_at hl 1 rfl) ?_
            refine getF F hK hP lf_X9_127 (0) (mp_0 cA am (m_set_notches s (0 : Int32))) rfl (dd D_X9_clear 39 rfl) ?_
            refine putF F hK hP hD hS lp_X9_127 (0) (mp_0 cA am (m_set_notches s (0 : Int32))) (Nat.le_of_ble_eq_true rfl) (nar_int _) (fit_int _) (ws' := (mW cA am (m_set_stones (m_set_notches s (0 : Int32)) (m_stones (m_set_notches s (0 : Int32)))))) (ms_0_13 cA am (m_set_notches s (0 : Int32)) (m_stones (m_set_notches s (0 : Int32)))) (dd D_X9_clear 40 rfl) (fun H locs hP hD hS => ?_)
            refine lv_aload_n F.1 F.2.1 (dd D_X9_clear 41 rfl) rfl (lv_at hl 1 rfl) ?_
            refine lv_iload_n F.1 F.2.1 (dd D_X9_clear 42 rfl) rfl (lv_at hl 2 rfl) ?_
            refine lv_iconst (v := (2 : Int32)) F.1 F.2.1 (dd D_X9_clear 43 rfl) ki_2 ?_
            refine x_icmp_ne (tgt := 90) F.1 F.2.1 (dd D_X9_clear 44 rfl) rfl h (fun c8 h => ?_) (fun c8 h => ?_)
            · refine lv_aload_n F.1 F.2.1 (dd D_X9_clear 47 rfl) rfl (lv_at hl 1 rfl) ?_
              refine getF F hK hP lf_X9_130 (0) (mp_0 cA am (m_set_stones (m_set_notches s (0 : Int32)) (m_stones (m_set_notches s (0 : Int32))))) rfl (dd D_X9_clear 48 rfl) ?_
              refine putF F hK hP hD hS lp_X9_130 (0) (mp_0 cA am (m_set_stones (m_set_notches s (0 : Int32)) (m_stones (m_set_notches s (0 : Int32))))) (Nat.le_of_ble_eq_true rfl) (nar_int _) (fit_int _) (ws' := (mW cA am (m_set_clouds (m_set_stones (m_set_notches s (0 : Int32)) (m_stones (m_set_notches s (0 : Int32)))) (m_clouds (m_set_stones (m_set_notches s (0 : Int32)) (m_stones (m_set_notches s (0 : Int32)))))))) (ms_0_15 cA am (m_set_stones (m_set_notches s (0 : Int32)) (m_stones (m_set_notches s (0 : Int32)))) (m_clouds (m_set_stones (m_set_notches s (0 : Int32)) (m_stones (m_set_notches s (0 : Int32)))))) (dd D_X9_clear 49 rfl) (fun H locs hP hD hS => ?_)
              refine lv_iload_n F.1 F.2.1 (dd D_X9_clear 50 rfl) rfl (lv_at hl 0 rfl) ?_
              obtain rfl := Option.some.inj h
              exact rw_i (R := rmOf 1 0 0) F hP hD hS hr hlk ⟨Nat.le_of_ble_eq_true rfl, Nat.le_of_ble_eq_true rfl⟩ ⟨rfl, rfl⟩ (dd D_X9_clear 51 rfl)
            · refine lv_iconst (v := (0 : Int32)) F.1 F.2.1 (dd D_X9_clear 45 rfl) ki_0 ?_
              refine lv_goto (tgt := 94) F.1 F.2.1 (dd D_X9_clear 46 rfl) rfl ?_
              refine putF F hK hP hD hS lp_X9_130 (0) (mp_0 cA am (m_set_stones (m_set_notches s (0 : Int32)) (m_stones (m_set_notches s (0 : Int32))))) (Nat.le_of_ble_eq_true rfl) (nar_int _) (fit_int _) (ws' := (mW cA am (m_set_clouds (m_set_stones (m_set_notches s (0 : Int32)) (m_stones (m_set_notches s (0 : Int32)))) (0 : Int32)))) (ms_0_15 cA am (m_set_stones (m_set_notches s (0 : Int32)) (m_stones (m_set_notches s (0 : Int32)))) (0 : Int32)) (dd D_X9_clear 49 rfl) (fun H locs hP hD hS => ?_)
              refine lv_iload_n F.1 F.2.1 (dd D_X9_clear 50 rfl) rfl (lv_at hl 0 rfl) ?_
              obtain rfl := Option.some.inj h
              exact rw_i (R := rmOf 1 0 0) F hP hD hS hr hlk ⟨Nat.le_of_ble_eq_true rfl, Nat.le_of_ble_eq_true rfl⟩ ⟨rfl, rfl⟩ (dd D_X9_clear 51 rfl)
          · refine lv_iconst (v := (0 : Int32)) F.1 F.2.1 (dd D_X9_clear 36 rfl) ki_0 ?_
            refine lv_goto (tgt := 77) F.1 F.2.1 (dd D_X9_clear 37 rfl) rfl ?_
            refine putF F hK hP hD hS lp_X9_127 (0) (mp_0 cA am (m_set_notches s (0 : Int32))) (Nat.le_of_ble_eq_true rfl) (nar_int _) (fit_int _) (ws' := (mW cA am (m_set_stones (m_set_notches s (0 : Int32)) (0 : Int32)))) (ms_0_13 cA am (m_set_notches s (0 : Int32)) (0 : Int32)) (dd D_X9_clear 40 rfl) (fun H locs hP hD hS => ?_)
            refine lv_aload_n F.1 F.2.1 (dd D_X9_clear 41 rfl) rfl (lv_at hl 1 rfl) ?_
            refine lv_iload_n F.1 F.2.1 (dd D_X9_clear 42 rfl) rfl (lv_at hl 2 rfl) ?_
            refine lv_iconst (v := (2 : Int32)) F.1 F.2.1 (dd D_X9_clear 43 rfl) ki_2 ?_
            refine x_icmp_ne (tgt := 90) F.1 F.2.1 (dd D_X9_clear 44 rfl) rfl h (fun c9 h => ?_) (fun c9 h => ?_)
            · refine lv_aload_n F.1 F.2.1 (dd D_X9_clear 47 rfl) rfl (lv_at hl 1 rfl) ?_
              refine getF F hK hP lf_X9_130 (0) (mp_0 cA am (m_set_stones (m_set_notches s (0 : Int32)) (0 : Int32))) rfl (dd D_X9_clear 48 rfl) ?_
              refine putF F hK hP hD hS lp_X9_130 (0) (mp_0 cA am (m_set_stones (m_set_notches s (0 : Int32)) (0 : Int32))) (Nat.le_of_ble_eq_true rfl) (nar_int _) (fit_int _) (ws' := (mW cA am (m_set_clouds (m_set_stones (m_set_notches s (0 : Int32)) (0 : Int32)) (m_clouds (m_set_stones (m_set_notches s (0 : Int32)) (0 : Int32)))))) (ms_0_15 cA am (m_set_stones (m_set_notches s (0 : Int32)) (0 : Int32)) (m_clouds (m_set_stones (m_set_notches s (0 : Int32)) (0 : Int32)))) (dd D_X9_clear 49 rfl) (fun H locs hP hD hS => ?_)
              refine lv_iload_n F.1 F.2.1 (dd D_X9_clear 50 rfl) rfl (lv_at hl 0 rfl) ?_
              obtain rfl := Option.some.inj h
              exact rw_i (R := rmOf 1 0 0) F hP hD hS hr hlk ⟨Nat.le_of_ble_eq_true rfl, Nat.le_of_ble_eq_true rfl⟩ ⟨rfl, rfl⟩ (dd D_X9_clear 51 rfl)
            · refine lv_iconst (v := (0 : Int32)) F.1 F.2.1 (dd D_X9_clear 45 rfl) ki_0 ?_
              refine lv_goto (tgt := 94) F.1 F.2.1 (dd D_X9_clear 46 rfl) rfl ?_
              refine putF F hK hP hD hS lp_X9_130 (0) (mp_0 cA am (m_set_stones (m_set_notches s (0 : Int32)) (0 : Int32))) (Nat.le_of_ble_eq_true rfl) (nar_int _) (fit_int _) (ws' := (mW cA am (m_set_clouds (m_set_stones (m_set_notches s (0 : Int32)) (0 : Int32)) (0 : Int32)))) (ms_0_15 cA am (m_set_stones (m_set_notches s (0 : Int32)) (0 : Int32)) (0 : Int32)) (dd D_X9_clear 49 rfl) (fun H locs hP hD hS => ?_)
              refine lv_iload_n F.1 F.2.1 (dd D_X9_clear 50 rfl) rfl (lv_at hl 0 rfl) ?_
              obtain rfl := Option.some.inj h
              exact rw_i (R := rmOf 1 0 0) F hP hD hS hr hlk ⟨Nat.le_of_ble_eq_true rfl, Nat.le_of_ble_eq_true rfl⟩ ⟨rfl, rfl⟩ (dd D_X9_clear 51 rfl)
      · refine lv_aload_n F.1 F.2.1 (dd D_X9_clear 18 rfl) rfl (lv_at hl 0 rfl) ?_
        refine getF F hK hP lf_X9_127 (0) (mp_0 cA am s) rfl (dd D_X9_clear 19 rfl) ?_
        refine lv_goto (tgt := 46) F.1 F.2.1 (dd D_X9_clear 20 rfl) rfl ?_
        refine lv_istore_n (lv' := [(2, .int (m_stones s)), (0, .ref (am 0)), (1, .int p1)]) F.1 F.2.1 (dd D_X9_clear 23 rfl) rfl hl (Nat.le_of_ble_eq_true rfl) rfl (fun ls hl => ?_)
        refine lv_aload_n F.1 F.2.1 (dd D_X9_clear 24 rfl) rfl (lv_at hl 1 rfl) ?_
        refine lv_iload_n F.1 F.2.1 (dd D_X9_clear 25 rfl) rfl (lv_at hl 2 rfl) ?_
        refine x_if_ne (tgt := 56) F.1 F.2.1 (dd D_X9_clear 26 rfl) rfl h (fun c10 h => ?_) (fun c10 h => ?_)
        · refine lv_aload_n F.1 F.2.1 (dd D_X9_clear 29 rfl) rfl (lv_at hl 1 rfl) ?_
          refine getF F hK hP lf_X9_116 (0) (mp_0 cA am s) rfl (dd D_X9_clear 30 rfl) ?_
          refine putF F hK hP hD hS lp_X9_116 (0) (mp_0 cA am s) (Nat.le_of_ble_eq_true rfl) (nar_int _) (fit_int _) (ws' := (mW cA am (m_set_notches s (m_notches s)))) (ms_0_11 cA am s (m_notches s)) (dd D_X9_clear 31 rfl) (fun H locs hP hD hS => ?_)
          refine lv_aload_n F.1 F.2.1 (dd D_X9_clear 32 rfl) rfl (lv_at hl 1 rfl) ?_
          refine lv_iload_n F.1 F.2.1 (dd D_X9_clear 33 rfl) rfl (lv_at hl 2 rfl) ?_
          refine lv_iconst (v := (1 : Int32)) F.1 F.2.1 (dd D_X9_clear 34 rfl) ki_1 ?_
          refine x_icmp_ne (tgt := 73) F.1 F.2.1 (dd D_X9_clear 35 rfl) rfl h (fun c11 h => ?_) (fun c11 h => ?_)
          · refine lv_aload_n F.1 F.2.1 (dd D_X9_clear 38 rfl) rfl (lv_at hl 1 rfl) ?_
            refine getF F hK hP lf_X9_127 (0) (mp_0 cA am (m_set_notches s (m_notches s))) rfl (dd D_X9_clear 39 rfl) ?_
            refine putF F hK hP hD hS lp_X9_127 (0) (mp_0 cA am (m_set_notches s (m_notches s))) (Nat.le_of_ble_eq_true rfl) (nar_int _) (fit_int _) (ws' := (mW cA am (m_set_stones (m_set_notches s (m_notches s)) (m_stones (m_set_notches s (m_notches s)))))) (ms_0_13 cA am (m_set_notches s (m_notches s)) (m_stones (m_set_notches s (m_notches s)))) (dd D_X9_clear 40 rfl) (fun H locs hP hD hS => ?_)
            refine lv_aload_n F.1 F.2.1 (dd D_X9_clear 41 rfl) rfl (lv_at hl 1 rfl) ?_
            refine lv_iload_n F.1 F.2.1 (dd D_X9_clear 42 rfl) rfl (lv_at hl 2 rfl) ?_
            refine lv_iconst (v := (2 : Int32)) F.1 F.2.1 (dd D_X9_clear 43 rfl) ki_2 ?_
            refine x_icmp_ne (tgt := 90) F.1 F.2.1 (dd D_X9_clear 44 rfl) rfl h (fun c12 h => ?_) (fun c12 h => ?_)
            · refine lv_aload_n F.1 F.2.1 (dd D_X9_clear 47 rfl) rfl (lv_at hl 1 rfl) ?_
              refine getF F hK hP lf_X9_130 (0) (mp_0 cA am (m_set_stones (m_set_notches s (m_notches s)) (m_stones (m_set_notches s (m_notches s))))) rfl (dd D_X9_clear 48 rfl) ?_
              refine putF F hK hP hD hS lp_X9_130 (0) (mp_0 cA am (m_set_stones (m_set_notches s (m_notches s)) (m_stones (m_set_notches s (m_notches s))))) (Nat.le_of_ble_eq_true rfl) (nar_int _) (fit_int _) (ws' := (mW cA am (m_set_clouds (m_set_stones (m_set_notches s (m_notches s)) (m_stones (m_set_notches s (m_notches s)))) (m_clouds (m_set_stones (m_set_notches s (m_notches s)) (m_stones (m_set_notches s (m_notches s)))))))) (ms_0_15 cA am (m_set_stones (m_set_notches s (m_notches s)) (m_stones (m_set_notches s (m_notches s)))) (m_clouds (m_set_stones (m_set_notches s (m_notches s)) (m_stones (m_set_notches s (m_notches s)))))) (dd D_X9_clear 49 rfl) (fun H locs hP hD hS => ?_)
              refine lv_iload_n F.1 F.2.1 (dd D_X9_clear 50 rfl) rfl (lv_at hl 0 rfl) ?_
              obtain rfl := Option.some.inj h
              exact rw_i (R := rmOf 1 0 0) F hP hD hS hr hlk ⟨Nat.le_of_ble_eq_true rfl, Nat.le_of_ble_eq_true rfl⟩ ⟨rfl, rfl⟩ (dd D_X9_clear 51 rfl)
            · refine lv_iconst (v := (0 : Int32)) F.1 F.2.1 (dd D_X9_clear 45 rfl) ki_0 ?_
              refine lv_goto (tgt := 94) F.1 F.2.1 (dd D_X9_clear 46 rfl) rfl ?_
              refine putF F hK hP hD hS lp_X9_130 (0) (mp_0 cA am (m_set_stones (m_set_notches s (m_notches s)) (m_stones (m_set_notches s (m_notches s))))) (Nat.le_of_ble_eq_true rfl) (nar_int _) (fit_int _) (ws' := (mW cA am (m_set_clouds (m_set_stones (m_set_notches s (m_notches s)) (m_stones (m_set_notches s (m_notches s)))) (0 : Int32)))) (ms_0_15 cA am (m_set_stones (m_set_notches s (m_notches s)) (m_stones (m_set_notches s (m_notches s)))) (0 : Int32)) (dd D_X9_clear 49 rfl) (fun H locs hP hD hS => ?_)
              refine lv_iload_n F.1 F.2.1 (dd D_X9_clear 50 rfl) rfl (lv_at hl 0 rfl) ?_
              obtain rfl := Option.some.inj h
              exact rw_i (R := rmOf 1 0 0) F hP hD hS hr hlk ⟨Nat.le_of_ble_eq_true rfl, Nat.le_of_ble_eq_true rfl⟩ ⟨rfl, rfl⟩ (dd D_X9_clear 51 rfl)
          · refine lv_iconst (v := (0 : Int32)) F.1 F.2.1 (dd D_X9_clear 36 rfl) ki_0 ?_
            refine lv_goto (tgt := 77) F.1 F.2.1 (dd D_X9_clear 37 rfl) rfl ?_
            refine putF F hK hP hD hS lp_X9_127 (0) (mp_0 cA am (m_set_notches s (m_notches s))) (Nat.le_of_ble_eq_true rfl) (nar_int _) (fit_int _) (ws' := (mW cA am (m_set_stones (m_set_notches s (m_notches s)) (0 : Int32)))) (ms_0_13 cA am (m_set_notches s (m_notches s)) (0 : Int32)) (dd D_X9_clear 40 rfl) (fun H locs hP hD hS => ?_)
            refine lv_aload_n F.1 F.2.1 (dd D_X9_clear 41 rfl) rfl (lv_at hl 1 rfl) ?_
            refine lv_iload_n F.1 F.2.1 (dd D_X9_clear 42 rfl) rfl (lv_at hl 2 rfl) ?_
            refine lv_iconst (v := (2 : Int32)) F.1 F.2.1 (dd D_X9_clear 43 rfl) ki_2 ?_
            refine x_icmp_ne (tgt := 90) F.1 F.2.1 (dd D_X9_clear 44 rfl) rfl h (fun c13 h => ?_) (fun c13 h => ?_)
            · refine lv_aload_n F.1 F.2.1 (dd D_X9_clear 47 rfl) rfl (lv_at hl 1 rfl) ?_
              refine getF F hK hP lf_X9_130 (0) (mp_0 cA am (m_set_stones (m_set_notches s (m_notches s)) (0 : Int32))) rfl (dd D_X9_clear 48 rfl) ?_
              refine putF F hK hP hD hS lp_X9_130 (0) (mp_0 cA am (m_set_stones (m_set_notches s (m_notches s)) (0 : Int32))) (Nat.le_of_ble_eq_true rfl) (nar_int _) (fit_int _) (ws' := (mW cA am (m_set_clouds (m_set_stones (m_set_notches s (m_notches s)) (0 : Int32)) (m_clouds (m_set_stones (m_set_notches s (m_notches s)) (0 : Int32)))))) (ms_0_15 cA am (m_set_stones (m_set_notches s (m_notches s)) (0 : Int32)) (m_clouds (m_set_stones (m_set_notches s (m_notches s)) (0 : Int32)))) (dd D_X9_clear 49 rfl) (fun H locs hP hD hS => ?_)
              refine lv_iload_n F.1 F.2.1 (dd D_X9_clear 50 rfl) rfl (lv_at hl 0 rfl) ?_
              obtain rfl := Option.some.inj h
              exact rw_i (R := rmOf 1 0 0) F hP hD hS hr hlk ⟨Nat.le_of_ble_eq_true rfl, Nat.le_of_ble_eq_true rfl⟩ ⟨rfl, rfl⟩ (dd D_X9_clear 51 rfl)
            · refine lv_iconst (v := (0 : Int32)) F.1 F.2.1 (dd D_X9_clear 45 rfl) ki_0 ?_
              refine lv_goto (tgt := 94) F.1 F.2.1 (dd D_X9_clear 46 rfl) rfl ?_
              refine putF F hK hP hD hS lp_X9_130 (0) (mp_0 cA am (m_set_stones (m_set_notches s (m_notches s)) (0 : Int32))) (Nat.le_of_ble_eq_true rfl) (nar_int _) (fit_int _) (ws' := (mW cA am (m_set_clouds (m_set_stones (m_set_notches s (m_notches s)) (0 : Int32)) (0 : Int32)))) (ms_0_15 cA am (m_set_stones (m_set_notches s (m_notches s)) (0 : Int32)) (0 : Int32)) (dd D_X9_clear 49 rfl) (fun H locs hP hD hS => ?_)
              refine lv_iload_n F.1 F.2.1 (dd D_X9_clear 50 rfl) rfl (lv_at hl 0 rfl) ?_
              obtain rfl := Option.some.inj h
              exact rw_i (R := rmOf 1 0 0) F hP hD hS hr hlk ⟨Nat.le_of_ble_eq_true rfl, Nat.le_of_ble_eq_true rfl⟩ ⟨rfl, rfl⟩ (dd D_X9_clear 51 rfl)
        · refine lv_iconst (v := (0 : Int32)) F.1 F.2.1 (dd D_X9_clear 27 rfl) ki_0 ?_
          refine lv_goto (tgt := 60) F.1 F.2.1 (dd D_X9_clear 28 rfl) rfl ?_
          refine putF F hK hP hD hS lp_X9_116 (0) (mp_0 cA am s) (Nat.le_of_ble_eq_true rfl) (nar_int _) (fit_int _) (ws' := (mW cA am (m_set_notches s (0 : Int32)))) (ms_0_11 cA am s (0 : Int32)) (dd D_X9_clear 31 rfl) (fun H locs hP hD hS => ?_)
          refine lv_aload_n F.1 F.2.1 (dd D_X9_clear 32 rfl) rfl (lv_at hl 1 rfl) ?_
          refine lv_iload_n F.1 F.2.1 (dd D_X9_clear 33 rfl) rfl (lv_at hl 2 rfl) ?_
          refine lv_iconst (v := (1 : Int32)) F.1 F.2.1 (dd D_X9_clear 34 rfl) ki_1 ?_
          refine x_icmp_ne (tgt := 73) F.1 F.2.1 (dd D_X9_clear 35 rfl) rfl h (fun c14 h => ?_) (fun c14 h => ?_)
          · refine lv_aload_n F.1 F.2.1 (dd D_X9_clear 38 rfl) rfl (lv_at hl 1 rfl) ?_
            refine getF F hK hP lf_X9_127 (0) (mp_0 cA am (m_set_notches s (0 : Int32))) rfl (dd D_X9_clear 39 rfl) ?_
            refine putF F hK hP hD hS lp_X9_127 (0) (mp_0 cA am (m_set_notches s (0 : Int32))) (Nat.le_of_ble_eq_true rfl) (nar_int _) (fit_int _) (ws' := (mW cA am (m_set_stones (m_set_notches s (0 : Int32)) (m_stones (m_set_notches s (0 : Int32)))))) (ms_0_13 cA am (m_set_notches s (0 : Int32)) (m_stones (m_set_notches s (0 : Int32)))) (dd D_X9_clear 40 rfl) (fun H locs hP hD hS => ?_)
            refine lv_aload_n F.1 F.2.1 (dd D_X9_clear 41 rfl) rfl (lv_at hl 1 rfl) ?_
            refine lv_iload_n F.1 F.2.1 (dd D_X9_clear 42 rfl) rfl (lv_at hl 2 rfl) ?_
            refine lv_iconst (v := (2 : Int32)) F.1 F.2.1 (dd D_X9_clear 43 rfl) ki_2 ?_
            refine x_icmp_ne (tgt := 90) F.1 F.2.1 (dd D_X9_clear 44 rfl) rfl h (fun c15 h => ?_) (fun c15 h => ?_)
            · refine lv_aload_n F.1 F.2.1 (dd D_X9_clear 47 rfl) rfl (lv_at hl 1 rfl) ?_
              refine getF F hK hP lf_X9_130 (0) (mp_0 cA am (m_set_stones (m_set_notches s (0 : Int32)) (m_stones (m_set_notches s (0 : Int32))))) rfl (dd D_X9_clear 48 rfl) ?_
              refine putF F hK hP hD hS lp_X9_130 (0) (mp_0 cA am (m_set_stones (m_set_notches s (0 : Int32)) (m_stones (m_set_notches s (0 : Int32))))) (Nat.le_of_ble_eq_true rfl) (nar_int _) (fit_int _) (ws' := (mW cA am (m_set_clouds (m_set_stones (m_set_notches s (0 : Int32)) (m_stones (m_set_notches s (0 : Int32)))) (m_clouds (m_set_stones (m_set_notches s (0 : Int32)) (m_stones (m_set_notches s (0 : Int32)))))))) (ms_0_15 cA am (m_set_stones (m_set_notches s (0 : Int32)) (m_stones (m_set_notches s (0 : Int32)))) (m_clouds (m_set_stones (m_set_notches s (0 : Int32)) (m_stones (m_set_notches s (0 : Int32)))))) (dd D_X9_clear 49 rfl) (fun H locs hP hD hS => ?_)
              refine lv_iload_n F.1 F.2.1 (dd D_X9_clear 50 rfl) rfl (lv_at hl 0 rfl) ?_
              obtain rfl := Option.some.inj h
              exact rw_i (R := rmOf 1 0 0) F hP hD hS hr hlk ⟨Nat.le_of_ble_eq_true rfl, Nat.le_of_ble_eq_true rfl⟩ ⟨rfl, rfl⟩ (dd D_X9_clear 51 rfl)
            · refine lv_iconst (v := (0 : Int32)) F.1 F.2.1 (dd D_X9_clear 45 rfl) ki_0 ?_
              refine lv_goto (tgt := 94) F.1 F.2.1 (dd D_X9_clear 46 rfl) rfl ?_
              refine putF F hK hP hD hS lp_X9_130 (0) (mp_0 cA am (m_set_stones (m_set_notches s (0 : Int32)) (m_stones (m_set_notches s (0 : Int32))))) (Nat.le_of_ble_eq_true rfl) (nar_int _) (fit_int _) (ws' := (mW cA am (m_set_clouds (m_set_stones (m_set_notches s (0 : Int32)) (m_stones (m_set_notches s (0 : Int32)))) (0 : Int32)))) (ms_0_15 cA am (m_set_stones (m_set_notches s (0 : Int32)) (m_stones (m_set_notches s (0 : Int32)))) (0 : Int32)) (dd D_X9_clear 49 rfl) (fun H locs hP hD hS => ?_)
              refine lv_iload_n F.1 F.2.1 (dd D_X9_clear 50 rfl) rfl (lv_at hl 0 rfl) ?_
              obtain rfl := Option.some.inj h
              exact rw_i (R := rmOf 1 0 0) F hP hD hS hr hlk ⟨Nat.le_of_ble_eq_true rfl, Nat.le_of_ble_eq_true rfl⟩ ⟨rfl, rfl⟩ (dd D_X9_clear 51 rfl)
          · refine lv_iconst (v := (0 : Int32)) F.1 F.2.1 (dd D_X9_clear 36 rfl) ki_0 ?_
            refine lv_goto (tgt := 77) F.1 F.2.1 (dd D_X9_clear 37 rfl) rfl ?_
            refine putF F hK hP hD hS lp_X9_127 (0) (mp_0 cA am (m_set_notches s (0 : Int32))) (Nat.le_of_ble_eq_true rfl) (nar_int _) (fit_int _) (ws' := (mW cA am (m_set_stones (m_set_notches s (0 : Int32)) (0 : Int32)))) (ms_0_13 cA am (m_set_notches s (0 : Int32)) (0 : Int32)) (dd D_X9_clear 40 rfl) (fun H locs hP hD hS => ?_)
            refine lv_aload_n F.1 F.2.1 (dd D_X9_clear 41 rfl) rfl (lv_at hl 1 rfl) ?_
            refine lv_iload_n F.1 F.2.1 (dd D_X9_clear 42 rfl) rfl (lv_at hl 2 rfl) ?_
            refine lv_iconst (v := (2 : Int32)) F.1 F.2.1 (dd D_X9_clear 43 rfl) ki_2 ?_
            refine x_icmp_ne (tgt := 90) F.1 F.2.1 (dd D_X9_clear 44 rfl) rfl h (fun c16 h => ?_) (fun c16 h => ?_)
            · refine lv_aload_n F.1 F.2.1 (dd D_X9_clear 47 rfl) rfl (lv_at hl 1 rfl) ?_
              refine getF F hK hP lf_X9_130 (0) (mp_0 cA am (m_set_stones (m_set_notches s (0 : Int32)) (0 : Int32))) rfl (dd D_X9_clear 48 rfl) ?_
              refine putF F hK hP hD hS lp_X9_130 (0) (mp_0 cA am (m_set_stones (m_set_notches s (0 : Int32)) (0 : Int32))) (Nat.le_of_ble_eq_true rfl) (nar_int _) (fit_int _) (ws' := (mW cA am (m_set_clouds (m_set_stones (m_set_notches s (0 : Int32)) (0 : Int32)) (m_clouds (m_set_stones (m_set_notches s (0 : Int32)) (0 : Int32)))))) (ms_0_15 cA am (m_set_stones (m_set_notches s (0 : Int32)) (0 : Int32)) (m_clouds (m_set_stones (m_set_notches s (0 : Int32)) (0 : Int32)))) (dd D_X9_clear 49 rfl) (fun H locs hP hD hS => ?_)
              refine lv_iload_n F.1 F.2.1 (dd D_X9_clear 50 rfl) rfl (lv_at hl 0 rfl) ?_
              obtain rfl := Option.some.inj h
              exact rw_i (R := rmOf 1 0 0) F hP hD hS hr hlk ⟨Nat.le_of_ble_eq_true rfl, Nat.le_of_ble_eq_true rfl⟩ ⟨rfl, rfl⟩ (dd D_X9_clear 51 rfl)
            · refine lv_iconst (v := (0 : Int32)) F.1 F.2.1 (dd D_X9_clear 45 rfl) ki_0 ?_
              refine lv_goto (tgt := 94) F.1 F.2.1 (dd D_X9_clear 46 rfl) rfl ?_
              refine putF F hK hP hD hS lp_X9_130 (0) (mp_0 cA am (m_set_stones (m_set_notches s (0 : Int32)) (0 : Int32))) (Nat.le_of_ble_eq_true rfl) (nar_int _) (fit_int _) (ws' := (mW cA am (m_set_clouds (m_set_stones (m_set_notches s (0 : Int32)) (0 : Int32)) (0 : Int32)))) (ms_0_15 cA am (m_set_stones (m_set_notches s (0 : Int32)) (0 : Int32)) (0 : Int32)) (dd D_X9_clear 49 rfl) (fun H locs hP hD hS => ?_)
              refine lv_iload_n F.1 F.2.1 (dd D_X9_clear 50 rfl) rfl (lv_at hl 0 rfl) ?_
              obtain rfl := Option.some.inj h
              exact rw_i (R := rmOf 1 0 0) F hP hD hS hr hlk ⟨Nat.le_of_ble_eq_true rfl, Nat.le_of_ble_eq_true rfl⟩ ⟨rfl, rfl⟩ (dd D_X9_clear 51 rfl)
    · refine lv_aload_n F.1 F.2.1 (dd D_X9_clear 12 rfl) rfl (lv_at hl 0 rfl) ?_
      refine getF F hK hP lf_X9_116 (0) (mp_0 cA am s) rfl (dd D_X9_clear 13 rfl) ?_
      refine lv_goto (tgt := 46) F.1 F.2.1 (dd D_X9_clear 14 rfl) rfl ?_
      refine lv_istore_n (lv' := [(2, .int (m_notches s)), (0, .ref (am 0)), (1, .int p1)]) F.1 F.2.1 (dd D_X9_clear 23 rfl) rfl hl (Nat.le_of_ble_eq_true rfl) rfl (fun ls hl => ?_)
      refine lv_aload_n F.1 F.2.1 (dd D_X9_clear 24 rfl) rfl (lv_at hl 1 rfl) ?_
      refine lv_iload_n F.1 F.2.1 (dd D_X9_clear 25 rfl) rfl (lv_at hl 2 rfl) ?_
      refine x_if_ne (tgt := 56) F.1 F.2.1 (dd D_X9_clear 26 rfl) rfl h (fun c17 h => ?_) (fun c17 h => ?_)
      · refine lv_aload_n F.1 F.2.1 (dd D_X9_clear 29 rfl) rfl (lv_at hl 1 rfl) ?_
        refine getF F hK hP lf_X9_116 (0) (mp_0 cA am s) rfl (dd D_X9_clear 30 rfl) ?_
        refine putF F hK hP hD hS lp_X9_116 (0) (mp_0 cA am s) (Nat.le_of_ble_eq_true rfl) (nar_int _) (fit_int _) (ws' := (mW cA am (m_set_notches s (m_notches s)))) (ms_0_11 cA am s (m_notches s)) (dd D_X9_clear 31 rfl) (fun H locs hP hD hS => ?_)
        refine lv_aload_n F.1 F.2.1 (dd D_X9_clear 32 rfl) rfl (lv_at hl 1 rfl) ?_
        refine lv_iload_n F.1 F.2.1 (dd D_X9_clear 33 rfl) rfl (lv_at hl 2 rfl) ?_
        refine lv_iconst (v := (1 : Int32)) F.1 F.2.1 (dd D_X9_clear 34 rfl) ki_1 ?_
        refine x_icmp_ne (tgt := 73) F.1 F.2.1 (dd D_X9_clear 35 rfl) rfl h (fun c18 h => ?_) (fun c18 h => ?_)
        · refine lv_aload_n F.1 F.2.1 (dd D_X9_clear 38 rfl) rfl (lv_at hl 1 rfl) ?_
          refine getF F hK hP lf_X9_127 (0) (mp_0 cA am (m_set_notches s (m_notches s))) rfl (dd D_X9_clear 39 rfl) ?_
          refine putF F hK hP hD hS lp_X9_127 (0) (mp_0 cA am (m_set_notches s (m_notches s))) (Nat.le_of_ble_eq_true rfl) (nar_int _) (fit_int _) (ws' := (mW cA am (m_set_stones (m_set_notches s (m_notches s)) (m_stones (m_set_notches s (m_notches s)))))) (ms_0_13 cA am (m_set_notches s (m_notches s)) (m_stones (m_set_notches s (m_notches s)))) (dd D_X9_clear 40 rfl) (fun H locs hP hD hS => ?_)
          refine lv_aload_n F.1 F.2.1 (dd D_X9_clear 41 rfl) rfl (lv_at hl 1 rfl) ?_
          refine lv_iload_n F.1 F.2.1 (dd D_X9_clear 42 rfl) rfl (lv_at hl 2 rfl) ?_
          refine lv_iconst (v := (2 : Int32)) F.1 F.2.1 (dd D_X9_clear 43 rfl) ki_2 ?_
          refine x_icmp_ne (tgt := 90) F.1 F.2.1 (dd D_X9_clear 44 rfl) rfl h (fun c19 h => ?_) (fun c19 h => ?_)
          · refine lv_aload_n F.1 F.2.1 (dd D_X9_clear 47 rfl) rfl (lv_at hl 1 rfl) ?_
            refine getF F hK hP lf_X9_130 (0) (mp_0 cA am (m_set_stones (m_set_notches s (m_notches s)) (m_stones (m_set_notches s (m_notches s))))) rfl (dd D_X9_clear 48 rfl) ?_
            refine putF F hK hP hD hS lp_X9_130 (0) (mp_0 cA am (m_set_stones (m_set_notches s (m_notches s)) (m_stones (m_set_notches s (m_notches s))))) (Nat.le_of_ble_eq_true rfl) (nar_int _) (fit_int _) (ws' := (mW cA am (m_set_clouds (m_set_stones (m_set_notches s (m_notches s)) (m_stones (m_set_notches s (m_notches s)))) (m_clouds (m_set_stones (m_set_notches s (m_notches s)) (m_stones (m_set_notches s (m_notches s)))))))) (ms_0_15 cA am (m_set_stones (m_set_notches s (m_notches s)) (m_stones (m_set_notches s (m_notches s)))) (m_clouds (m_set_stones (m_set_notches s (m_notches s)) (m_stones (m_set_notches s (m_notches s)))))) (dd D_X9_clear 49 rfl) (fun H locs hP hD hS => ?_)
            refine lv_iload_n F.1 F.2.1 (dd D_X9_clear 50 rfl) rfl (lv_at hl 0 rfl) ?_
            obtain rfl := Option.some.inj h
            exact rw_i (R := rmOf 1 0 0) F hP hD hS hr hlk ⟨Nat.le_of_ble_eq_true rfl, Nat.le_of_ble_eq_true rfl⟩ ⟨rfl, rfl⟩ (dd D_X9_clear 51 rfl)
          · refine lv_iconst (v := (0 : Int32)) F.1 F.2.1 (dd D_X9_clear 45 rfl) ki_0 ?_
            refine lv_goto (tgt := 94) F.1 F.2.1 (dd D_X9_clear 46 rfl) rfl ?_
            refine putF F hK hP hD hS lp_X9_130 (0) (mp_0 cA am (m_set_stones (m_set_notches s (m_notches s)) (m_stones (m_set_notches s (m_notches s))))) (Nat.le_of_ble_eq_true rfl) (nar_int _) (fit_int _) (ws' := (mW cA am (m_set_clouds (m_set_stones (m_set_notches s (m_notches s)) (m_stones (m_set_notches s (m_notches s)))) (0 : Int32)))) (ms_0_15 cA am (m_set_stones (m_set_notches s (m_notches s)) (m_stones (m_set_notches s (m_notches s)))) (0 : Int32)) (dd D_X9_clear 49 rfl) (fun H locs hP hD hS => ?_)
            refine lv_iload_n F.1 F.2.1 (dd D_X9_clear 50 rfl) rfl (lv_at hl 0 rfl) ?_
            obtain rfl := Option.some.inj h
            exact rw_i (R := rmOf 1 0 0) F hP hD hS hr hlk ⟨Nat.le_of_ble_eq_true rfl, Nat.le_of_ble_eq_true rfl⟩ ⟨rfl, rfl⟩ (dd D_X9_clear 51 rfl)
        · refine lv_iconst (v := (0 : Int32)) F.1 F.2.1 (dd D_X9_clear 36 rfl) ki_0 ?_
          refine lv_goto (tgt := 77) F.1 F.2.1 (dd D_X9_clear 37 rfl) rfl ?_
          refine putF F hK hP hD hS lp_X9_127 (0) (mp_0 cA am (m_set_notches s (m_notches s))) (Nat.le_of_ble_eq_true rfl) (nar_int _) (fit_int _) (ws' := (mW cA am (m_set_stones (m_set_notches s (m_notches s)) (0 : Int32)))) (ms_0_13 cA am (m_set_notches s (m_notches s)) (0 : Int32)) (dd D_X9_clear 40 rfl) (fun H locs hP hD hS => ?_)
          refine lv_aload_n F.1 F.2.1 (dd D_X9_clear 41 rfl) rfl (lv_at hl 1 rfl) ?_
          refine lv_iload_n F.1 F.2.1 (dd D_X9_clear 42 rfl) rfl (lv_at hl 2 rfl) ?_
          refine lv_iconst (v := (2 : Int32)) F.1 F.2.1 (dd D_X9_clear 43 rfl) ki_2 ?_
          refine x_icmp_ne (tgt := 90) F.1 F.2.1 (dd D_X9_clear 44 rfl) rfl h (fun c20 h => ?_) (fun c20 h => ?_)
          · refine lv_aload_n F.1 F.2.1 (dd D_X9_clear 47 rfl) rfl (lv_at hl 1 rfl) ?_
            refine getF F hK hP lf_X9_130 (0) (mp_0 cA am (m_set_stones (m_set_notches s (m_notches s)) (0 : Int32))) rfl (dd D_X9_clear 48 rfl) ?_
            refine putF F hK hP hD hS lp_X9_130 (0) (mp_0 cA am (m_set_stones (m_set_notches s (m_notches s)) (0 : Int32))) (Nat.le_of_ble_eq_true rfl) (nar_int _) (fit_int _) (ws' := (mW cA am (m_set_clouds (m_set_stones (m_set_notches s (m_notches s)) (0 : Int32)) (m_clouds (m_set_stones (m_set_notches s (m_notches s)) (0 : Int32)))))) (ms_0_15 cA am (m_set_stones (m_set_notches s (m_notches s)) (0 : Int32)) (m_clouds (m_set_stones (m_set_notches s (m_notches s)) (0 : Int32)))) (dd D_X9_clear 49 rfl) (fun H locs hP hD hS => ?_)
            refine lv_iload_n F.1 F.2.1 (dd D_X9_clear 50 rfl) rfl (lv_at hl 0 rfl) ?_
            obtain rfl := Option.some.inj h
            exact rw_i (R := rmOf 1 0 0) F hP hD hS hr hlk ⟨Nat.le_of_ble_eq_true rfl, Nat.le_of_ble_eq_true rfl⟩ ⟨rfl, rfl⟩ (dd D_X9_clear 51 rfl)
          · refine lv_iconst (v := (0 : Int32)) F.1 F.2.1 (dd D_X9_clear 45 rfl) ki_0 ?_
            refine lv_goto (tgt := 94) F.1 F.2.1 (dd D_X9_clear 46 rfl) rfl ?_
            refine putF F hK hP hD hS lp_X9_130 (0) (mp_0 cA am (m_set_stones (m_set_notches s (m_notches s)) (0 : Int32))) (Nat.le_of_ble_eq_true rfl) (nar_int _) (fit_int _) (ws' := (mW cA am (m_set_clouds (m_set_stones (m_set_notches s (m_notches s)) (0 : Int32)) (0 : Int32)))) (ms_0_15 cA am (m_set_stones (m_set_notches s (m_notches s)) (0 : Int32)) (0 : Int32)) (dd D_X9_clear 49 rfl) (fun H locs hP hD hS => ?_)
            refine lv_iload_n F.1 F.2.1 (dd D_X9_clear 50 rfl) rfl (lv_at hl 0 rfl) ?_
            obtain rfl := Option.some.inj h
            exact rw_i (R := rmOf 1 0 0) F hP hD hS hr hlk ⟨Nat.le_of_ble_eq_true rfl, Nat.le_of_ble_eq_true rfl⟩ ⟨rfl, rfl⟩ (dd D_X9_clear 51 rfl)
      · refine lv_iconst (v := (0 : Int32)) F.1 F.2.1 (dd D_X9_clear 27 rfl) ki_0 ?_
        refine lv_goto (tgt := 60) F.1 F.2.1 (dd D_X9_clear 28 rfl) rfl ?_
        refine putF F hK hP hD hS lp_X9_116 (0) (mp_0 cA am s) (Nat.le_of_ble_eq_true rfl) (nar_int _) (fit_int _) (ws' := (mW cA am (m_set_notches s (0 : Int32)))) (ms_0_11 cA am s (0 : Int32)) (dd D_X9_clear 31 rfl) (fun H locs hP hD hS => ?_)
        refine lv_aload_n F.1 F.2.1 (dd D_X9_clear 32 rfl) rfl (lv_at hl 1 rfl) ?_
        refine lv_iload_n F.1 F.2.1 (dd D_X9_clear 33 rfl) rfl (lv_at hl 2 rfl) ?_
        refine lv_iconst (v := (1 : Int32)) F.1 F.2.1 (dd D_X9_clear 34 rfl) ki_1 ?_
        refine x_icmp_ne (tgt := 73) F.1 F.2.1 (dd D_X9_clear 35 rfl) rfl h (fun c21 h => ?_) (fun c21 h => ?_)
        · refine lv_aload_n F.1 F.2.1 (dd D_X9_clear 38 rfl) rfl (lv_at hl 1 rfl) ?_
          refine getF F hK hP lf_X9_127 (0) (mp_0 cA am (m_set_notches s (0 : Int32))) rfl (dd D_X9_clear 39 rfl) ?_
          refine putF F hK hP hD hS lp_X9_127 (0) (mp_0 cA am (m_set_notches s (0 : Int32))) (Nat.le_of_ble_eq_true rfl) (nar_int _) (fit_int _) (ws' := (mW cA am (m_set_stones (m_set_notches s (0 : Int32)) (m_stones (m_set_notches s (0 : Int32)))))) (ms_0_13 cA am (m_set_notches s (0 : Int32)) (m_stones (m_set_notches s (0 : Int32)))) (dd D_X9_clear 40 rfl) (fun H locs hP hD hS => ?_)
          refine lv_aload_n F.1 F.2.1 (dd D_X9_clear 41 rfl) rfl (lv_at hl 1 rfl) ?_
          refine lv_iload_n F.1 F.2.1 (dd D_X9_clear 42 rfl) rfl (lv_at hl 2 rfl) ?_
          refine lv_iconst (v := (2 : Int32)) F.1 F.2.1 (dd D_X9_clear 43 rfl) ki_2 ?_
          refine x_icmp_ne (tgt := 90) F.1 F.2.1 (dd D_X9_clear 44 rfl) rfl h (fun c22 h => ?_) (fun c22 h => ?_)
          · refine lv_aload_n F.1 F.2.1 (dd D_X9_clear 47 rfl) rfl (lv_at hl 1 rfl) ?_
            refine getF F hK hP lf_X9_130 (0) (mp_0 cA am (m_set_stones (m_set_notches s (0 : Int32)) (m_stones (m_set_notches s (0 : Int32))))) rfl (dd D_X9_clear 48 rfl) ?_
            refine putF F hK hP hD hS lp_X9_130 (0) (mp_0 cA am (m_set_stones (m_set_notches s (0 : Int32)) (m_stones (m_set_notches s (0 : Int32))))) (Nat.le_of_ble_eq_true rfl) (nar_int _) (fit_int _) (ws' := (mW cA am (m_set_clouds (m_set_stones (m_set_notches s (0 : Int32)) (m_stones (m_set_notches s (0 : Int32)))) (m_clouds (m_set_stones (m_set_notches s (0 : Int32)) (m_stones (m_set_notches s (0 : Int32)))))))) (ms_0_15 cA am (m_set_stones (m_set_notches s (0 : Int32)) (m_stones (m_set_notches s (0 : Int32)))) (m_clouds (m_set_stones (m_set_notches s (0 : Int32)) (m_stones (m_set_notches s (0 : Int32)))))) (dd D_X9_clear 49 rfl) (fun H locs hP hD hS => ?_)
            refine lv_iload_n F.1 F.2.1 (dd D_X9_clear 50 rfl) rfl (lv_at hl 0 rfl) ?_
            obtain rfl := Option.some.inj h
            exact rw_i (R := rmOf 1 0 0) F hP hD hS hr hlk ⟨Nat.le_of_ble_eq_true rfl, Nat.le_of_ble_eq_true rfl⟩ ⟨rfl, rfl⟩ (dd D_X9_clear 51 rfl)
          · refine lv_iconst (v := (0 : Int32)) F.1 F.2.1 (dd D_X9_clear 45 rfl) ki_0 ?_
            refine lv_goto (tgt := 94) F.1 F.2.1 (dd D_X9_clear 46 rfl) rfl ?_
            refine putF F hK hP hD hS lp_X9_130 (0) (mp_0 cA am (m_set_stones (m_set_notches s (0 : Int32)) (m_stones (m_set_notches s (0 : Int32))))) (Nat.le_of_ble_eq_true rfl) (nar_int _) (fit_int _) (ws' := (mW cA am (m_set_clouds (m_set_stones (m_set_notches s (0 : Int32)) (m_stones (m_set_notches s (0 : Int32)))) (0 : Int32)))) (ms_0_15 cA am (m_set_stones (m_set_notches s (0 : Int32)) (m_stones (m_set_notches s (0 : Int32)))) (0 : Int32)) (dd D_X9_clear 49 rfl) (fun H locs hP hD hS => ?_)
            refine lv_iload_n F.1 F.2.1 (dd D_X9_clear 50 rfl) rfl (lv_at hl 0 rfl) ?_
            obtain rfl := Option.some.inj h
            exact rw_i (R := rmOf 1 0 0) F hP hD hS hr hlk ⟨Nat.le_of_ble_eq_true rfl, Nat.le_of_ble_eq_true rfl⟩ ⟨rfl, rfl⟩ (dd D_X9_clear 51 rfl)
        · refine lv_iconst (v := (0 : Int32)) F.1 F.2.1 (dd D_X9_clear 36 rfl) ki_0 ?_
          refine lv_goto (tgt := 77) F.1 F.2.1 (dd D_X9_clear 37 rfl) rfl ?_
          refine putF F hK hP hD hS lp_X9_127 (0) (mp_0 cA am (m_set_notches s (0 : Int32))) (Nat.le_of_ble_eq_true rfl) (nar_int _) (fit_int _) (ws' := (mW cA am (m_set_stones (m_set_notches s (0 : Int32)) (0 : Int32)))) (ms_0_13 cA am (m_set_notches s (0 : Int32)) (0 : Int32)) (dd D_X9_clear 40 rfl) (fun H locs hP hD hS => ?_)
          refine lv_aload_n F.1 F.2.1 (dd D_X9_clear 41 rfl) rfl (lv_at hl 1 rfl) ?_
          refine lv_iload_n F.1 F.2.1 (dd D_X9_clear 42 rfl) rfl (lv_at hl 2 rfl) ?_
          refine lv_iconst (v := (2 : Int32)) F.1 F.2.1 (dd D_X9_clear 43 rfl) ki_2 ?_
          refine x_icmp_ne (tgt := 90) F.1 F.2.1 (dd D_X9_clear 44 rfl) rfl h (fun c23 h => ?_) (fun c23 h => ?_)
          · refine lv_aload_n F.1 F.2.1 (dd D_X9_clear 47 rfl) rfl (lv_at hl 1 rfl) ?_
            refine getF F hK hP lf_X9_130 (0) (mp_0 cA am (m_set_stones (m_set_notches s (0 : Int32)) (0 : Int32))) rfl (dd D_X9_clear 48 rfl) ?_
            refine putF F hK hP hD hS lp_X9_130 (0) (mp_0 cA am (m_set_stones (m_set_notches s (0 : Int32)) (0 : Int32))) (Nat.le_of_ble_eq_true rfl) (nar_int _) (fit_int _) (ws' := (mW cA am (m_set_clouds (m_set_stones (m_set_notches s (0 : Int32)) (0 : Int32)) (m_clouds (m_set_stones (m_set_notches s (0 : Int32)) (0 : Int32)))))) (ms_0_15 cA am (m_set_stones (m_set_notches s (0 : Int32)) (0 : Int32)) (m_clouds (m_set_stones (m_set_notches s (0 : Int32)) (0 : Int32)))) (dd D_X9_clear 49 rfl) (fun H locs hP hD hS => ?_)
            refine lv_iload_n F.1 F.2.1 (dd D_X9_clear 50 rfl) rfl (lv_at hl 0 rfl) ?_
            obtain rfl := Option.some.inj h
            exact rw_i (R := rmOf 1 0 0) F hP hD hS hr hlk ⟨Nat.le_of_ble_eq_true rfl, Nat.le_of_ble_eq_true rfl⟩ ⟨rfl, rfl⟩ (dd D_X9_clear 51 rfl)
          · refine lv_iconst (v := (0 : Int32)) F.1 F.2.1 (dd D_X9_clear 45 rfl) ki_0 ?_
            refine lv_goto (tgt := 94) F.1 F.2.1 (dd D_X9_clear 46 rfl) rfl ?_
            refine putF F hK hP hD hS lp_X9_130 (0) (mp_0 cA am (m_set_stones (m_set_notches s (0 : Int32)) (0 : Int32))) (Nat.le_of_ble_eq_true rfl) (nar_int _) (fit_int _) (ws' := (mW cA am (m_set_clouds (m_set_stones (m_set_notches s (0 : Int32)) (0 : Int32)) (0 : Int32)))) (ms_0_15 cA am (m_set_stones (m_set_notches s (0 : Int32)) (0 : Int32)) (0 : Int32)) (dd D_X9_clear 49 rfl) (fun H locs hP hD hS => ?_)
            refine lv_iload_n F.1 F.2.1 (dd D_X9_clear 50 rfl) rfl (lv_at hl 0 rfl) ?_
            obtain rfl := Option.some.inj h
            exact rw_i (R := rmOf 1 0 0) F hP hD hS hr hlk ⟨Nat.le_of_ble_eq_true rfl, Nat.le_of_ble_eq_true rfl⟩ ⟨rfl, rfl⟩ (dd D_X9_clear 51 rfl)
  · refine lv_aload_n F.1 F.2.1 (dd D_X9_clear 6 rfl) rfl (lv_at hl 0 rfl) ?_
    refine lv_bipush (v := (-2 : Int32)) F.1 F.2.1 (dd D_X9_clear 7 rfl) kb_m2 ?_
    obtain ⟨r24, e25, h⟩ := Option.bind_eq_some_iff.mp h
    refine rwe_all (st' := [.int r24.1]) hD hS hA (rV (rest := []) F (c_X9_refuse D cA am s n (-2 : Int32) r24 e25 l H.size) lk_X9_79 (Nat.le_of_ble_eq_true rfl) (preRW hK hS hAb hP hD) (rcv_9 hK hP (q0 := (0)) (mp_0 cA am s)) rfl hl rfl (Nat.le_of_ble_eq_true rfl) (dd D_X9_clear 8 rfl) ⟨Nat.le_of_ble_eq_true rfl, Nat.le_of_ble_eq_true rfl⟩) rfl (fun H locs hP hD hS => ?_)
    obtain rfl := Option.some.inj h
    exact rw_i (R := rmOf 1 0 0) F hP hD hS hr hlk ⟨Nat.le_of_ble_eq_true rfl, Nat.le_of_ble_eq_true rfl⟩ ⟨rfl, rfl⟩ (dd D_X9_clear 9 rfl)
def F_X9_feed (n : Nat) (s : MS) (p1 : Int32) : Option (Int32 × MS) := bf (F_X9_in (Int32.toInt64 p1) (0 : Int64) (255 : Int64)) ((if (m_tapeSize s) = (250 : Int32) then (((F_X9_refuse n s (-6 : Int32))).bind fun r3 => some (r3.1, r3.2)) else gd (inb (m_tapeSize s) 250) (some ((m_tapeSize (m_set_tape (m_set_tapeSize s ((m_tapeSize s) + (1 : Int32))) (upd (m_tape (m_set_tapeSize s ((m_tapeSize s) + (1 : Int32)))) (Int32.toNatClampNeg (m_tapeSize s)) p1))), (m_set_tape (m_set_tapeSize s ((m_tapeSize s) + (1 : Int32))) (upd (m_tape (m_set_tapeSize s ((m_tapeSize s) + (1 : Int32)))) (Int32.toNatClampNeg (m_tapeSize s)) p1)))))) ((((F_X9_refuse n s (-2 : Int32))).bind fun r5 => some (r5.1, r5.2)))
set_option maxHeartbeats 4000000 in
set_option maxRecDepth 100000 in
theorem c_X9_feed (D : va_G) (cA : Nat → ClassId) (am : Nat → Nat) (s : MS) (n : Nat) (p1 : Int32) (r : (Int32 × MS)) (h : F_X9_feed n s p1 = some r) : RW m_X9_feed 1 0 0 D cA [.ref (am 0), .int p1] (mW cA am s) (exq (some (.int r.1)) (mW cA am r.2)) := by
  refine RW.ofW gy_X9_feed.2.2 (Nat.le_of_ble_eq_true rfl) ?_
  intro l p e sM m below meth c A H locs F hr hlk hnm hK hP hD hS hA hAb ls hl
  have hl : lv_has ls 2 [(0, .ref (am 0)), (1, .int p1)] := hl
  unfold F_X9_feed at h
  refine lv_iload_n F.1 F.2.1 (dd D_X9_feed 0 rfl) rfl (lv_at hl 1 rfl) ?_
  refine lv_i2l (v := (Int32.toInt64 p1)) F.1 F.2.1 (dd D_X9_feed 1 rfl) rfl ?_
  refine lv_lconst (v := (0 : Int64)) F.1 F.2.1 (dd D_X9_feed 2 rfl) kl_0 ?_
  refine lv_ldc2 (own := RX9) (v := (255 : Int64)) F.1 F.2.1 F.2.2.2.1 (F.2.2.2.2 _ (kL_X9_139)) (dd D_X9_feed 3 rfl) ?_
  refine ro_go (st' := [.int (bI (F_X9_in (Int32.toInt64 p1) (0 : Int64) (255 : Int64)))]) (rS (rest := []) F (c_X9_in D cA (Int32.toInt64 p1) (0 : Int64) (255 : Int64) l) lk_X9_63 (Nat.le_of_ble_eq_true rfl) (preRO hK hS hAb (emP)) rfl hl rfl (Nat.le_of_ble_eq_true rfl) (dd D_X9_feed 4 rfl) ⟨Nat.le_of_ble_eq_true rfl, Nat.le_of_ble_eq_true rfl⟩) rfl ?_
  refine x_bif_ne (tgt := 19) F.1 F.2.1 (dd D_X9_feed 5 rfl) rfl h (fun c7 h => ?_) (fun c7 h => ?_)
  · refine lv_aload_n F.1 F.2.1 (dd D_X9_feed 10 rfl) rfl (lv_at hl 0 rfl) ?_
    refine getF F hK hP lf_X9_141 (0) (mp_0 cA am s) rfl (dd D_X9_feed 11 rfl) ?_
    refine lv_sipush (v := (250 : Int32)) F.1 F.2.1 (dd D_X9_feed 12 rfl) ks_250 ?_
    refine x_icmp_ne (tgt := 36) F.1 F.2.1 (dd D_X9_feed 13 rfl) rfl h (fun c1 h => ?_) (fun c1 h => ?_)
    · refine lv_aload_n F.1 F.2.1 (dd D_X9_feed 18 rfl) rfl (lv_at hl 0 rfl) ?_
      refine getF F hK hP lf_X9_34 (0) (mp_0 cA am s) rfl (dd D_X9_feed 19 rfl) ?_
      refine lv_aload_n F.1 F.2.1 (dd D_X9_feed 20 rfl) rfl (lv_at hl 0 rfl) ?_
      refine lv_dup F.1 F.2.1 (dd D_X9_feed 21 rfl) rfl ?_
      refine getF F hK hP lf_X9_141 (0) (mp_0 cA am s) rfl (dd D_X9_feed 22 rfl) ?_
      refine lv_dup_x1 F.1 F.2.1 (dd D_X9_feed 23 rfl) rfl rfl ?_
      refine lv_iconst (v := (1 : Int32)) F.1 F.2.1 (dd D_X9_feed 24 rfl) ki_1 ?_
      refine lv_iadd F.1 F.2.1 (dd D_X9_feed 25 rfl) ?_
      refine putF F hK hP hD hS lp_X9_141 (0) (mp_0 cA am s) (Nat.le_of_ble_eq_true rfl) (nar_int _) (fit_int _) (ws' := (mW cA am (m_set_tapeSize s ((m_tapeSize s) + (1 : Int32))))) (ms_0_8 cA am s ((m_tapeSize s) + (1 : Int32))) (dd D_X9_feed 26 rfl) (fun H locs hP hD hS => ?_)
      refine lv_iload_n F.1 F.2.1 (dd D_X9_feed 27 rfl) rfl (lv_at hl 1 rfl) ?_
      refine astI F hK hP hD hS (16) (mp_16 cA am (m_set_tapeSize s ((m_tapeSize s) + (1 : Int32)))) h (ws' := (mW cA am (m_set_tape (m_set_tapeSize s ((m_tapeSize s) + (1 : Int32))) (upd (m_tape (m_set_tapeSize s ((m_tapeSize s) + (1 : Int32)))) (Int32.toNatClampNeg (m_tapeSize s)) p1)))) (ms_16 cA am (m_set_tapeSize s ((m_tapeSize s) + (1 : Int32))) (upd (m_tape (m_set_tapeSize s ((m_tapeSize s) + (1 : Int32)))) (Int32.toNatClampNeg (m_tapeSize s)) p1)) (dd D_X9_feed 28 rfl) (fun z2 h H locs hP hD hS => ?_)
      refine lv_aload_n F.1 F.2.1 (dd D_X9_feed 29 rfl) rfl (lv_at hl 0 rfl) ?_
      refine getF F hK hP lf_X9_141 (0) (mp_0 cA am (m_set_tape (m_set_tapeSize s ((m_tapeSize s) + (1 : Int32))) (upd (m_tape (m_set_tapeSize s ((m_tapeSize s) + (1 : Int32)))) (Int32.toNatClampNeg (m_tapeSize s)) p1))) rfl (dd D_X9_feed 30 rfl) ?_
      obtain rfl := Option.some.inj h
      exact rw_i (R := rmOf 1 0 0) F hP hD hS hr hlk ⟨Nat.le_of_ble_eq_true rfl, Nat.le_of_ble_eq_true rfl⟩ ⟨rfl, rfl⟩ (dd D_X9_feed 31 rfl)
    · refine lv_aload_n F.1 F.2.1 (dd D_X9_feed 14 rfl) rfl (lv_at hl 0 rfl) ?_
      refine lv_bipush (v := (-6 : Int32)) F.1 F.2.1 (dd D_X9_feed 15 rfl) kb_m6 ?_
      obtain ⟨r3, e4, h⟩ := Option.bind_eq_some_iff.mp h
      refine rwe_all (st' := [.int r3.1]) hD hS hA (rV (rest := []) F (c_X9_refuse D cA am s n (-6 : Int32) r3 e4 l H.size) lk_X9_79 (Nat.le_of_ble_eq_true rfl) (preRW hK hS hAb hP hD) (rcv_9 hK hP (q0 := (0)) (mp_0 cA am s)) rfl hl rfl (Nat.le_of_ble_eq_true rfl) (dd D_X9_feed 16 rfl) ⟨Nat.le_of_ble_eq_true rfl, Nat.le_of_ble_eq_true rfl⟩) rfl (fun H locs hP hD hS => ?_)
      obtain rfl := Option.some.inj h
      exact rw_i (R := rmOf 1 0 0) F hP hD hS hr hlk ⟨Nat.le_of_ble_eq_true rfl, Nat.le_of_ble_eq_true rfl⟩ ⟨rfl, rfl⟩ (dd D_X9_feed 17 rfl)
  · refine lv_aload_n F.1 F.2.1 (dd D_X9_feed 6 rfl) rfl (lv_at hl 0 rfl) ?_
    refine lv_bipush (v := (-2 : Int32)) F.1 F.2.1 (dd D_X9_feed 7 rfl) kb_m2 ?_
    obtain ⟨r5, e6, h⟩ := Option.bind_eq_some_iff.mp h
    refine rwe_all (st' := [.int r5.1]) hD hS hA (rV (rest := []) F (c_X9_refuse D cA am s n (-2 : Int32) r5 e6 l H.size) lk_X9_79 (Nat.le_of_ble_eq_true rfl) (preRW hK hS hAb hP hD) (rcv_9 hK hP (q0 := (0)) (mp_0 cA am s)) rfl hl rfl (Nat.le_of_ble_eq_true rfl) (dd D_X9_feed 8 rfl) ⟨Nat.le_of_ble_eq_true rfl, Nat.le_of_ble_eq_true rfl⟩) rfl (fun H locs hP hD hS => ?_)
    obtain rfl := Option.some.inj h
    exact rw_i (R := rmOf 1 0 0) F hP hD hS hr hlk ⟨Nat.le_of_ble_eq_true rfl, Nat.le_of_ble_eq_true rfl⟩ ⟨rfl, rfl⟩ (dd D_X9_feed 9 rfl)
def F_X9_wipe (s : MS) : (Int32 × MS) := ((m_tapeSize s), (m_set_tapeSize s (0 : Int32)))
set_option maxHeartbeats 4000000 in
set_option maxRecDepth 100000 in
theorem c_X9_wipe (D : va_G) (cA : Nat → ClassId) (am : Nat → Nat) (s : MS)  : RW m_X9_wipe 0 0 0 D cA [.ref (am 0)] (mW cA am s) (exq (some (.int (F_X9_wipe s).1)) (mW cA am (F_X9_wipe s).2)) := by
  obtain ⟨r, h⟩ : ∃ r, F_X9_wipe s = r := ⟨_, rfl⟩
  rw [h]
  refine RW.ofW gy_X9_wipe.2.2 (Nat.le_of_ble_eq_true rfl) ?_
  intro l p e sM m below meth c A H locs F hr hlk hnm hK hP hD hS hA hAb ls hl
  have hl : lv_has ls 2 [(0, .ref (am 0))] := hl
  unfold F_X9_wipe at h
  refine lv_aload_n F.1 F.2.1 (dd D_X9_wipe 0 rfl) rfl (lv_at hl 0 rfl) ?_
  refine getF F hK hP lf_X9_141 (0) (mp_0 cA am s) rfl (dd D_X9_wipe 1 rfl) ?_
  refine lv_istore_n (lv' := [(1, .int (m_tapeSize s)), (0, .ref (am 0))]) F.1 F.2.1 (dd D_X9_wipe 2 rfl) rfl hl (Nat.le_of_ble_eq_true rfl) rfl (fun ls hl => ?_)
  refine lv_aload_n F.1 F.2.1 (dd D_X9_wipe 3 rfl) rfl (lv_at hl 1 rfl) ?_
  refine lv_iconst (v := (0 : Int32)) F.1 F.2.1 (dd D_X9_wipe 4 rfl) ki_0 ?_
  refine putF F hK hP hD hS lp_X9_141 (0) (mp_0 cA am s) (Nat.le_of_ble_eq_true rfl) (nar_int _) (fit_int _) (ws' := (mW cA am (m_set_tapeSize s (0 : Int32)))) (ms_0_8 cA am s (0 : Int32)) (dd D_X9_wipe 5 rfl) (fun H locs hP hD hS => ?_)
  refine lv_iload_n F.1 F.2.1 (dd D_X9_wipe 6 rfl) rfl (lv_at hl 0 rfl) ?_
  subst h
  exact rw_i (R := rmOf 0 0 0) F hP hD hS hr hlk ⟨Nat.le_of_ble_eq_true rfl, Nat.le_of_ble_eq_true rfl⟩ ⟨rfl, rfl⟩ (dd D_X9_wipe 7 rfl)
def F_X9_isLetter (p0 : Int32) : Bool := (if p0 < (97 : Int32) then (false) else (if (122 : Int32) < p0 then (false) else (true)))
set_option maxHeartbeats 4000000 in
set_option maxRecDepth 100000 in
theorem c_X9_isLetter (D : va_G) (cA : Nat → ClassId)  (p0 : Int32) : RO m_X9_isLetter 0 D cA [.int p0] [] (some (.int (bI (F_X9_isLetter p0)))) := by
  obtain ⟨r, h⟩ : ∃ r, F_X9_isLetter p0 = r := ⟨_, rfl⟩
  rw [h]
  refine RO.ofW gy_X9_isLetter.2.2 (Nat.le_of_ble_eq_true rfl) ?_
  intro l p e sM m below meth c F hr hlk hK hP hS hAb ls hl
  have hl : lv_has ls 1 [(0, .int p0)] := hl
  unfold F_X9_isLetter at h
  refine lv_iload_n F.1 F.2.1 (dd D_X9_isLetter 0 rfl) rfl (lv_at hl 0 rfl) ?_
  refine lv_bipush (v := (97 : Int32)) F.1 F.2.1 (dd D_X9_isLetter 1 rfl) kb_97 ?_
  refine x_icmp_lt (tgt := 16) F.1 F.2.1 (dd D_X9_isLetter 2 rfl) rfl h (fun c1 h => ?_) (fun c1 h => ?_)
  · refine lv_iconst (v := (0 : Int32)) F.1 F.2.1 (dd D_X9_isLetter 8 rfl) ki_0 ?_
    exact ro_z (R := rmOf 0 0 0) F hr rfl hlk (congrArg (fun z => some (Value.int (bI z))) h) (dd D_X9_isLetter 9 rfl)
  · refine lv_iload_n F.1 F.2.1 (dd D_X9_isLetter 3 rfl) rfl (lv_at hl 0 rfl) ?_
    refine lv_bipush (v := (122 : Int32)) F.1 F.2.1 (dd D_X9_isLetter 4 rfl) kb_122 ?_
    refine x_icmp_gt (tgt := 16) F.1 F.2.1 (dd D_X9_isLetter 5 rfl) rfl h (fun c2 h => ?_) (fun c2 h => ?_)
    · refine lv_iconst (v := (0 : Int32)) F.1 F.2.1 (dd D_X9_isLetter 8 rfl) ki_0 ?_
      exact ro_z (R := rmOf 0 0 0) F hr rfl hlk (congrArg (fun z => some (Value.int (bI z))) h) (dd D_X9_isLetter 9 rfl)
    · refine lv_iconst (v := (1 : Int32)) F.1 F.2.1 (dd D_X9_isLetter 6 rfl) ki_1 ?_
      refine lv_goto (tgt := 17) F.1 F.2.1 (dd D_X9_isLetter 7 rfl) rfl ?_
      exact ro_z (R := rmOf 0 0 0) F hr rfl hlk (congrArg (fun z => some (Value.int (bI z))) h) (dd D_X9_isLetter 9 rfl)
def F_X9_isDigit (p0 : Int32) : Bool := (if p0 < (48 : Int32) then (false) else (if (57 : Int32) < p0 then (false) else (true)))
set_option maxHeartbeats 4000000 in
set_option maxRecDepth 100000 in
theorem c_X9_isDigit (D : va_G) (cA : Nat → ClassId)  (p0 : Int32) : RO m_X9_isDigit 0 D cA [.int p0] [] (some (.int (bI (F_X9_isDigit p0)))) := by
  obtain ⟨r, h⟩ : ∃ r, F_X9_isDigit p0 = r := ⟨_, rfl⟩
  rw [h]
  refine RO.ofW gy_X9_isDigit.2.2 (Nat.le_of_ble_eq_true rfl) ?_
  intro l p e sM m below meth c F hr hlk hK hP hS hAb ls hl
  have hl : lv_has ls 1 [(0, .int p0)] := hl
  unfold F_X9_isDigit at h
  refine lv_iload_n F.1 F.2.1 (dd D_X9_isDigit 0 rfl) rfl (lv_at hl 0 rfl) ?_
  refine lv_bipush (v := (48 : Int32)) F.1 F.2.1 (dd D_X9_isDigit 1 rfl) kb_48 ?_
  refine x_icmp_lt (tgt := 16) F.1 F.2.1 (dd D_X9_isDigit 2 rfl) rfl h (fun c1 h => ?_) (fun c1 h => ?_)
  · refine lv_iconst (v := (0 : Int32)) F.1 F.2.1 (dd D_X9_isDigit 8 rfl) ki_0 ?_
    exact ro_z (R := rmOf 0 0 0) F hr rfl hlk (congrArg (fun z => some (Value.int (bI z))) h) (dd D_X9_isDigit 9 rfl)
  · refine lv_iload_n F.1 F.2.1 (dd D_X9_isDigit 3 rfl) rfl (lv_at hl 0 rfl) ?_
    refine lv_bipush (v := (57 : Int32)) F.1 F.2.1 (dd D_X9_isDigit 4 rfl) kb_57 ?_
    refine x_icmp_gt (tgt := 16) F.1 F.2.1 (dd D_X9_isDigit 5 rfl) rfl h (fun c2 h => ?_) (fun c2 h => ?_)
    · refine lv_iconst (v := (0 : Int32)) F.1 F.2.1 (dd D_X9_isDigit 8 rfl) ki_0 ?_
      exact ro_z (R := rmOf 0 0 0) F hr rfl hlk (congrArg (fun z => some (Value.int (bI z))) h) (dd D_X9_isDigit 9 rfl)
    · refine lv_iconst (v := (1 : Int32)) F.1 F.2.1 (dd D_X9_isDigit 6 rfl) ki_1 ?_
      refine lv_goto (tgt := 17) F.1 F.2.1 (dd D_X9_isDigit 7 rfl) rfl ?_
      exact ro_z (R := rmOf 0 0 0) F hr rfl hlk (congrArg (fun z => some (Value.int (bI z))) h) (dd D_X9_isDigit 9 rfl)
def F_X9_look_L149 (n : Nat) (K : MS → Option MS)  : Nat → MS → Option MS
  | 0, _ => none
  | kf + 1, u0 => (if (m_tapeSize u0) ≤ (m_atp u0) then some u0 else gd (inb (m_atp u0) 250) (bf (F_X9_isDigit ((m_tape u0) (Int32.toNatClampNeg (m_atp u0)))) ((if (4 : Int32) ≤ ((m_atp u0) - (m_frm u0)) then F_X9_look_L149 n K kf (m_set_atp (m_set_figures u0 (100000 : Int32)) ((m_atp (m_set_figures u0 (100000 : Int32))) + (1 : Int32))) else gd (inb (m_atp u0) 250) (F_X9_look_L149 n K kf (m_set_atp (m_set_figures u0 ((((m_figures u0) * (10 : Int32)) + ((m_tape u0) (Int32.toNatClampNeg (m_atp u0)))) - (48 : Int32))) ((m_atp (m_set_figures u0 ((((m_figures u0) * (10 : Int32)) + ((m_tape u0) (Int32.toNatClampNeg (m_atp u0)))) - (48 : Int32)))) + (1 : Int32)))))) (some u0)))
def F_X9_look_L90 (n : Nat) (K : MS → Option MS)  : Nat → MS → Option MS
  | 0, _ => none
  | kf + 1, u0 => (if (m_tapeSize u0) ≤ (m_atp u0) then some u0 else gd (inb (m_atp u0) 250) (bf (F_X9_isLetter ((m_tape u0) (Int32.toNatClampNeg (m_atp u0)))) (F_X9_look_L90 n K kf (m_set_atp u0 ((m_atp u0) + (1 : Int32)))) (some u0)))
def F_X9_look_L0 (n : Nat)  : Nat → MS → Option MS
  | 0, _ => none
  | kf + 1, u0 => (if (m_tapeSize u0) ≤ (m_atp u0) then (if (m_atp (m_set_figures (m_set_frm u0 (m_atp u0)) (0 : Int32))) = (m_tapeSize (m_set_figures (m_set_frm u0 (m_atp u0)) (0 : Int32))) then some (m_set_token (m_set_figures (m_set_frm u0 (m_atp u0)) (0 : Int32)) (0 : Int32)) else gd (inb (m_atp (m_set_figures (m_set_frm u0 (m_atp u0)) (0 : Int32))) 250) (bf (F_X9_isLetter ((m_tape (m_set_figures (m_set_frm u0 (m_atp u0)) (0 : Int32))) (Int32.toNatClampNeg (m_atp (m_set_figures (m_set_frm u0 (m_atp u0)) (0 : Int32)))))) (F_X9_look_L90 n (F_X9_look_L0 n kf) n (m_set_token (m_set_figures (m_set_frm u0 (m_atp u0)) (0 : Int32)) (1 : Int32))) (gd (inb (m_atp (m_set_figures (m_set_frm u0 (m_atp u0)) (0 : Int32))) 250) (bf (F_X9_isDigit ((m_tape (m_set_figures (m_set_frm u0 (m_atp u0)) (0 : Int32))) (Int32.toNatClampNeg (m_atp (m_set_figures (m_set_frm u0 (m_atp u0)) (0 : Int32)))))) (F_X9_look_L149 n (F_X9_look_L0 n kf) n (m_set_token (m_set_figures (m_set_frm u0 (m_atp u0)) (0 : Int32)) (2 : Int32))) (gd (inb (m_atp (m_set_figures (m_set_frm u0 (m_atp u0)) (0 : Int32))) 250) ((if ((m_tape (m_set_figures (m_set_frm u0 (m_atp u0)) (0 : Int32))) (Int32.toNatClampNeg (m_atp (m_set_figures (m_set_frm u0 (m_atp u0)) (0 : Int32))))) = (59 : Int32) then some (m_set_atp (m_set_token (m_set_figures (m_set_frm u0 (m_atp u0)) (0 : Int32)) (3 : Int32)) ((m_atp (m_set_token (m_set_figures (m_set_frm u0 (m_atp u0)) (0 : Int32)) (3 : Int32))) + (1 : Int32))) else some (m_set_atp (m_set_token (m_set_figures (m_set_frm u0 (m_atp u0)) (0 : Int32)) (4 : Int32)) ((m_atp (m_set_token (m_set_figures (m_set_frm u0 (m_atp u0)) (0 : Int32)) (4 : Int32))) + (1 : Int32)))))))))) else gd (inb (m_atp u0) 250) ((if ((m_tape u0) (Int32.toNatClampNeg (m_atp u0))) = (32 : Int32) then F_X9_look_L0 n kf (m_set_atp u0 ((m_atp u0) + (1 : Int32))) else (if (m_atp (m_set_figures (m_set_frm u0 (m_atp u0)) (0 : Int32))) = (m_tapeSize (m_set_figures (m_set_frm u0 (m_atp u0)) (0 : Int32))) then some (m_set_token (m_set_figures (m_set_frm u0 (m_atp u0)) (0 : Int32)) (0 : Int32)) else gd (inb (m_atp (m_set_figures (m_set_frm u0 (m_atp u0)) (0 : Int32))) 250) (bf (F_X9_isLetter ((m_tape (m_set_figures (m_set_frm u0 (m_atp u0)) (0 : Int32))) (Int32.toNatClampNeg (m_atp (m_set_figures (m_set_frm u0 (m_atp u0)) (0 : Int32)))))) (F_X9_look_L90 n (F_X9_look_L0 n kf) n (m_set_token (m_set_figures (m_set_frm u0 (m_atp u0)) (0 : Int32)) (1 : Int32))) (gd (inb (m_atp (m_set_figures (m_set_frm u0 (m_atp u0)) (0 : Int32))) 250) (bf (F_X9_isDigit ((m_tape (m_set_figures (m_set_frm u0 (m_atp u0)) (0 : Int32))) (Int32.toNatClampNeg (m_atp (m_set_figures (m_set_frm u0 (m_atp u0)) (0 : Int32)))))) (F_X9_look_L149 n (F_X9_look_L0 n kf) n (m_set_token (m_set_figures (m_set_frm u0 (m_atp u0)) (0 : Int32)) (2 : Int32))) (gd (inb (m_atp (m_set_figures (m_set_frm u0 (m_atp u0)) (0 : Int32))) 250) ((if ((m_tape (m_set_figures (m_set_frm u0 (m_atp u0)) (0 : Int32))) (Int32.toNatClampNeg (m_atp (m_set_figures (m_set_frm u0 (m_atp u0)) (0 : Int32))))) = (59 : Int32) then some (m_set_atp (m_set_token (m_set_figures (m_set_frm u0 (m_atp u0)) (0 : Int32)) (3 : Int32)) ((m_atp (m_set_token (m_set_figures (m_set_frm u0 (m_atp u0)) (0 : Int32)) (3 : Int32))) + (1 : Int32))) else some (m_set_atp (m_set_token (m_set_figures (m_set_frm u0 (m_atp u0)) (0 : Int32)) (4 : Int32)) ((m_atp (m_set_token (m_set_figures (m_set_frm u0 (m_atp u0)) (0 : Int32)) (4 : Int32))) + (1 : Int32)))))))))))))
def F_X9_look (n : Nat) (s : MS) : Option MS := F_X9_look_L0 n n s
set_option maxHeartbeats 4000000 in
set_option maxRecDepth 100000 in
theorem c_X9_look (D : va_G) (cA : Nat → ClassId) (am : Nat → Nat) (s : MS) (n : Nat)  (r : MS) (h : F_X9_look n s = some r) : RW m_X9_look 1 0 0 D cA [.ref (am 0)] (mW cA am s) (exq (none) (mW cA am r)) := by
  refine RW.ofW gy_X9_look.2.2 (Nat.le_of_ble_eq_true rfl) ?_
  intro l p e sM m below meth c A H locs F hr hlk hnm hK hP hD hS hA hAb ls hl
  have hl : lv_has ls 1 [(0, .ref (am 0))] := hl
  unfold F_X9_look at h
  have L26 : ∀ (kf : Nat) (u0_L26 : MS) (H : Heap) (locs : List Loc) (ls : Array Slot), va_P D vwCl (mW cA am u0_L26) H → va_D A (mW cA am u0_L26) → va_S A sM.heap H locs → lv_has ls 1 [(0, .ref (am 0))] → F_X9_look_L0 n kf u0_L26 = some r → Wrw 1 0 0 D A (exq (none) (mW cA am r)) p l e sM m ([.ref (am 0)] : List Value).toArray below meth c H locs 0 0 0 ls [] := by
    intro kf
    induction kf with
    | zero =>
      intro u0_L26 H locs ls hP hD hS hl h
      cases (show none = some r from h)
    | succ k_L26 ih_L26 =>
      intro u0_L26 H locs ls hP hD hS hl h
      unfold F_X9_look_L0 at h
      refine lv_aload_n F.1 F.2.1 (dd D_X9_look 0 rfl) rfl (lv_at hl 0 rfl) ?_
      refine getF F hK hP lf_X9_144 (0) (mp_0 cA am u0_L26) rfl (dd D_X9_look 1 rfl) ?_
      refine lv_aload_n F.1 F.2.1 (dd D_X9_look 2 rfl) rfl (lv_at hl 0 rfl) ?_
      refine getF F hK hP lf_X9_141 (0) (mp_0 cA am u0_L26) rfl (dd D_X9_look 3 rfl) ?_
      refine x_icmp_ge (tgt := 38) F.1 F.2.1 (dd D_X9_look 4 rfl) rfl h (fun c27 h => ?_) (fun c27 h => ?_)
      · refine lv_aload_n F.1 F.2.1 (dd D_X9_look 19 rfl) rfl (lv_at hl 0 rfl) ?_
        refine lv_aload_n F.1 F.2.1 (dd D_X9_look 20 rfl) rfl (lv_at hl 0 rfl) ?_
        refine getF F hK hP lf_X9_144 (0) (mp_0 cA am u0_L26) rfl (dd D_X9_look 21 rfl) ?_
        refine putF F hK hP hD hS lp_X9_147 (0) (mp_0 cA am u0_L26) (Nat.le_of_ble_eq_true rfl) (nar_int _) (fit_int _) (ws' := (mW cA am (m_set_frm u0_L26 (m_atp u0_L26)))) (ms_0_24 cA am u0_L26 (m_atp u0_L26)) (dd D_X9_look 22 rfl) (fun H locs hP hD hS => ?_)
        refine lv_aload_n F.1 F.2.1 (dd D_X9_look 23 rfl) rfl (lv_at hl 0 rfl) ?_
        refine lv_iconst (v := (0 : Int32)) F.1 F.2.1 (dd D_X9_look 24 rfl) ki_0 ?_
        refine putF F hK hP hD hS lp_X9_150 (0) (mp_0 cA am (m_set_frm u0_L26 (m_atp u0_L26))) (Nat.le_of_ble_eq_true rfl) (nar_int _) (fit_int _) (ws' := (mW cA am (m_set_figures (m_set_frm u0_L26 (m_atp u0_L26)) (0 : Int32)))) (ms_0_25 cA am (m_set_frm u0_L26 (m_atp u0_L26)) (0 : Int32)) (dd D_X9_look 25 rfl) (fun H locs hP hD hS => ?_)
        refine lv_aload_n F.1 F.2.1 (dd D_X9_look 26 rfl) rfl (lv_at hl 0 rfl) ?_
        refine getF F hK hP lf_X9_144 (0) (mp_0 cA am (m_set_figures (m_set_frm u0_L26 (m_atp u0_L26)) (0 : Int32))) rfl (dd D_X9_look 27 rfl) ?_
        refine lv_aload_n F.1 F.2.1 (dd D_X9_look 28 rfl) rfl (lv_at hl 0 rfl) ?_
        refine getF F hK hP lf_X9_141 (0) (mp_0 cA am (m_set_figures (m_set_frm u0_L26 (m_atp u0_L26)) (0 : Int32))) rfl (dd D_X9_look 29 rfl) ?_
        refine x_icmp_ne (tgt := 70) F.1 F.2.1 (dd D_X9_look 30 rfl) rfl h (fun c28 h => ?_) (fun c28 h => ?_)
        · refine lv_aload_n F.1 F.2.1 (dd D_X9_look 35 rfl) rfl (lv_at hl 0 rfl) ?_
          refine getF F hK hP lf_X9_34 (0) (mp_0 cA am (m_set_figures (m_set_frm u0_L26 (m_atp u0_L26)) (0 : Int32))) rfl (dd D_X9_look 36 rfl) ?_
          refine lv_aload_n F.1 F.2.1 (dd D_X9_look 37 rfl) rfl (lv_at hl 0 rfl) ?_
          refine getF F hK hP lf_X9_144 (0) (mp_0 cA am (m_set_figures (m_set_frm u0_L26 (m_atp u0_L26)) (0 : Int32))) rfl (dd D_X9_look 38 rfl) ?_
          refine aldI F hK hP (16) (mp_16 cA am (m_set_figures (m_set_frm u0_L26 (m_atp u0_L26)) (0 : Int32))) h (dd D_X9_look 39 rfl) (fun z29 h => ?_)
          refine ro_go (st' := [.int (bI (F_X9_isLetter ((m_tape (m_set_figures (m_set_frm u0_L26 (m_atp u0_L26)) (0 : Int32))) (Int32.toNatClampNeg (m_atp (m_set_figures (m_set_frm u0_L26 (m_atp u0_L26)) (0 : Int32)))))))]) (rS (rest := []) F (c_X9_isLetter D cA ((m_tape (m_set_figures (m_set_frm u0_L26 (m_atp u0_L26)) (0 : Int32))) (Int32.toNatClampNeg (m_atp (m_set_figures (m_set_frm u0_L26 (m_atp u0_L26)) (0 : Int32))))) l) lk_X9_156 (Nat.le_of_ble_eq_true rfl) (preRO hK hS hAb (emP)) rfl hl rfl (Nat.le_of_ble_eq_true rfl) (dd D_X9_look 40 rfl) ⟨Nat.le_of_ble_eq_true rfl, Nat.le_of_ble_eq_true rfl⟩) rfl ?_
          refine x_bif_eq (tgt := 129) F.1 F.2.1 (dd D_X9_look 41 rfl) rfl h (fun c44 h => ?_) (fun c44 h => ?_)
          · refine lv_aload_n F.1 F.2.1 (dd D_X9_look 64 rfl) rfl (lv_at hl 0 rfl) ?_
            refine getF F hK hP lf_X9_34 (0) (mp_0 cA am (m_set_figures (m_set_frm u0_L26 (m_atp u0_L26)) (0 : Int32))) rfl (dd D_X9_look 65 rfl) ?_
            refine lv_aload_n F.1 F.2.1 (dd D_X9_look 66 rfl) rfl (lv_at hl 0 rfl) ?_
            refine getF F hK hP lf_X9_144 (0) (mp_0 cA am (m_set_figures (m_set_frm u0_L26 (m_atp u0_L26)) (0 : Int32))) rfl (dd D_X9_look 67 rfl) ?_
            refine aldI F hK hP (16) (mp_16 cA am (m_set_figures (m_set_frm u0_L26 (m_atp u0_L26)) (0 : Int32))) h (dd D_X9_look 68 rfl) (fun z30 h => ?_)
            refine ro_go (st' := [.int (bI (F_X9_isDigit ((m_tape (m_set_figures (m_set_frm u0_L26 (m_atp u0_L26)) (0 : Int32))) (Int32.toNatClampNeg (m_atp (m_set_figures (m_set_frm u0_L26 (m_atp u0_L26)) (0 : Int32)))))))]) (rS (rest := []) F (c_X9_isDigit D cA ((m_tape (m_set_figures (m_set_frm u0_L26 (m_atp u0_L26)) (0 : Int32))) (Int32.toNatClampNeg (m_atp (m_set_figures (m_set_frm u0_L26 (m_atp u0_L26)) (0 : Int32))))) l) lk_X9_159 (Nat.le_of_ble_eq_true rfl) (preRO hK hS hAb (emP)) rfl hl rfl (Nat.le_of_ble_eq_true rfl) (dd D_X9_look 69 rfl) ⟨Nat.le_of_ble_eq_true rfl, Nat.le_of_ble_eq_true rfl⟩) rfl ?_
            refine x_bif_eq (tgt := 230) F.1 F.2.1 (dd D_X9_look 70 rfl) rfl h (fun c39 h => ?_) (fun c39 h => ?_)
            · refine lv_aload_n F.1 F.2.1 (dd D_X9_look 116 rfl) rfl (lv_at hl 0 rfl) ?_
              refine lv_aload_n F.1 F.2.1 (dd D_X9_look 117 rfl) rfl (lv_at hl 0 rfl) ?_
              refine getF F hK hP lf_X9_34 (0) (mp_0 cA am (m_set_figures (m_set_frm u0_L26 (m_atp u0_L26)) (0 : Int32))) rfl (dd D_X9_look 118 rfl) ?_
              refine lv_aload_n F.1 F.2.1 (dd D_X9_look 119 rfl) rfl (lv_at hl 0 rfl) ?_
              refine getF F hK hP lf_X9_144 (0) (mp_0 cA am (m_set_figures (m_set_frm u0_L26 (m_atp u0_L26)) (0 : Int32))) rfl (dd D_X9_look 120 rfl) ?_
              refine aldI F hK hP (16) (mp_16 cA am (m_set_figures (m_set_frm u0_L26 (m_atp u0_L26)) (0 : Int32))) h (dd D_X9_look 121 rfl) (fun z31 h => ?_)
              refine lv_bipush (v := (59 : Int32)) F.1 F.2.1 (dd D_X9_look 122 rfl) kb_59 ?_
              refine x_icmp_ne (tgt := 249) F.1 F.2.1 (dd D_X9_look 123 rfl) rfl h (fun c32 h => ?_) (fun c32 h => ?_)
              · refine lv_iconst (v := (4 : Int32)) F.1 F.2.1 (dd D_X9_look 126 rfl) ki_4 ?_
                refine putF F hK hP hD hS lp_X9_153 (0) (mp_0 cA am (m_set_figures (m_set_frm u0_L26 (m_atp u0_L26)) (0 : Int32))) (Nat.le_of_ble_eq_true rfl) (nar_int _) (fit_int _) (ws' := (mW cA am (m_set_token (m_set_figures (m_set_frm u0_L26 (m_atp u0_L26)) (0 : Int32)) (4 : Int32)))) (ms_0_23 cA am (m_set_figures (m_set_frm u0_L26 (m_atp u0_L26)) (0 : Int32)) (4 : Int32)) (dd D_X9_look 127 rfl) (fun H locs hP hD hS => ?_)
                refine lv_aload_n F.1 F.2.1 (dd D_X9_look 128 rfl) rfl (lv_at hl 0 rfl) ?_
                refine lv_dup F.1 F.2.1 (dd D_X9_look 129 rfl) rfl ?_
                refine getF F hK hP lf_X9_144 (0) (mp_0 cA am (m_set_token (m_set_figures (m_set_frm u0_L26 (m_atp u0_L26)) (0 : Int32)) (4 : Int32))) rfl (dd D_X9_look 130 rfl) ?_
                refine lv_iconst (v := (1 : Int32)) F.1 F.2.1 (dd D_X9_look 131 rfl) ki_1 ?_
                refine lv_iadd F.1 F.2.1 (dd D_X9_look 132 rfl) ?_
                refine putF F hK hP hD hS lp_X9_144 (0) (mp_0 cA am (m_set_token (m_set_figures (m_set_frm u0_L26 (m_atp u0_L26)) (0 : Int32)) (4 : Int32))) (Nat.le_of_ble_eq_true rfl) (nar_int _) (fit_int _) (ws' := (mW cA am (m_set_atp (m_set_token (m_set_figures (m_set_frm u0_L26 (m_atp u0_L26)) (0 : Int32)) (4 : Int32)) ((m_atp (m_set_token (m_set_figures (m_set_frm u0_L26 (m_atp u0_L26)) (0 : Int32)) (4 : Int32))) + (1 : Int32))))) (ms_0_22 cA am (m_set_token (m_set_figures (m_set_frm u0_L26 (m_atp u0_L26)) (0 : Int32)) (4 : Int32)) ((m_atp (m_set_token (m_set_figures (m_set_frm u0_L26 (m_atp u0_L26)) (0 : Int32)) (4 : Int32))) + (1 : Int32))) (dd D_X9_look 133 rfl) (fun H locs hP hD hS => ?_)
                obtain rfl := Option.some.inj h
                exact rw_v (R := rmOf 1 0 0) F hP hD hS hr hlk ⟨Nat.le_of_ble_eq_true rfl, Nat.le_of_ble_eq_true rfl⟩ ⟨rfl, rfl⟩ (dd D_X9_look 134 rfl)
              · refine lv_iconst (v := (3 : Int32)) F.1 F.2.1 (dd D_X9_look 124 rfl) ki_3 ?_
                refine lv_goto (tgt := 250) F.1 F.2.1 (dd D_X9_look 125 rfl) rfl ?_
                refine putF F hK hP hD hS lp_X9_153 (0) (mp_0 cA am (m_set_figures (m_set_frm u0_L26 (m_atp u0_L26)) (0 : Int32))) (Nat.le_of_ble_eq_true rfl) (nar_int _) (fit_int _) (ws' := (mW cA am (m_set_token (m_set_figures (m_set_frm u0_L26 (m_atp u0_L26)) (0 : Int32)) (3 : Int32)))) (ms_0_23 cA am (m_set_figures (m_set_frm u0_L26 (m_atp u0_L26)) (0 : Int32)) (3 : Int32)) (dd D_X9_look 127 rfl) (fun H locs hP hD hS => ?_)
                refine lv_aload_n F.1 F.2.1 (dd D_X9_look 128 rfl) rfl (lv_at hl 0 rfl) ?_
                refine lv_dup F.1 F.2.1 (dd D_X9_look 129 rfl) rfl ?_
                refine getF F hK hP lf_X9_144 (0) (mp_0 cA am (m_set_token (m_set_figures (m_set_frm u0_L26 (m_atp u0_L26)) (0 : Int32)) (3 : Int32))) rfl (dd D_X9_look 130 rfl) ?_
                refine lv_iconst (v := (1 : Int32)) F.1 F.2.1 (dd D_X9_look 131 rfl) ki_1 ?_
                refine lv_iadd F.1 F.2.1 (dd D_X9_look 132 rfl) ?_
                refine putF F hK hP hD hS lp_X9_144 (0) (mp_0 cA am (m_set_token (m_set_figures (m_set_frm u0_L26 (m_atp u0_L26)) (0 : Int32)) (3 : Int32))) (Nat.le_of_ble_eq_true rfl) (nar_int _) (fit_int _) (ws' := (mW cA am (m_set_atp (m_set_token (m_set_figures (m_set_frm u0_L26 (m_atp u0_L26)) (0 : Int32)) (3 : Int32)) ((m_atp (m_set_token (m_set_figures (m_set_frm u0_L26 (m_atp u0_L26)) (0 : Int32)) (3 : Int32))) + (1 : Int32))))) (ms_0_22 cA am (m_set_token (m_set_figures (m_set_frm u0_L26 (m_atp u0_L26)) (0 : Int32)) (3 : Int32)) ((m_atp (m_set_token (m_set_figures (m_set_frm u0_L26 (m_atp u0_L26)) (0 : Int32)) (3 : Int32))) + (1 : Int32))) (dd D_X9_look 133 rfl) (fun H locs hP hD hS => ?_)
                obtain rfl := Option.some.inj h
                exact rw_v (R := rmOf 1 0 0) F hP hD hS hr hlk ⟨Nat.le_of_ble_eq_true rfl, Nat.le_of_ble_eq_true rfl⟩ ⟨rfl, rfl⟩ (dd D_X9_look 134 rfl)
            · refine lv_aload_n F.1 F.2.1 (dd D_X9_look 71 rfl) rfl (lv_at hl 0 rfl) ?_
              refine lv_iconst (v := (2 : Int32)) F.1 F.2.1 (dd D_X9_look 72 rfl) ki_2 ?_
              refine putF F hK hP hD hS lp_X9_153 (0) (mp_0 cA am (m_set_figures (m_set_frm u0_L26 (m_atp u0_L26)) (0 : Int32))) (Nat.le_of_ble_eq_true rfl) (nar_int _) (fit_int _) (ws' := (mW cA am (m_set_token (m_set_figures (m_set_frm u0_L26 (m_atp u0_L26)) (0 : Int32)) (2 : Int32)))) (ms_0_23 cA am (m_set_figures (m_set_frm u0_L26 (m_atp u0_L26)) (0 : Int32)) (2 : Int32)) (dd D_X9_look 73 rfl) (fun H locs hP hD hS => ?_)
              have L33 : ∀ (kf : Nat) (u0_L33 : MS) (H : Heap) (locs : List Loc) (ls : Array Slot), va_P D vwCl (mW cA am u0_L33) H → va_D A (mW cA am u0_L33) → va_S A sM.heap H locs → lv_has ls 1 [(0, .ref (am 0))] → F_X9_look_L149 n (F_X9_look_L0 n k_L26) kf u0_L33 = some r → Wrw 1 0 0 D A (exq (none) (mW cA am r)) p l e sM m ([.ref (am 0)] : List Value).toArray below meth c H locs 0 0 149 ls [] := by
                intro kf
                induction kf with
                | zero =>
                  intro u0_L33 H locs ls hP hD hS hl h
                  cases (show none = some r from h)
                | succ k_L33 ih_L33 =>
                  intro u0_L33 H locs ls hP hD hS hl h
                  unfold F_X9_look_L149 at h
                  refine lv_aload_n F.1 F.2.1 (dd D_X9_look 74 rfl) rfl (lv_at hl 0 rfl) ?_
                  refine getF F hK hP lf_X9_144 (0) (mp_0 cA am u0_L33) rfl (dd D_X9_look 75 rfl) ?_
                  refine lv_aload_n F.1 F.2.1 (dd D_X9_look 76 rfl) rfl (lv_at hl 0 rfl) ?_
                  refine getF F hK hP lf_X9_141 (0) (mp_0 cA am u0_L33) rfl (dd D_X9_look 77 rfl) ?_
                  refine x_icmp_ge (tgt := 263) F.1 F.2.1 (dd D_X9_look 78 rfl) rfl h (fun c34 h => ?_) (fun c34 h => ?_)
                  · obtain rfl := Option.some.inj h
                    exact rw_v (R := rmOf 1 0 0) F hP hD hS hr hlk ⟨Nat.le_of_ble_eq_true rfl, Nat.le_of_ble_eq_true rfl⟩ ⟨rfl, rfl⟩ (dd D_X9_look 134 rfl)
                  · refine lv_aload_n F.1 F.2.1 (dd D_X9_look 79 rfl) rfl (lv_at hl 0 rfl) ?_
                    refine getF F hK hP lf_X9_34 (0) (mp_0 cA am u0_L33) rfl (dd D_X9_look 80 rfl) ?_
                    refine lv_aload_n F.1 F.2.1 (dd D_X9_look 81 rfl) rfl (lv_at hl 0 rfl) ?_
                    refine getF F hK hP lf_X9_144 (0) (mp_0 cA am u0_L33) rfl (dd D_X9_look 82 rfl) ?_
                    refine aldI F hK hP (16) (mp_16 cA am u0_L33) h (dd D_X9_look 83 rfl) (fun z35 h => ?_)
                    refine ro_go (st' := [.int (bI (F_X9_isDigit ((m_tape u0_L33) (Int32.toNatClampNeg (m_atp u0_L33)))))]) (rS (rest := []) F (c_X9_isDigit D cA ((m_tape u0_L33) (Int32.toNatClampNeg (m_atp u0_L33))) l) lk_X9_159 (Nat.le_of_ble_eq_true rfl) (preRO hK hS hAb (emP)) rfl hl rfl (Nat.le_of_ble_eq_true rfl) (dd D_X9_look 84 rfl) ⟨Nat.le_of_ble_eq_true rfl, Nat.le_of_ble_eq_true rfl⟩) rfl ?_
                    refine x_bif_eq (tgt := 263) F.1 F.2.1 (dd D_X9_look 85 rfl) rfl h (fun c38 h => ?_) (fun c38 h => ?_)
                    · obtain rfl := Option.some.inj h
                      exact rw_v (R := rmOf 1 0 0) F hP hD hS hr hlk ⟨Nat.le_of_ble_eq_true rfl, Nat.le_of_ble_eq_true rfl⟩ ⟨rfl, rfl⟩ (dd D_X9_look 134 rfl)
                    · refine lv_aload_n F.1 F.2.1 (dd D_X9_look 86 rfl) rfl (lv_at hl 0 rfl) ?_
                      refine lv_aload_n F.1 F.2.1 (dd D_X9_look 87 rfl) rfl (lv_at hl 0 rfl) ?_
                      refine getF F hK hP lf_X9_144 (0) (mp_0 cA am u0_L33) rfl (dd D_X9_look 88 rfl) ?_
                      refine lv_aload_n F.1 F.2.1 (dd D_X9_look 89 rfl) rfl (lv_at hl 0 rfl) ?_
                      refine getF F hK hP lf_X9_147 (0) (mp_0 cA am u0_L33) rfl (dd D_X9_look 90 rfl) ?_
                      refine lv_isub F.1 F.2.1 (dd D_X9_look 91 rfl) ?_
                      refine lv_iconst (v := (4 : Int32)) F.1 F.2.1 (dd D_X9_look 92 rfl) ki_4 ?_
                      refine x_icmp_ge (tgt := 212) F.1 F.2.1 (dd D_X9_look 93 rfl) rfl h (fun c36 h => ?_) (fun c36 h => ?_)
                      · refine lv_ldc (own := RX9) (v := (100000 : Int32)) F.1 F.2.1 F.2.2.2.1 (F.2.2.2.2 _ (w_1396)) (dd D_X9_look 107 rfl) ?_
                        refine putF F hK hP hD hS lp_X9_150 (0) (mp_0 cA am u0_L33) (Nat.le_of_ble_eq_true rfl) (nar_int _) (fit_int _) (ws' := (mW cA am (m_set_figures u0_L33 (100000 : Int32)))) (ms_0_25 cA am u0_L33 (100000 : Int32)) (dd D_X9_look 108 rfl) (fun H locs hP hD hS => ?_)
                        refine lv_aload_n F.1 F.2.1 (dd D_X9_look 109 rfl) rfl (lv_at hl 0 rfl) ?_
                        refine lv_dup F.1 F.2.1 (dd D_X9_look 110 rfl) rfl ?_
                        refine getF F hK hP lf_X9_144 (0) (mp_0 cA am (m_set_figures u0_L33 (100000 : Int32))) rfl (dd D_X9_look 111 rfl) ?_
                        refine lv_iconst (v := (1 : Int32)) F.1 F.2.1 (dd D_X9_look 112 rfl) ki_1 ?_
                        refine lv_iadd F.1 F.2.1 (dd D_X9_look 113 rfl) ?_
                        refine putF F hK hP hD hS lp_X9_144 (0) (mp_0 cA am (m_set_figures u0_L33 (100000 : Int32))) (Nat.le_of_ble_eq_true rfl) (nar_int _) (fit_int _) (ws' := (mW cA am (m_set_atp (m_set_figures u0_L33 (100000 : Int32)) ((m_atp (m_set_figures u0_L33 (100000 : Int32))) + (1 : Int32))))) (ms_0_22 cA am (m_set_figures u0_L33 (100000 : Int32)) ((m_atp (m_set_figures u0_L33 (100000 : Int32))) + (1 : Int32))) (dd D_X9_look 114 rfl) (fun H locs hP hD hS => ?_)
                        refine lv_goto (tgt := 149) F.1 F.2.1 (dd D_X9_look 115 rfl) rfl ?_
                        exact ih_L33 (m_set_atp (m_set_figures u0_L33 (100000 : Int32)) ((m_atp (m_set_figures u0_L33 (100000 : Int32))) + (1 : Int32))) _ _ ls hP hD hS (lv_sub hl [0] rfl) h
                      · refine lv_aload_n F.1 F.2.1 (dd D_X9_look 94 rfl) rfl (lv_at hl 0 rfl) ?_
                        refine getF F hK hP lf_X9_150 (0) (mp_0 cA am u0_L33) rfl (dd D_X9_look 95 rfl) ?_
                        refine lv_bipush (v := (10 : Int32)) F.1 F.2.1 (dd D_X9_look 96 rfl) kb_10 ?_
                        refine lv_imul F.1 F.2.1 (dd D_X9_look 97 rfl) ?_
                        refine lv_aload_n F.1 F.2.1 (dd D_X9_look 98 rfl) rfl (lv_at hl 0 rfl) ?_
                        refine getF F hK hP lf_X9_34 (0) (mp_0 cA am u0_L33) rfl (dd D_X9_look 99 rfl) ?_
                        refine lv_aload_n F.1 F.2.1 (dd D_X9_look 100 rfl) rfl (lv_at hl 0 rfl) ?_
                        refine getF F hK hP lf_X9_144 (0) (mp_0 cA am u0_L33) rfl (dd D_X9_look 101 rfl) ?_
                        refine aldI F hK hP (16) (mp_16 cA am u0_L33) h (dd D_X9_look 102 rfl) (fun z37 h => ?_)
                        refine lv_iadd F.1 F.2.1 (dd D_X9_look 103 rfl) ?_
                        refine lv_bipush (v := (48 : Int32)) F.1 F.2.1 (dd D_X9_look 104 rfl) kb_48 ?_
                        refine lv_isub F.1 F.2.1 (dd D_X9_look 105 rfl) ?_
                        refine lv_goto (tgt := 214) F.1 F.2.1 (dd D_X9_look 106 rfl) rfl ?_
                        refine putF F hK hP hD hS lp_X9_150 (0) (mp_0 cA am u0_L33) (Nat.le_of_ble_eq_true rfl) (nar_int _) (fit_int _) (ws' := (mW cA am (m_set_figures u0_L33 ((((m_figures u0_L33) * (10 : Int32)) + ((m_tape u0_L33) (Int32.toNatClampNeg (m_atp u0_L33)))) - (48 : Int32))))) (ms_0_25 cA am u0_L33 ((((m_figures u0_L33) * (10 : Int32)) + ((m_tape u0_L33) (Int32.toNatClampNeg (m_atp u0_L33)))) - (48 : Int32))) (dd D_X9_look 108 rfl) (fun H locs hP hD hS => ?_)
                        refine lv_aload_n F.1 F.2.1 (dd D_X9_look 109 rfl) rfl (lv_at hl 0 rfl) ?_
                        refine lv_dup F.1 F.2.1 (dd D_X9_look 110 rfl) rfl ?_
                        refine getF F hK hP lf_X9_144 (0) (mp_0 cA am (m_set_figures u0_L33 ((((m_figures u0_L33) * (10 : Int32)) + ((m_tape u0_L33) (Int32.toNatClampNeg (m_atp u0_L33)))) - (48 : Int32)))) rfl (dd D_X9_look 111 rfl) ?_
                        refine lv_iconst (v := (1 : Int32)) F.1 F.2.1 (dd D_X9_look 112 rfl) ki_1 ?_
                        refine lv_iadd F.1 F.2.1 (dd D_X9_look 113 rfl) ?_
                        refine putF F hK hP hD hS lp_X9_144 (0) (mp_0 cA am (m_set_figures u0_L33 ((((m_figures u0_L33) * (10 : Int32)) + ((m_tape u0_L33) (Int32.toNatClampNeg (m_atp u0_L33)))) - (48 : Int32)))) (Nat.le_of_ble_eq_true rfl) (nar_int _) (fit_int _) (ws' := (mW cA am (m_set_atp (m_set_figures u0_L33 ((((m_figures u0_L33) * (10 : Int32)) + ((m_tape u0_L33) (Int32.toNatClampNeg (m_atp u0_L33)))) - (48 : Int32))) ((m_atp (m_set_figures u0_L33 ((((m_figures u0_L33) * (10 : Int32)) + ((m_tape u0_L33) (Int32.toNatClampNeg (m_atp u0_L33)))) - (48 : Int32)))) + (1 : Int32))))) (ms_0_22 cA am (m_set_figures u0_L33 ((((m_figures u0_L33) * (10 : Int32)) + ((m_tape u0_L33) (Int32.toNatClampNeg (m_atp u0_L33)))) - (48 : Int32))) ((m_atp (m_set_figures u0_L33 ((((m_figures u0_L33) * (10 : Int32)) + ((m_tape u0_L33) (Int32.toNatClampNeg (m_atp u0_L33)))) - (48 : Int32)))) + (1 : Int32))) (dd D_X9_look 114 rfl) (fun H locs hP hD hS => ?_)
                        refine lv_goto (tgt := 149) F.1 F.2.1 (dd D_X9_look 115 rfl) rfl ?_
                        exact ih_L33 (m_set_atp (m_set_figures u0_L33 ((((m_figures u0_L33) * (10 : Int32)) + ((m_tape u0_L33) (Int32.toNatClampNeg (m_atp u0_L33)))) - (48 : Int32))) ((m_atp (m_set_figures u0_L33 ((((m_figures u0_L33) * (10 : Int32)) + ((m_tape u0_L33) (Int32.toNatClampNeg (m_atp u0_L33)))) - (48 : Int32)))) + (1 : Int32))) _ _ ls hP hD hS (lv_sub hl [0] rfl) h
              exact L33 n (m_set_token (m_set_figures (m_set_frm u0_L26 (m_atp u0_L26)) (0 : Int32)) (2 : Int32)) _ _ ls hP hD hS (lv_sub hl [0] rfl) h
          · refine lv_aload_n F.1 F.2.1 (dd D_X9_look 42 rfl) rfl (lv_at hl 0 rfl) ?_
            refine lv_iconst (v := (1 : Int32)) F.1 F.2.1 (dd D_X9_look 43 rfl) ki_1 ?_
            refine putF F hK hP hD hS lp_X9_153 (0) (mp_0 cA am (m_set_figures (m_set_frm u0_L26 (m_atp u0_L26)) (0 : Int32))) (Nat.le_of_ble_eq_true rfl) (nar_int _) (fit_int _) (ws' := (mW cA am (m_set_token (m_set_figures (m_set_frm u0_L26 (m_atp u0_L26)) (0 : Int32)) (1 : Int32)))) (ms_0_23 cA am (m_set_figures (m_set_frm u0_L26 (m_atp u0_L26)) (0 : Int32)) (1 : Int32)) (dd D_X9_look 44 rfl) (fun H locs hP hD hS => ?_)
            have L40 : ∀ (kf : Nat) (u0_L40 : MS) (H : Heap) (locs : List Loc) (ls : Array Slot), va_P D vwCl (mW cA am u0_L40) H → va_D A (mW cA am u0_L40) → va_S A sM.heap H locs → lv_has ls 1 [(0, .ref (am 0))] → F_X9_look_L90 n (F_X9_look_L0 n k_L26) kf u0_L40 = some r → Wrw 1 0 0 D A (exq (none) (mW cA am r)) p l e sM m ([.ref (am 0)] : List Value).toArray below meth c H locs 0 0 90 ls [] := by
              intro kf
              induction kf with
              | zero =>
                intro u0_L40 H locs ls hP hD hS hl h
                cases (show none = some r from h)
              | succ k_L40 ih_L40 =>
                intro u0_L40 H locs ls hP hD hS hl h
                unfold F_X9_look_L90 at h
                refine lv_aload_n F.1 F.2.1 (dd D_X9_look 45 rfl) rfl (lv_at hl 0 rfl) ?_
                refine getF F hK hP lf_X9_144 (0) (mp_0 cA am u0_L40) rfl (dd D_X9_look 46 rfl) ?_
                refine lv_aload_n F.1 F.2.1 (dd D_X9_look 47 rfl) rfl (lv_at hl 0 rfl) ?_
                refine getF F hK hP lf_X9_141 (0) (mp_0 cA am u0_L40) rfl (dd D_X9_look 48 rfl) ?_
                refine x_icmp_ge (tgt := 263) F.1 F.2.1 (dd D_X9_look 49 rfl) rfl h (fun c41 h => ?_) (fun c41 h => ?_)
                · obtain rfl := Option.some.inj h
                  exact rw_v (R := rmOf 1 0 0) F hP hD hS hr hlk ⟨Nat.le_of_ble_eq_true rfl, Nat.le_of_ble_eq_true rfl⟩ ⟨rfl, rfl⟩ (dd D_X9_look 134 rfl)
                · refine lv_aload_n F.1 F.2.1 (dd D_X9_look 50 rfl) rfl (lv_at hl 0 rfl) ?_
                  refine getF F hK hP lf_X9_34 (0) (mp_0 cA am u0_L40) rfl (dd D_X9_look 51 rfl) ?_
                  refine lv_aload_n F.1 F.2.1 (dd D_X9_look 52 rfl) rfl (lv_at hl 0 rfl) ?_
                  refine getF F hK hP lf_X9_144 (0) (mp_0 cA am u0_L40) rfl (dd D_X9_look 53 rfl) ?_
                  refine aldI F hK hP (16) (mp_16 cA am u0_L40) h (dd D_X9_look 54 rfl) (fun z42 h => ?_)
                  refine ro_go (st' := [.int (bI (F_X9_isLetter ((m_tape u0_L40) (Int32.toNatClampNeg (m_atp u0_L40)))))]) (rS (rest := []) F (c_X9_isLetter D cA ((m_tape u0_L40) (Int32.toNatClampNeg (m_atp u0_L40))) l) lk_X9_156 (Nat.le_of_ble_eq_true rfl) (preRO hK hS hAb (emP)) rfl hl rfl (Nat.le_of_ble_eq_true rfl) (dd D_X9_look 55 rfl) ⟨Nat.le_of_ble_eq_true rfl, Nat.le_of_ble_eq_true rfl⟩) rfl ?_
                  refine x_bif_eq (tgt := 263) F.1 F.2.1 (dd D_X9_look 56 rfl) rfl h (fun c43 h => ?_) (fun c43 h => ?_)
                  · obtain rfl := Option.some.inj h
                    exact rw_v (R := rmOf 1 0 0) F hP hD hS hr hlk ⟨Nat.le_of_ble_eq_true rfl, Nat.le_of_ble_eq_true rfl⟩ ⟨rfl, rfl⟩ (dd D_X9_look 134 rfl)
                  · refine lv_aload_n F.1 F.2.1 (dd D_X9_look 57 rfl) rfl (lv_at hl 0 rfl) ?_
                    refine lv_dup F.1 F.2.1 (dd D_X9_look 58 rfl) rfl ?_
                    refine getF F hK hP lf_X9_144 (0) (mp_0 cA am u0_L40) rfl (dd D_X9_look 59 rfl) ?_
                    refine lv_iconst (v := (1 : Int32)) F.1 F.2.1 (dd D_X9_look 60 rfl) ki_1 ?_
                    refine lv_iadd F.1 F.2.1 (dd D_X9_look 61 rfl) ?_
                    refine putF F hK hP hD hS lp_X9_144 (0) (mp_0 cA am u0_L40) (Nat.le_of_ble_eq_true rfl) (nar_int _) (fit_int _) (ws' := (mW cA am (m_set_atp u0_L40 ((m_atp u0_L40) + (1 : Int32))))) (ms_0_22 cA am u0_L40 ((m_atp u0_L40) + (1 : Int32))) (dd D_X9_look 62 rfl) (fun H locs hP hD hS => ?_)
                    refine lv_goto (tgt := 90) F.1 F.2.1 (dd D_X9_look 63 rfl) rfl ?_
                    exact ih_L40 (m_set_atp u0_L40 ((m_atp u0_L40) + (1 : Int32))) _ _ ls hP hD hS (lv_sub hl [0] rfl) h
            exact L40 n (m_set_token (m_set_figures (m_set_frm u0_L26 (m_atp u0_L26)) (0 : Int32)) (1 : Int32)) _ _ ls hP hD hS (lv_sub hl [0] rfl) h
        · refine lv_aload_n F.1 F.2.1 (dd D_X9_look 31 rfl) rfl (lv_at hl 0 rfl) ?_
          refine lv_iconst (v := (0 : Int32)) F.1 F.2.1 (dd D_X9_look 32 rfl) ki_0 ?_
          refine putF F hK hP hD hS lp_X9_153 (0) (mp_0 cA am (m_set_figures (m_set_frm u0_L26 (m_atp u0_L26)) (0 : Int32))) (Nat.le_of_ble_eq_true rfl) (nar_int _) (fit_int _) (ws' := (mW cA am (m_set_token (m_set_figures (m_set_frm u0_L26 (m_atp u0_L26)) (0 : Int32)) (0 : Int32)))) (ms_0_23 cA am (m_set_figures (m_set_frm u0_L26 (m_atp u0_L26)) (0 : Int32)) (0 : Int32)) (dd D_X9_look 33 rfl) (fun H locs hP hD hS => ?_)
          refine lv_goto (tgt := 263) F.1 F.2.1 (dd D_X9_look 34 rfl) rfl ?_
          obtain rfl := Option.some.inj h
          exact rw_v (R := rmOf 1 0 0) F hP hD hS hr hlk ⟨Nat.le_of_ble_eq_true rfl, Nat.le_of_ble_eq_true rfl⟩ ⟨rfl, rfl⟩ (dd D_X9_look 134 rfl)
      · refine lv_aload_n F.1 F.2.1 (dd D_X9_look 5 rfl) rfl (lv_at hl 0 rfl) ?_
        refine getF F hK hP lf_X9_34 (0) (mp_0 cA am u0_L26) rfl (dd D_X9_look 6 rfl) ?_
        refine lv_aload_n F.1 F.2.1 (dd D_X9_look 7 rfl) rfl (lv_at hl 0 rfl) ?_
        refine getF F hK hP lf_X9_144 (0) (mp_0 cA am u0_L26) rfl (dd D_X9_look 8 rfl) ?_
        refine aldI F hK hP (16) (mp_16 cA am u0_L26) h (dd D_X9_look 9 rfl) (fun z45 h => ?_)
        refine lv_bipush (v := (32 : Int32)) F.1 F.2.1 (dd D_X9_look 10 rfl) kb_32 ?_
        refine x_icmp_ne (tgt := 38) F.1 F.2.1 (dd D_X9_look 11 rfl) rfl h (fun c46 h => ?_) (fun c46 h => ?_)
        · refine lv_aload_n F.1 F.2.1 (dd D_X9_look 19 rfl) rfl (lv_at hl 0 rfl) ?_
          refine lv_aload_n F.1 F.2.1 (dd D_X9_look 20 rfl) rfl (lv_at hl 0 rfl) ?_
          refine getF F hK hP lf_X9_144 (0) (mp_0 cA am u0_L26) rfl (dd D_X9_look 21 rfl) ?_
          refine putF F hK hP hD hS lp_X9_147 (0) (mp_0 cA am u0_L26) (Nat.le_of_ble_eq_true rfl) (nar_int _) (fit_int _) (ws' := (mW cA am (m_set_frm u0_L26 (m_atp u0_L26)))) (ms_0_24 cA am u0_L26 (m_atp u0_L26)) (dd D_X9_look 22 rfl) (fun H locs hP hD hS => ?_)
          refine lv_aload_n F.1 F.2.1 (dd D_X9_look 23 rfl) rfl (lv_at hl 0 rfl) ?_
          refine lv_iconst (v := (0 : Int32)) F.1 F.2.1 (dd D_X9_look 24 rfl) ki_0 ?_
          refine putF F hK hP hD hS lp_X9_150 (0) (mp_0 cA am (m_set_frm u0_L26 (m_atp u0_L26))) (Nat.le_of_ble_eq_true rfl) (nar_int _) (fit_int _) (ws' := (mW cA am (m_set_figures (m_set_frm u0_L26 (m_atp u0_L26)) (0 : Int32)))) (ms_0_25 cA am (m_set_frm u0_L26 (m_atp u0_L26)) (0 : Int32)) (dd D_X9_look 25 rfl) (fun H locs hP hD hS => ?_)
          refine lv_aload_n F.1 F.2.1 (dd D_X9_look 26 rfl) rfl (lv_at hl 0 rfl) ?_
          refine getF F hK hP lf_X9_144 (0) (mp_0 cA am (m_set_figures (m_set_frm u0_L26 (m_atp u0_L26)) (0 : Int32))) rfl (dd D_X9_look 27 rfl) ?_
          refine lv_aload_n F.1 F.2.1 (dd D_X9_look 28 rfl) rfl (lv_at hl 0 rfl) ?_
          refine getF F hK hP lf_X9_141 (0) (mp_0 cA am (m_set_figures (m_set_frm u0_L26 (m_atp u0_L26)) (0 : Int32))) rfl (dd D_X9_look 29 rfl) ?_
          refine x_icmp_ne (tgt := 70) F.1 F.2.1 (dd D_X9_look 30 rfl) rfl h (fun c47 h => ?_) (fun c47 h => ?_)
          · refine lv_aload_n F.1 F.2.1 (dd D_X9_look 35 rfl) rfl (lv_at hl 0 rfl) ?_
            refine getF F hK hP lf_X9_34 (0) (mp_0 cA am (m_set_figures (m_set_frm u0_L26 (m_atp u0_L26)) (0 : Int32))) rfl (dd D_X9_look 36 rfl) ?_
            refine lv_aload_n F.1 F.2.1 (dd D_X9_look 37 rfl) rfl (lv_at hl 0 rfl) ?_
            refine getF F hK hP lf_X9_144 (0) (mp_0 cA am (m_set_figures (m_set_frm u0_L26 (m_atp u0_L26)) (0 : Int32))) rfl (dd D_X9_look 38 rfl) ?_
            refine aldI F hK hP (16) (mp_16 cA am (m_set_figures (m_set_frm u0_L26 (m_atp u0_L26)) (0 : Int32))) h (dd D_X9_look 39 rfl) (fun z48 h => ?_)
            refine ro_go (st' := [.int (bI (F_X9_isLetter ((m_tape (m_set_figures (m_set_frm u0_L26 (m_atp u0_L26)) (0 : Int32))) (Int32.toNatClampNeg (m_atp (m_set_figures (m_set_frm u0_L26 (m_atp u0_L26)) (0 : Int32)))))))]) (rS (rest := []) F (c_X9_isLetter D cA ((m_tape (m_set_figures (m_set_frm u0_L26 (m_atp u0_L26)) (0 : Int32))) (Int32.toNatClampNeg (m_atp (m_set_figures (m_set_frm u0_L26 (m_atp u0_L26)) (0 : Int32))))) l) lk_X9_156 (Nat.le_of_ble_eq_true rfl) (preRO hK hS hAb (emP)) rfl hl rfl (Nat.le_of_ble_eq_true rfl) (dd D_X9_look 40 rfl) ⟨Nat.le_of_ble_eq_true rfl, Nat.le_of_ble_eq_true rfl⟩) rfl ?_
            refine x_bif_eq (tgt := 129) F.1 F.2.1 (dd D_X9_look 41 rfl) rfl h (fun c63 h => ?_) (fun c63 h => ?_)
            · refine lv_aload_n F.1 F.2.1 (dd D_X9_look 64 rfl) rfl (lv_at hl 0 rfl) ?_
              refine getF F hK hP lf_X9_34 (0) (mp_0 cA am (m_set_figures (m_set_frm u0_L26 (m_atp u0_L26)) (0 : Int32))) rfl (dd D_X9_look 65 rfl) ?_
              refine lv_aload_n F.1 F.2.1 (dd D_X9_look 66 rfl) rfl (lv_at hl 0 rfl) ?_
              refine getF F hK hP lf_X9_144 (0) (mp_0 cA am (m_set_figures (m_set_frm u0_L26 (m_atp u0_L26)) (0 : Int32))) rfl (dd D_X9_look 67 rfl) ?_
              refine aldI F hK hP (16) (mp_16 cA am (m_set_figures (m_set_frm u0_L26 (m_atp u0_L26)) (0 : Int32))) h (dd D_X9_look 68 rfl) (fun z49 h => ?_)
              refine ro_go (st' := [.int (bI (F_X9_isDigit ((m_tape (m_set_figures (m_set_frm u0_L26 (m_atp u0_L26)) (0 : Int32))) (Int32.toNatClampNeg (m_atp (m_set_figures (m_set_frm u0_L26 (m_atp u0_L26)) (0 : Int32)))))))]) (rS (rest := []) F (c_X9_isDigit D cA ((m_tape (m_set_figures (m_set_frm u0_L26 (m_atp u0_L26)) (0 : Int32))) (Int32.toNatClampNeg (m_atp (m_set_figures (m_set_frm u0_L26 (m_atp u0_L26)) (0 : Int32))))) l) lk_X9_159 (Nat.le_of_ble_eq_true rfl) (preRO hK hS hAb (emP)) rfl hl rfl (Nat.le_of_ble_eq_true rfl) (dd D_X9_look 69 rfl) ⟨Nat.le_of_ble_eq_true rfl, Nat.le_of_ble_eq_true rfl⟩) rfl ?_
              refine x_bif_eq (tgt := 230) F.1 F.2.1 (dd D_X9_look 70 rfl) rfl h (fun c58 h => ?_) (fun c58 h => ?_)
              · refine lv_aload_n F.1 F.2.1 (dd D_X9_look 116 rfl) rfl (lv_at hl 0 rfl) ?_
                refine lv_aload_n F.1 F.2.1 (dd D_X9_look 117 rfl) rfl (lv_at hl 0 rfl) ?_
                refine getF F hK hP lf_X9_34 (0) (mp_0 cA am (m_set_figures (m_set_frm u0_L26 (m_atp u0_L26)) (0 : Int32))) rfl (dd D_X9_look 118 rfl) ?_
                refine lv_aload_n F.1 F.2.1 (dd D_X9_look 119 rfl) rfl (lv_at hl 0 rfl) ?_
                refine getF F hK hP lf_X9_144 (0) (mp_0 cA am (m_set_figures (m_set_frm u0_L26 (m_atp u0_L26)) (0 : Int32))) rfl (dd D_X9_look 120 rfl) ?_
                refine aldI F hK hP (16) (mp_16 cA am (m_set_figures (m_set_frm u0_L26 (m_atp u0_L26)) (0 : Int32))) h (dd D_X9_look 121 rfl) (fun z50 h => ?_)
                refine lv_bipush (v := (59 : Int32)) F.1 F.2.1 (dd D_X9_look 122 rfl) kb_59 ?_
                refine x_icmp_ne (tgt := 249) F.1 F.2.1 (dd D_X9_look 123 rfl) rfl h (fun c51 h => ?_) (fun c51 h => ?_)
                · refine lv_iconst (v := (4 : Int32)) F.1 F.2.1 (dd D_X9_look 126 rfl) ki_4 ?_
                  refine putF F hK hP hD hS lp_X9_153 (0) (mp_0 cA am (m_set_figures (m_set_frm u0_L26 (m_atp u0_L26)) (0 : Int32))) (Nat.le_of_ble_eq_true rfl) (nar_int _) (fit_int _) (ws' := (mW cA am (m_set_token (m_set_figures (m_set_frm u0_L26 (m_atp u0_L26)) (0 : Int32)) (4 : Int32)))) (ms_0_23 cA am (m_set_figures (m_set_frm u0_L26 (m_atp u0_L26)) (0 : Int32)) (4 : Int32)) (dd D_X9_look 127 rfl) (fun H locs hP hD hS => ?_)
                  refine lv_aload_n F.1 F.2.1 (dd D_X9_look 128 rfl) rfl (lv_at hl 0 rfl) ?_
                  refine lv_dup F.1 F.2.1 (dd D_X9_look 129 rfl) rfl ?_
                  refine getF F hK hP lf_X9_144 (0) (mp_0 cA am (m_set_token (m_set_figures (m_set_frm u0_L26 (m_atp u0_L26)) (0 : Int32)) (4 : Int32))) rfl (dd D_X9_look 130 rfl) ?_
                  refine lv_iconst (v := (1 : Int32)) F.1 F.2.1 (dd D_X9_look 131 rfl) ki_1 ?_
                  refine lv_iadd F.1 F.2.1 (dd D_X9_look 132 rfl) ?_
                  refine putF F hK hP hD hS lp_X9_144 (0) (mp_0 cA am (m_set_token (m_set_figures (m_set_frm u0_L26 (m_atp u0_L26)) (0 : Int32)) (4 : Int32))) (Nat.le_of_ble_eq_true rfl) (nar_int _) (fit_int _) (ws' := (mW cA am (m_set_atp (m_set_token (m_set_figures (m_set_frm u0_L26 (m_atp u0_L26)) (0 : Int32)) (4 : Int32)) ((m_atp (m_set_token (m_set_figures (m_set_frm u0_L26 (m_atp u0_L26)) (0 : Int32)) (4 : Int32))) + (1 : Int32))))) (ms_0_22 cA am (m_set_token (m_set_figures (m_set_frm u0_L26 (m_atp u0_L26)) (0 : Int32)) (4 : Int32)) ((m_atp (m_set_token (m_set_figures (m_set_frm u0_L26 (m_atp u0_L26)) (0 : Int32)) (4 : Int32))) + (1 : Int32))) (dd D_X9_look 133 rfl) (fun H locs hP hD hS => ?_)
                  obtain rfl := Option.some.inj h
                  exact rw_v (R := rmOf 1 0 0) F hP hD hS hr hlk ⟨Nat.le_of_ble_eq_true rfl, Nat.le_of_ble_eq_true rfl⟩ ⟨rfl, rfl⟩ (dd D_X9_look 134 rfl)
                · refine lv_iconst (v := (3 : Int32)) F.1 F.2.1 (dd D_X9_look 124 rfl) ki_3 ?_
                  refine lv_goto (tgt := 250) F.1 F.2.1 (dd D_X9_look 125 rfl) rfl ?_
                  refine putF F hK hP hD hS lp_X9_153 (0) (mp_0 cA am (m_set_figures (m_set_frm u0_L26 (m_atp u0_L26)) (0 : Int32))) (Nat.le_of_ble_eq_true rfl) (nar_int _) (fit_int _) (ws' := (mW cA am (m_set_token (m_set_figures (m_set_frm u0_L26 (m_atp u0_L26)) (0 : Int32)) (3 : Int32)))) (ms_0_23 cA am (m_set_figures (m_set_frm u0_L26 (m_atp u0_L26)) (0 : Int32)) (3 : Int32)) (dd D_X9_look 127 rfl) (fun H locs hP hD hS => ?_)
                  refine lv_aload_n F.1 F.2.1 (dd D_X9_look 128 rfl) rfl (lv_at hl 0 rfl) ?_
                  refine lv_dup F.1 F.2.1 (dd D_X9_look 129 rfl) rfl ?_
                  refine getF F hK hP lf_X9_144 (0) (mp_0 cA am (m_set_token (m_set_figures (m_set_frm u0_L26 (m_atp u0_L26)) (0 : Int32)) (3 : Int32))) rfl (dd D_X9_look 130 rfl) ?_
                  refine lv_iconst (v := (1 : Int32)) F.1 F.2.1 (dd D_X9_look 131 rfl) ki_1 ?_
                  refine lv_iadd F.1 F.2.1 (dd D_X9_look 132 rfl) ?_
                  refine putF F hK hP hD hS lp_X9_144 (0) (mp_0 cA am (m_set_token (m_set_figures (m_set_frm u0_L26 (m_atp u0_L26)) (0 : Int32)) (3 : Int32))) (Nat.le_of_ble_eq_true rfl) (nar_int _) (fit_int _) (ws' := (mW cA am (m_set_atp (m_set_token (m_set_figures (m_set_frm u0_L26 (m_atp u0_L26)) (0 : Int32)) (3 : Int32)) ((m_atp (m_set_token (m_set_figures (m_set_frm u0_L26 (m_atp u0_L26)) (0 : Int32)) (3 : Int32))) + (1 : Int32))))) (ms_0_22 cA am (m_set_token (m_set_figures (m_set_frm u0_L26 (m_atp u0_L26)) (0 : Int32)) (3 : Int32)) ((m_atp (m_set_token (m_set_figures (m_set_frm u0_L26 (m_atp u0_L26)) (0 : Int32)) (3 : Int32))) + (1 : Int32))) (dd D_X9_look 133 rfl) (fun H locs hP hD hS => ?_)
                  obtain rfl := Option.some.inj h
                  exact rw_v (R := rmOf 1 0 0) F hP hD hS hr hlk ⟨Nat.le_of_ble_eq_true rfl, Nat.le_of_ble_eq_true rfl⟩ ⟨rfl, rfl⟩ (dd D_X9_look 134 rfl)
              · refine lv_aload_n F.1 F.2.1 (dd D_X9_look 71 rfl) rfl (lv_at hl 0 rfl) ?_
                refine lv_iconst (v := (2 : Int32)) F.1 F.2.1 (dd D_X9_look 72 rfl) ki_2 ?_
                refine putF F hK hP hD hS lp_X9_153 (0) (mp_0 cA am (m_set_figures (m_set_frm u0_L26 (m_atp u0_L26)) (0 : Int32))) (Nat.le_of_ble_eq_true rfl) (nar_int _) (fit_int _) (ws' := (mW cA am (m_set_token (m_set_figures (m_set_frm u0_L26 (m_atp u0_L26)) (0 : Int32)) (2 : Int32)))) (ms_0_23 cA am (m_set_figures (m_set_frm u0_L26 (m_atp u0_L26)) (0 : Int32)) (2 : Int32)) (dd D_X9_look 73 rfl) (fun H locs hP hD hS => ?_)
                have L52 : ∀ (kf : Nat) (u0_L52 : MS) (H : Heap) (locs : List Loc) (ls : Array Slot), va_P D vwCl (mW cA am u0_L52) H → va_D A (mW cA am u0_L52) → va_S A sM.heap H locs → lv_has ls 1 [(0, .ref (am 0))] → F_X9_look_L149 n (F_X9_look_L0 n k_L26) kf u0_L52 = some r → Wrw 1 0 0 D A (exq (none) (mW cA am r)) p l e sM m ([.ref (am 0)] : List Value).toArray below meth c H locs 0 0 149 ls [] := by
                  intro kf
                  induction kf with
                  | zero =>
                    intro u0_L52 H locs ls hP hD hS hl h
                    cases (show none = some r from h)
                  | succ k_L52 ih_L52 =>
                    intro u0_L52 H locs ls hP hD hS hl h
                    unfold F_X9_look_L149 at h
                    refine lv_aload_n F.1 F.2.1 (dd D_X9_look 74 rfl) rfl (lv_at hl 0 rfl) ?_
                    refine getF F hK hP lf_X9_144 (0) (mp_0 cA am u0_L52) rfl (dd D_X9_look 75 rfl) ?_
                    refine lv_aload_n F.1 F.2.1 (dd D_X9_look 76 rfl) rfl (lv_at hl 0 rfl) ?_
                    refine getF F hK hP lf_X9_141 (0) (mp_0 cA am u0_L52) rfl (dd D_X9_look 77 rfl) ?_
                    refine x_icmp_ge (tgt := 263) F.1 F.2.1 (dd D_X9_look 78 rfl) rfl h (fun c53 h => ?_) (fun c53 h => ?_)
                    · obtain rfl := Option.some.inj h
                      exact rw_v (R := rmOf 1 0 0) F hP hD hS hr hlk ⟨Nat.le_of_ble_eq_true rfl, Nat.le_of_ble_eq_true rfl⟩ ⟨rfl, rfl⟩ (dd D_X9_look 134 rfl)
                    · refine lv_aload_n F.1 F.2.1 (dd D_X9_look 79 rfl) rfl (lv_at hl 0 rfl) ?_
                      refine getF F hK hP lf_X9_34 (0) (mp_0 cA am u0_L52) rfl (dd D_X9_look 80 rfl) ?_
                      refine lv_aload_n F.1 F.2.1 (dd D_X9_look 81 rfl) rfl (lv_at hl 0 rfl) ?_
                      refine getF F hK hP lf_X9_144 (0) (mp_0 cA am u0_L52) rfl (dd D_X9_look 82 rfl) ?_
                      refine aldI F hK hP (16) (mp_16 cA am u0_L52) h (dd D_X9_look 83 rfl) (fun z54 h => ?_)
                      refine ro_go (st' := [.int (bI (F_X9_isDigit ((m_tape u0_L52) (Int32.toNatClampNeg (m_atp u0_L52)))))]) (rS (rest := []) F (c_X9_isDigit D cA ((m_tape u0_L52) (Int32.toNatClampNeg (m_atp u0_L52))) l) lk_X9_159 (Nat.le_of_ble_eq_true rfl) (preRO hK hS hAb (emP)) rfl hl rfl (Nat.le_of_ble_eq_true rfl) (dd D_X9_look 84 rfl) ⟨Nat.le_of_ble_eq_true rfl, Nat.le_of_ble_eq_true rfl⟩) rfl ?_
                      refine x_bif_eq (tgt := 263) F.1 F.2.1 (dd D_X9_look 85 rfl) rfl h (fun c57 h => ?_) (fun c57 h => ?_)
                      · obtain rfl := Option.some.inj h
                        exact rw_v (R := rmOf 1 0 0) F hP hD hS hr hlk ⟨Nat.le_of_ble_eq_true rfl, Nat.le_of_ble_eq_true rfl⟩ ⟨rfl, rfl⟩ (dd D_X9_look 134 rfl)
                      · refine lv_aload_n F.1 F.2.1 (dd D_X9_look 86 rfl) rfl (lv_at hl 0 rfl) ?_
                        refine lv_aload_n F.1 F.2.1 (dd D_X9_look 87 rfl) rfl (lv_at hl 0 rfl) ?_
                        refine getF F hK hP lf_X9_144 (0) (mp_0 cA am u0_L52) rfl (dd D_X9_look 88 rfl) ?_
                        refine lv_aload_n F.1 F.2.1 (dd D_X9_look 89 rfl) rfl (lv_at hl 0 rfl) ?_
                        refine getF F hK hP lf_X9_147 (0) (mp_0 cA am u0_L52) rfl (dd D_X9_look 90 rfl) ?_
                        refine lv_isub F.1 F.2.1 (dd D_X9_look 91 rfl) ?_
                        refine lv_iconst (v := (4 : Int32)) F.1 F.2.1 (dd D_X9_look 92 rfl) ki_4 ?_
                        refine x_icmp_ge (tgt := 212) F.1 F.2.1 (dd D_X9_look 93 rfl) rfl h (fun c55 h => ?_) (fun c55 h => ?_)
                        · refine lv_ldc (own := RX9) (v := (100000 : Int32)) F.1 F.2.1 F.2.2.2.1 (F.2.2.2.2 _ (w_1396)) (dd D_X9_look 107 rfl) ?_
                          refine putF F hK hP hD hS lp_X9_150 (0) (mp_0 cA am u0_L52) (Nat.le_of_ble_eq_true rfl) (nar_int _) (fit_int _) (ws' := (mW cA am (m_set_figures u0_L52 (100000 : Int32)))) (ms_0_25 cA am u0_L52 (100000 : Int32)) (dd D_X9_look 108 rfl) (fun H locs hP hD hS => ?_)
                          refine lv_aload_n F.1 F.2.1 (dd D_X9_look 109 rfl) rfl (lv_at hl 0 rfl) ?_
                          refine lv_dup F.1 F.2.1 (dd D_X9_look 110 rfl) rfl ?_
                          refine getF F hK hP lf_X9_144 (0) (mp_0 cA am (m_set_figures u0_L52 (100000 : Int32))) rfl (dd D_X9_look 111 rfl) ?_
                          refine lv_iconst (v := (1 : Int32)) F.1 F.2.1 (dd D_X9_look 112 rfl) ki_1 ?_
                          refine lv_iadd F.1 F.2.1 (dd D_X9_look 113 rfl) ?_
                          refine putF F hK hP hD hS lp_X9_144 (0) (mp_0 cA am (m_set_figures u0_L52 (100000 : Int32))) (Nat.le_of_ble_eq_true rfl) (nar_int _) (fit_int _) (ws' := (mW cA am (m_set_atp (m_set_figures u0_L52 (100000 : Int32)) ((m_atp (m_set_figures u0_L52 (100000 : Int32))) + (1 : Int32))))) (ms_0_22 cA am (m_set_figures u0_L52 (100000 : Int32)) ((m_atp (m_set_figures u0_L52 (100000 : Int32))) + (1 : Int32))) (dd D_X9_look 114 rfl) (fun H locs hP hD hS => ?_)
                          refine lv_goto (tgt := 149) F.1 F.2.1 (dd D_X9_look 115 rfl) rfl ?_
                          exact ih_L52 (m_set_atp (m_set_figures u0_L52 (100000 : Int32)) ((m_atp (m_set_figures u0_L52 (100000 : Int32))) + (1 : Int32))) _ _ ls hP hD hS (lv_sub hl [0] rfl) h
                        · refine lv_aload_n F.1 F.2.1 (dd D_X9_look 94 rfl) rfl (lv_at hl 0 rfl) ?_
                          refine getF F hK hP lf_X9_150 (0) (mp_0 cA am u0_L52) rfl (dd D_X9_look 95 rfl) ?_
                          refine lv_bipush (v := (10 : Int32)) F.1 F.2.1 (dd D_X9_look 96 rfl) kb_10 ?_
                          refine lv_imul F.1 F.2.1 (dd D_X9_look 97 rfl) ?_
                          refine lv_aload_n F.1 F.2.1 (dd D_X9_look 98 rfl) rfl (lv_at hl 0 rfl) ?_
                          refine getF F hK hP lf_X9_34 (0) (mp_0 cA am u0_L52) rfl (dd D_X9_look 99 rfl) ?_
                          refine lv_aload_n F.1 F.2.1 (dd D_X9_look 100 rfl) rfl (lv_at hl 0 rfl) ?_
                          refine getF F hK hP lf_X9_144 (0) (mp_0 cA am u0_L52) rfl (dd D_X9_look 101 rfl) ?_
                          refine aldI F hK hP (16) (mp_16 cA am u0_L52) h (dd D_X9_look 102 rfl) (fun z56 h => ?_)
                          refine lv_iadd F.1 F.2.1 (dd D_X9_look 103 rfl) ?_
                          refine lv_bipush (v := (48 : Int32)) F.1 F.2.1 (dd D_X9_look 104 rfl) kb_48 ?_
                          refine lv_isub F.1 F.2.1 (dd D_X9_look 105 rfl) ?_
                          refine lv_goto (tgt := 214) F.1 F.2.1 (dd D_X9_look 106 rfl) rfl ?_
                          refine putF F hK hP hD hS lp_X9_150 (0) (mp_0 cA am u0_L52) (Nat.le_of_ble_eq_true rfl) (nar_int _) (fit_int _) (ws' := (mW cA am (m_set_figures u0_L52 ((((m_figures u0_L52) * (10 : Int32)) + ((m_tape u0_L52) (Int32.toNatClampNeg (m_atp u0_L52)))) - (48 : Int32))))) (ms_0_25 cA am u0_L52 ((((m_figures u0_L52) * (10 : Int32)) + ((m_tape u0_L52) (Int32.toNatClampNeg (m_atp u0_L52)))) - (48 : Int32))) (dd D_X9_look 108 rfl) (fun H locs hP hD hS => ?_)
                          refine lv_aload_n F.1 F.2.1 (dd D_X9_look 109 rfl) rfl (lv_at hl 0 rfl) ?_
                          refine lv_dup F.1 F.2.1 (dd D_X9_look 110 rfl) rfl ?_
                          refine getF F hK hP lf_X9_144 (0) (mp_0 cA am (m_set_figures u0_L52 ((((m_figures u0_L52) * (10 : Int32)) + ((m_tape u0_L52) (Int32.toNatClampNeg (m_atp u0_L52)))) - (48 : Int32)))) rfl (dd D_X9_look 111 rfl) ?_
                          refine lv_iconst (v := (1 : Int32)) F.1 F.2.1 (dd D_X9_look 112 rfl) ki_1 ?_
                          refine lv_iadd F.1 F.2.1 (dd D_X9_look 113 rfl) ?_
                          refine putF F hK hP hD hS lp_X9_144 (0) (mp_0 cA am (m_set_figures u0_L52 ((((m_figures u0_L52) * (10 : Int32)) + ((m_tape u0_L52) (Int32.toNatClampNeg (m_atp u0_L52)))) - (48 : Int32)))) (Nat.le_of_ble_eq_true rfl) (nar_int _) (fit_int _) (ws' := (mW cA am (m_set_atp (m_set_figures u0_L52 ((((m_figures u0_L52) * (10 : Int32)) + ((m_tape u0_L52) (Int32.toNatClampNeg (m_atp u0_L52)))) - (48 : Int32))) ((m_atp (m_set_figures u0_L52 ((((m_figures u0_L52) * (10 : Int32)) + ((m_tape u0_L52) (Int32.toNatClampNeg (m_atp u0_L52)))) - (48 : Int32)))) + (1 : Int32))))) (ms_0_22 cA am (m_set_figures u0_L52 ((((m_figures u0_L52) * (10 : Int32)) + ((m_tape u0_L52) (Int32.toNatClampNeg (m_atp u0_L52)))) - (48 : Int32))) ((m_atp (m_set_figures u0_L52 ((((m_figures u0_L52) * (10 : Int32)) + ((m_tape u0_L52) (Int32.toNatClampNeg (m_atp u0_L52)))) - (48 : Int32)))) + (1 : Int32))) (dd D_X9_look 114 rfl) (fun H locs hP hD hS => ?_)
                          refine lv_goto (tgt := 149) F.1 F.2.1 (dd D_X9_look 115 rfl) rfl ?_
                          exact ih_L52 (m_set_atp (m_set_figures u0_L52 ((((m_figures u0_L52) * (10 : Int32)) + ((m_tape u0_L52) (Int32.toNatClampNeg (m_atp u0_L52)))) - (48 : Int32))) ((m_atp (m_set_figures u0_L52 ((((m_figures u0_L52) * (10 : Int32)) + ((m_tape u0_L52) (Int32.toNatClampNeg (m_atp u0_L52)))) - (48 : Int32)))) + (1 : Int32))) _ _ ls hP hD hS (lv_sub hl [0] rfl) h
                exact L52 n (m_set_token (m_set_figures (m_set_frm u0_L26 (m_atp u0_L26)) (0 : Int32)) (2 : Int32)) _ _ ls hP hD hS (lv_sub hl [0] rfl) h
            · refine lv_aload_n F.1 F.2.1 (dd D_X9_look 42 rfl) rfl (lv_at hl 0 rfl) ?_
              refine lv_iconst (v := (1 : Int32)) F.1 F.2.1 (dd D_X9_look 43 rfl) ki_1 ?_
              refine putF F hK hP hD hS lp_X9_153 (0) (mp_0 cA am (m_set_figures (m_set_frm u0_L26 (m_atp u0_L26)) (0 : Int32))) (Nat.le_of_ble_eq_true rfl) (nar_int _) (fit_int _) (ws' := (mW cA am (m_set_token (m_set_figures (m_set_frm u0_L26 (m_atp u0_L26)) (0 : Int32)) (1 : Int32)))) (ms_0_23 cA am (m_set_figures (m_set_frm u0_L26 (m_atp u0_L26)) (0 : Int32)) (1 : Int32)) (dd D_X9_look 44 rfl) (fun H locs hP hD hS => ?_)
              have L59 : ∀ (kf : Nat) (u0_L59 : MS) (H : Heap) (locs : List Loc) (ls : Array Slot), va_P D vwCl (mW cA am u0_L59) H → va_D A (mW cA am u0_L59) → va_S A sM.heap H locs → lv_has ls 1 [(0, .ref (am 0))] → F_X9_look_L90 n (F_X9_look_L0 n k_L26) kf u0_L59 = some r → Wrw 1 0 0 D A (exq (none) (mW cA am r)) p l e sM m ([.ref (am 0)] : List Value).toArray below meth c H locs 0 0 90 ls [] := by
                intro kf
                induction kf with
                | zero =>
                  intro u0_L59 H locs ls hP hD hS hl h
                  cases (show none = some r from h)
                | succ k_L59 ih_L59 =>
                  intro u0_L59 H locs ls hP hD hS hl h
                  unfold F_X9_look_L90 at h
                  refine lv_aload_n F.1 F.2.1 (dd D_X9_look 45 rfl) rfl (lv_at hl 0 rfl) ?_
                  refine getF F hK hP lf_X9_144 (0) (mp_0 cA am u0_L59) rfl (dd D_X9_look 46 rfl) ?_
                  refine lv_aload_n F.1 F.2.1 (dd D_X9_look 47 rfl) rfl (lv_at hl 0 rfl) ?_
                  refine getF F hK hP lf_X9_141 (0) (mp_0 cA am u0_L59) rfl (dd D_X9_look 48 rfl) ?_
                  refine x_icmp_ge (tgt := 263) F.1 F.2.1 (dd D_X9_look 49 rfl) rfl h (fun c60 h => ?_) (fun c60 h => ?_)
                  · obtain rfl := Option.some.inj h
                    exact rw_v (R := rmOf 1 0 0) F hP hD hS hr hlk ⟨Nat.le_of_ble_eq_true rfl, Nat.le_of_ble_eq_true rfl⟩ ⟨rfl, rfl⟩ (dd D_X9_look 134 rfl)
                  · refine lv_aload_n F.1 F.2.1 (dd D_X9_look 50 rfl) rfl (lv_at hl 0 rfl) ?_
                    refine getF F hK hP lf_X9_34 (0) (mp_0 cA am u0_L59) rfl (dd D_X9_look 51 rfl) ?_
                    refine lv_aload_n F.1 F.2.1 (dd D_X9_look 52 rfl) rfl (lv_at hl 0 rfl) ?_
                    refine getF F hK hP lf_X9_144 (0) (mp_0 cA am u0_L59) rfl (dd D_X9_look 53 rfl) ?_
                    refine aldI F hK hP (16) (mp_16 cA am u0_L59) h (dd D_X9_look 54 rfl) (fun z61 h => ?_)
                    refine ro_go (st' := [.int (bI (F_X9_isLetter ((m_tape u0_L59) (Int32.toNatClampNeg (m_atp u0_L59)))))]) (rS (rest := []) F (c_X9_isLetter D cA ((m_tape u0_L59) (Int32.toNatClampNeg (m_atp u0_L59))) l) lk_X9_156 (Nat.le_of_ble_eq_true rfl) (preRO hK hS hAb (emP)) rfl hl rfl (Nat.le_of_ble_eq_true rfl) (dd D_X9_look 55 rfl) ⟨Nat.le_of_ble_eq_true rfl, Nat.le_of_ble_eq_true rfl⟩) rfl ?_
                    refine x_bif_eq (tgt := 263) F.1 F.2.1 (dd D_X9_look 56 rfl) rfl h (fun c62 h => ?_) (fun c62 h => ?_)
                    · obtain rfl := Option.some.inj h
                      exact rw_v (R := rmOf 1 0 0) F hP hD hS hr hlk ⟨Nat.le_of_ble_eq_true rfl, Nat.le_of_ble_eq_true rfl⟩ ⟨rfl, rfl⟩ (dd D_X9_look 134 rfl)
                    · refine lv_aload_n F.1 F.2.1 (dd D_X9_look 57 rfl) rfl (lv_at hl 0 rfl) ?_
                      refine lv_dup F.1 F.2.1 (dd D_X9_look 58 rfl) rfl ?_
                      refine getF F hK hP lf_X9_144 (0) (mp_0 cA am u0_L59) rfl (dd D_X9_look 59 rfl) ?_
                      refine lv_iconst (v := (1 : Int32)) F.1 F.2.1 (dd D_X9_look 60 rfl) ki_1 ?_
                      refine lv_iadd F.1 F.2.1 (dd D_X9_look 61 rfl) ?_
                      refine putF F hK hP hD hS lp_X9_144 (0) (mp_0 cA am u0_L59) (Nat.le_of_ble_eq_true rfl) (nar_int _) (fit_int _) (ws' := (mW cA am (m_set_atp u0_L59 ((m_atp u0_L59) + (1 : Int32))))) (ms_0_22 cA am u0_L59 ((m_atp u0_L59) + (1 : Int32))) (dd D_X9_look 62 rfl) (fun H locs hP hD hS => ?_)
                      refine lv_goto (tgt := 90) F.1 F.2.1 (dd D_X9_look 63 rfl) rfl ?_
                      exact ih_L59 (m_set_atp u0_L59 ((m_atp u0_L59) + (1 : Int32))) _ _ ls hP hD hS (lv_sub hl [0] rfl) h
              exact L59 n (m_set_token (m_set_figures (m_set_frm u0_L26 (m_atp u0_L26)) (0 : Int32)) (1 : Int32)) _ _ ls hP hD hS (lv_sub hl [0] rfl) h
          · refine lv_aload_n F.1 F.2.1 (dd D_X9_look 31 rfl) rfl (lv_at hl 0 rfl) ?_
            refine lv_iconst (v := (0 : Int32)) F.1 F.2.1 (dd D_X9_look 32 rfl) ki_0 ?_
            refine putF F hK hP hD hS lp_X9_153 (0) (mp_0 cA am (m_set_figures (m_set_frm u0_L26 (m_atp u0_L26)) (0 : Int32))) (Nat.le_of_ble_eq_true rfl) (nar_int _) (fit_int _) (ws' := (mW cA am (m_set_token (m_set_figures (m_set_frm u0_L26 (m_atp u0_L26)) (0 : Int32)) (0 : Int32)))) (ms_0_23 cA am (m_set_figures (m_set_frm u0_L26 (m_atp u0_L26)) (0 : Int32)) (0 : Int32)) (dd D_X9_look 33 rfl) (fun H locs hP hD hS => ?_)
            refine lv_goto (tgt := 263) F.1 F.2.1 (dd D_X9_look 34 rfl) rfl ?_
            obtain rfl := Option.some.inj h
            exact rw_v (R := rmOf 1 0 0) F hP hD hS hr hlk ⟨Nat.le_of_ble_eq_true rfl, Nat.le_of_ble_eq_true rfl⟩ ⟨rfl, rfl⟩ (dd D_X9_look 134 rfl)
        · refine lv_aload_n F.1 F.2.1 (dd D_X9_look 12 rfl) rfl (lv_at hl 0 rfl) ?_
          refine lv_dup F.1 F.2.1 (dd D_X9_look 13 rfl) rfl ?_
          refine getF F hK hP lf_X9_144 (0) (mp_0 cA am u0_L26) rfl (dd D_X9_look 14 rfl) ?_
          refine lv_iconst (v := (1 : Int32)) F.1 F.2.1 (dd D_X9_look 15 rfl) ki_1 ?_
          refine lv_iadd F.1 F.2.1 (dd D_X9_look 16 rfl) ?_
          refine putF F hK hP hD hS lp_X9_144 (0) (mp_0 cA am u0_L26) (Nat.le_of_ble_eq_true rfl) (nar_int _) (fit_int _) (ws' := (mW cA am (m_set_atp u0_L26 ((m_atp u0_L26) + (1 : Int32))))) (ms_0_22 cA am u0_L26 ((m_atp u0_L26) + (1 : Int32))) (dd D_X9_look 17 rfl) (fun H locs hP hD hS => ?_)
          refine lv_goto (tgt := 0) F.1 F.2.1 (dd D_X9_look 18 rfl) rfl ?_
          exact ih_L26 (m_set_atp u0_L26 ((m_atp u0_L26) + (1 : Int32))) _ _ ls hP hD hS (lv_sub hl [0] rfl) h
  exact L26 n s _ _ ls hP hD hS (lv_sub hl [0] rfl) h
