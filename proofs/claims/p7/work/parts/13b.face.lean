def F_X8_ask (n : Nat) (s : XS) (p1 : Int32) (p2 : Int32) : Option (Int32 × XS) := bf (F_X8_isIn p1 (0 : Int32) (3 : Int32)) ((if p1 = (3 : Int32) then bf (F_X8_isIn p2 (0 : Int32) (9 : Int32)) (some ((F_X6_askedOf (x_now s) p1), (x_set_now s (F_X6_setAsked (x_now s) p1 p2)))) ((((F_X8_refuse n s (-2 : Int32))).bind fun r7 => some (r7.1, r7.2))) else bf (F_X8_isIn p2 (0 : Int32) (9999 : Int32)) (some ((F_X6_askedOf (x_now s) p1), (x_set_now s (F_X6_setAsked (x_now s) p1 p2)))) ((((F_X8_refuse n s (-2 : Int32))).bind fun r4 => some (r4.1, r4.2))))) ((((F_X8_refuse n s (-2 : Int32))).bind fun r1 => some (r1.1, r1.2)))
set_option maxHeartbeats 4000000 in
set_option maxRecDepth 100000 in
theorem c_X8_ask (D : va_G) (cA : Nat → ClassId) (ax : Nat → Nat) (s : XS) (n : Nat) (p1 : Int32) (p2 : Int32) (r : (Int32 × XS)) (h : F_X8_ask n s p1 p2 = some r) : RW m_X8_ask 1 0 0 D cA [.ref (ax 0), .int p1, .int p2] (xW cA ax s) (exq (some (.int r.1)) (xW cA ax r.2)) := by
  refine RW.ofW gy_X8_ask.2.2 (Nat.le_of_ble_eq_true rfl) ?_
  intro l p e sM m below meth c A H locs F hr hlk hnm hK hP hD hS hA hAb ls hl
  have hl : lv_has ls 4 [(0, .ref (ax 0)), (1, .int p1), (2, .int p2)] := hl
  unfold F_X8_ask at h
  refine lv_iload_n F.1 F.2.1 (dd D_X8_ask 0 rfl) rfl (lv_at hl 1 rfl) ?_
  refine lv_iconst (v := (0 : Int32)) F.1 F.2.1 (dd D_X8_ask 1 rfl) ki_0 ?_
  refine lv_iconst (v := (3 : Int32)) F.1 F.2.1 (dd D_X8_ask 2 rfl) ki_3 ?_
  refine ro_go (st' := [.int (bI (F_X8_isIn p1 (0 : Int32) (3 : Int32)))]) (rS (rest := []) F (c_X8_isIn D cA p1 (0 : Int32) (3 : Int32) l) lk_X8_60 (Nat.le_of_ble_eq_true rfl) (preRO hK hS hAb (emP)) rfl hl rfl (Nat.le_of_ble_eq_true rfl) (dd D_X8_ask 3 rfl) ⟨Nat.le_of_ble_eq_true rfl, Nat.le_of_ble_eq_true rfl⟩) rfl ?_
  refine x_bif_eq (tgt := 30) F.1 F.2.1 (dd D_X8_ask 4 rfl) rfl h (fun c10 h => ?_) (fun c10 h => ?_)
  · refine lv_aload_n F.1 F.2.1 (dd D_X8_ask 15 rfl) rfl (lv_at hl 0 rfl) ?_
    refine lv_bipush (v := (-2 : Int32)) F.1 F.2.1 (dd D_X8_ask 16 rfl) kb_m2 ?_
    obtain ⟨r1, e2, h⟩ := Option.bind_eq_some_iff.mp h
    refine rwe_all (st' := [.int r1.1]) hD hS hA (rV (rest := []) F (c_X8_refuse D cA ax s n (-2 : Int32) r1 e2 l H.size) lk_X8_64 (Nat.le_of_ble_eq_true rfl) (preRW hK hS hAb hP hD) (rcv_8 hK hP (q0 := (0)) (xp_0 cA ax s)) rfl hl rfl (Nat.le_of_ble_eq_true rfl) (dd D_X8_ask 17 rfl) ⟨Nat.le_of_ble_eq_true rfl, Nat.le_of_ble_eq_true rfl⟩) rfl (fun H locs hP hD hS => ?_)
    obtain rfl := Option.some.inj h
    exact rw_i (R := rmOf 1 0 0) F hP hD hS hr hlk ⟨Nat.le_of_ble_eq_true rfl, Nat.le_of_ble_eq_true rfl⟩ ⟨rfl, rfl⟩ (dd D_X8_ask 18 rfl)
  · refine lv_iload_n F.1 F.2.1 (dd D_X8_ask 5 rfl) rfl (lv_at hl 2 rfl) ?_
    refine lv_iconst (v := (0 : Int32)) F.1 F.2.1 (dd D_X8_ask 6 rfl) ki_0 ?_
    refine lv_iload_n F.1 F.2.1 (dd D_X8_ask 7 rfl) rfl (lv_at hl 1 rfl) ?_
    refine lv_iconst (v := (3 : Int32)) F.1 F.2.1 (dd D_X8_ask 8 rfl) ki_3 ?_
    refine x_icmp_ne (tgt := 21) F.1 F.2.1 (dd D_X8_ask 9 rfl) rfl h (fun c3 h => ?_) (fun c3 h => ?_)
    · refine lv_sipush (v := (9999 : Int32)) F.1 F.2.1 (dd D_X8_ask 12 rfl) ks_9999 ?_
      refine ro_go (st' := [.int (bI (F_X8_isIn p2 (0 : Int32) (9999 : Int32)))]) (rS (rest := []) F (c_X8_isIn D cA p2 (0 : Int32) (9999 : Int32) l) lk_X8_60 (Nat.le_of_ble_eq_true rfl) (preRO hK hS hAb (emP)) rfl hl rfl (Nat.le_of_ble_eq_true rfl) (dd D_X8_ask 13 rfl) ⟨Nat.le_of_ble_eq_true rfl, Nat.le_of_ble_eq_true rfl⟩) rfl ?_
      refine x_bif_ne (tgt := 37) F.1 F.2.1 (dd D_X8_ask 14 rfl) rfl h (fun c6 h => ?_) (fun c6 h => ?_)
      · refine lv_aload_n F.1 F.2.1 (dd D_X8_ask 19 rfl) rfl (lv_at hl 0 rfl) ?_
        refine getF F hK hP lf_X8_10 (0) (xp_0 cA ax s) rfl (dd D_X8_ask 20 rfl) ?_
        refine lv_iload_n F.1 F.2.1 (dd D_X8_ask 21 rfl) rfl (lv_at hl 1 rfl) ?_
        refine ro_go (st' := [.int (F_X6_askedOf (x_now s) p1)]) (rV (rest := []) F (c_X6_askedOf D cA (fun i => ax (1+i)) (x_now s) p1 l) lk_X8_141 (Nat.le_of_ble_eq_true rfl) (preRO hK hS hAb (pg_x_1 hP)) (rcv_6 hK hP (q0 := (1)) (xp_1 cA ax s)) rfl hl rfl (Nat.le_of_ble_eq_true rfl) (dd D_X8_ask 22 rfl) ⟨Nat.le_of_ble_eq_true rfl, Nat.le_of_ble_eq_true rfl⟩) rfl ?_
        refine lv_istore_n (lv' := [(3, .int (F_X6_askedOf (x_now s) p1)), (0, .ref (ax 0)), (1, .int p1), (2, .int p2)]) F.1 F.2.1 (dd D_X8_ask 23 rfl) rfl hl (Nat.le_of_ble_eq_true rfl) rfl (fun ls hl => ?_)
        refine lv_aload_n F.1 F.2.1 (dd D_X8_ask 24 rfl) rfl (lv_at hl 1 rfl) ?_
        refine getF F hK hP lf_X8_10 (0) (xp_0 cA ax s) rfl (dd D_X8_ask 25 rfl) ?_
        refine lv_iload_n F.1 F.2.1 (dd D_X8_ask 26 rfl) rfl (lv_at hl 2 rfl) ?_
        refine lv_iload_n F.1 F.2.1 (dd D_X8_ask 27 rfl) rfl (lv_at hl 3 rfl) ?_
        refine rwe (V := none) (wc := (stateW cA (fun i => ax (1+i)) (x_now s))) (wc' := (stateW cA (fun i => ax (1+i)) (F_X6_setAsked (x_now s) p1 p2))) (st' := []) (W' := (xW cA ax (x_set_now s (F_X6_setAsked (x_now s) p1 p2)))) hP hD hS hA [1, 2, 3, 4, 5, 6, 7, 8, 9, 10, 11, 12, 13] (jc_x_1 cA ax s) (Nat_nd rfl) rfl (rV (rest := []) F (c_X6_setAsked D cA (fun i => ax (1+i)) (x_now s) p1 p2 l H.size) lk_X8_144 (Nat.le_of_ble_eq_true rfl) (preRW hK hS hAb (selP (is := [1, 2, 3, 4, 5, 6, 7, 8, 9, 10, 11, 12, 13]) hP (jc_x_1 cA ax s)) (selD (is := [1, 2, 3, 4, 5, 6, 7, 8, 9, 10, 11, 12, 13]) hD (Nat_nd rfl) (jc_x_1 cA ax s))) (rcv_6 hK hP (q0 := (1)) (xp_1 cA ax s)) rfl hl rfl (Nat.le_of_ble_eq_true rfl) (dd D_X8_ask 28 rfl) ⟨Nat.le_of_ble_eq_true rfl, Nat.le_of_ble_eq_true rfl⟩) (js_x_1 cA ax s (F_X6_setAsked (x_now s) p1 p2)) rfl (fun H locs hP hD hS => ?_)
        refine lv_iload_n F.1 F.2.1 (dd D_X8_ask 29 rfl) rfl (lv_at hl 0 rfl) ?_
        obtain rfl := Option.some.inj h
        exact rw_i (R := rmOf 1 0 0) F hP hD hS hr hlk ⟨Nat.le_of_ble_eq_true rfl, Nat.le_of_ble_eq_true rfl⟩ ⟨rfl, rfl⟩ (dd D_X8_ask 30 rfl)
      · refine lv_aload_n F.1 F.2.1 (dd D_X8_ask 15 rfl) rfl (lv_at hl 0 rfl) ?_
        refine lv_bipush (v := (-2 : Int32)) F.1 F.2.1 (dd D_X8_ask 16 rfl) kb_m2 ?_
        obtain ⟨r4, e5, h⟩ := Option.bind_eq_some_iff.mp h
        refine rwe_all (st' := [.int r4.1]) hD hS hA (rV (rest := []) F (c_X8_refuse D cA ax s n (-2 : Int32) r4 e5 l H.size) lk_X8_64 (Nat.le_of_ble_eq_true rfl) (preRW hK hS hAb hP hD) (rcv_8 hK hP (q0 := (0)) (xp_0 cA ax s)) rfl hl rfl (Nat.le_of_ble_eq_true rfl) (dd D_X8_ask 17 rfl) ⟨Nat.le_of_ble_eq_true rfl, Nat.le_of_ble_eq_true rfl⟩) rfl (fun H locs hP hD hS => ?_)
        obtain rfl := Option.some.inj h
        exact rw_i (R := rmOf 1 0 0) F hP hD hS hr hlk ⟨Nat.le_of_ble_eq_true rfl, Nat.le_of_ble_eq_true rfl⟩ ⟨rfl, rfl⟩ (dd D_X8_ask 18 rfl)
    · refine lv_bipush (v := (9 : Int32)) F.1 F.2.1 (dd D_X8_ask 10 rfl) kb_9 ?_
      refine lv_goto (tgt := 24) F.1 F.2.1 (dd D_X8_ask 11 rfl) rfl ?_
      refine ro_go (st' := [.int (bI (F_X8_isIn p2 (0 : Int32) (9 : Int32)))]) (rS (rest := []) F (c_X8_isIn D cA p2 (0 : Int32) (9 : Int32) l) lk_X8_60 (Nat.le_of_ble_eq_true rfl) (preRO hK hS hAb (emP)) rfl hl rfl (Nat.le_of_ble_eq_true rfl) (dd D_X8_ask 13 rfl) ⟨Nat.le_of_ble_eq_true rfl, Nat.le_of_ble_eq_true rfl⟩) rfl ?_
      refine x_bif_ne (tgt := 37) F.1 F.2.1 (dd D_X8_ask 14 rfl) rfl h (fun c9 h => ?_) (fun c9 h => ?_)
      · refine lv_aload_n F.1 F.2.1 (dd D_X8_ask 19 rfl) rfl (lv_at hl 0 rfl) ?_
        refine getF F hK hP lf_X8_10 (0) (xp_0 cA ax s) rfl (dd D_X8_ask 20 rfl) ?_
        refine lv_iload_n F.1 F.2.1 (dd D_X8_ask 21 rfl) rfl (lv_at hl 1 rfl) ?_
        refine ro_go (st' := [.int (F_X6_askedOf (x_now s) p1)]) (rV (rest := []) F (c_X6_askedOf D cA (fun i => ax (1+i)) (x_now s) p1 l) lk_X8_141 (Nat.le_of_ble_eq_true rfl) (preRO hK hS hAb (pg_x_1 hP)) (rcv_6 hK hP (q0 := (1)) (xp_1 cA ax s)) rfl hl rfl (Nat.le_of_ble_eq_true rfl) (dd D_X8_ask 22 rfl) ⟨Nat.le_of_ble_eq_true rfl, Nat.le_of_ble_eq_true rfl⟩) rfl ?_
        refine lv_istore_n (lv' := [(3, .int (F_X6_askedOf (x_now s) p1)), (0, .ref (ax 0)), (1, .int p1), (2, .int p2)]) F.1 F.2.1 (dd D_X8_ask 23 rfl) rfl hl (Nat.le_of_ble_eq_true rfl) rfl (fun ls hl => ?_)
        refine lv_aload_n F.1 F.2.1 (dd D_X8_ask 24 rfl) rfl (lv_at hl 1 rfl) ?_
        refine getF F hK hP lf_X8_10 (0) (xp_0 cA ax s) rfl (dd D_X8_ask 25 rfl) ?_
        refine lv_iload_n F.1 F.2.1 (dd D_X8_ask 26 rfl) rfl (lv_at hl 2 rfl) ?_
        refine lv_iload_n F.1 F.2.1 (dd D_X8_ask 27 rfl) rfl (lv_at hl 3 rfl) ?_
        refine rwe (V := none) (wc := (stateW cA (fun i => ax (1+i)) (x_now s))) (wc' := (stateW cA (fun i => ax (1+i)) (F_X6_setAsked (x_now s) p1 p2))) (st' := []) (W' := (xW cA ax (x_set_now s (F_X6_setAsked (x_now s) p1 p2)))) hP hD hS hA [1, 2, 3, 4, 5, 6, 7, 8, 9, 10, 11, 12, 13] (jc_x_1 cA ax s) (Nat_nd rfl) rfl (rV (rest := []) F (c_X6_setAsked D cA (fun i => ax (1+i)) (x_now s) p1 p2 l H.size) lk_X8_144 (Nat.le_of_ble_eq_true rfl) (preRW hK hS hAb (selP (is := [1, 2, 3, 4, 5, 6, 7, 8, 9, 10, 11, 12, 13]) hP (jc_x_1 cA ax s)) (selD (is := [1, 2, 3, 4, 5, 6, 7, 8, 9, 10, 11, 12, 13]) hD (Nat_nd rfl) (jc_x_1 cA ax s))) (rcv_6 hK hP (q0 := (1)) (xp_1 cA ax s)) rfl hl rfl (Nat.le_of_ble_eq_true rfl) (dd D_X8_ask 28 rfl) ⟨Nat.le_of_ble_eq_true rfl, Nat.le_of_ble_eq_true rfl⟩) (js_x_1 cA ax s (F_X6_setAsked (x_now s) p1 p2)) rfl (fun H locs hP hD hS => ?_)
        refine lv_iload_n F.1 F.2.1 (dd D_X8_ask 29 rfl) rfl (lv_at hl 0 rfl) ?_
        obtain rfl := Option.some.inj h
        exact rw_i (R := rmOf 1 0 0) F hP hD hS hr hlk ⟨Nat.le_of_ble_eq_true rfl, Nat.le_of_ble_eq_true rfl⟩ ⟨rfl, rfl⟩ (dd D_X8_ask 30 rfl)
      · refine lv_aload_n F.1 F.2.1 (dd D_X8_ask 15 rfl) rfl (lv_at hl 0 rfl) ?_
        refine lv_bipush (v := (-2 : Int32)) F.1 F.2.1 (dd D_X8_ask 16 rfl) kb_m2 ?_
        obtain ⟨r7, e8, h⟩ := Option.bind_eq_some_iff.mp h
        refine rwe_all (st' := [.int r7.1]) hD hS hA (rV (rest := []) F (c_X8_refuse D cA ax s n (-2 : Int32) r7 e8 l H.size) lk_X8_64 (Nat.le_of_ble_eq_true rfl) (preRW hK hS hAb hP hD) (rcv_8 hK hP (q0 := (0)) (xp_0 cA ax s)) rfl hl rfl (Nat.le_of_ble_eq_true rfl) (dd D_X8_ask 17 rfl) ⟨Nat.le_of_ble_eq_true rfl, Nat.le_of_ble_eq_true rfl⟩) rfl (fun H locs hP hD hS => ?_)
        obtain rfl := Option.some.inj h
        exact rw_i (R := rmOf 1 0 0) F hP hD hS hr hlk ⟨Nat.le_of_ble_eq_true rfl, Nat.le_of_ble_eq_true rfl⟩ ⟨rfl, rfl⟩ (dd D_X8_ask 18 rfl)
def F_X8_notch (n : Nat) (s : XS) (p1 : Int32) (p2 : Int32) (p3 : Int32) : Option (Int32 × XS) := bf (F_X8_isIn p1 (0 : Int32) (179 : Int32)) (bf (F_X8_isIn p2 p1 (179 : Int32)) (bf (F_X8_isIn p3 (0 : Int32) (30 : Int32)) (bf (F_X1_isFull (st_hill (x_now s))) ((((F_X8_refuse n s (-6 : Int32))).bind fun r7 => some (r7.1, r7.2))) ((((F_X1_add n (st_hill (x_now s)) p1 p2 p3)).bind fun r5 => some (((F_X1_count (st_hill (x_now (x_set_now s (st_set_hill (x_now s) r5))))) - (1 : Int32)), (x_set_now s (st_set_hill (x_now s) r5)))))) ((((F_X8_refuse n s (-2 : Int32))).bind fun r10 => some (r10.1, r10.2)))) ((((F_X8_refuse n s (-2 : Int32))).bind fun r3 => some (r3.1, r3.2)))) ((((F_X8_refuse n s (-2 : Int32))).bind fun r1 => some (r1.1, r1.2)))
set_option maxHeartbeats 4000000 in
set_option maxRecDepth 100000 in
theorem c_X8_notch (D : va_G) (cA : Nat → ClassId) (ax : Nat → Nat) (s : XS) (n : Nat) (p1 : Int32) (p2 : Int32) (p3 : Int32) (r : (Int32 × XS)) (h : F_X8_notch n s p1 p2 p3 = some r) : RW m_X8_notch 2 0 0 D cA [.ref (ax 0), .int p1, .int p2, .int p3] (xW cA ax s) (exq (some (.int r.1)) (xW cA ax r.2)) := by
  refine RW.ofW gy_X8_notch.2.2 (Nat.le_of_ble_eq_true rfl) ?_
  intro l p e sM m below meth c A H locs F hr hlk hnm hK hP hD hS hA hAb ls hl
  have hl : lv_has ls 4 [(0, .ref (ax 0)), (1, .int p1), (2, .int p2), (3, .int p3)] := hl
  unfold F_X8_notch at h
  refine lv_iload_n F.1 F.2.1 (dd D_X8_notch 0 rfl) rfl (lv_at hl 1 rfl) ?_
  refine lv_iconst (v := (0 : Int32)) F.1 F.2.1 (dd D_X8_notch 1 rfl) ki_0 ?_
  refine lv_sipush (v := (179 : Int32)) F.1 F.2.1 (dd D_X8_notch 2 rfl) ks_179 ?_
  refine ro_go (st' := [.int (bI (F_X8_isIn p1 (0 : Int32) (179 : Int32)))]) (rS (rest := []) F (c_X8_isIn D cA p1 (0 : Int32) (179 : Int32) l) lk_X8_60 (Nat.le_of_ble_eq_true rfl) (preRO hK hS hAb (emP)) rfl hl rfl (Nat.le_of_ble_eq_true rfl) (dd D_X8_notch 3 rfl) ⟨Nat.le_of_ble_eq_true rfl, Nat.le_of_ble_eq_true rfl⟩) rfl ?_
  refine x_bif_eq (tgt := 32) F.1 F.2.1 (dd D_X8_notch 4 rfl) rfl h (fun c14 h => ?_) (fun c14 h => ?_)
  · refine lv_aload_n F.1 F.2.1 (dd D_X8_notch 15 rfl) rfl (lv_at hl 0 rfl) ?_
    refine lv_bipush (v := (-2 : Int32)) F.1 F.2.1 (dd D_X8_notch 16 rfl) kb_m2 ?_
    obtain ⟨r1, e2, h⟩ := Option.bind_eq_some_iff.mp h
    refine rwe_all (st' := [.int r1.1]) hD hS hA (rV (rest := []) F (c_X8_refuse D cA ax s n (-2 : Int32) r1 e2 l H.size) lk_X8_64 (Nat.le_of_ble_eq_true rfl) (preRW hK hS hAb hP hD) (rcv_8 hK hP (q0 := (0)) (xp_0 cA ax s)) rfl hl rfl (Nat.le_of_ble_eq_true rfl) (dd D_X8_notch 17 rfl) ⟨Nat.le_of_ble_eq_true rfl, Nat.le_of_ble_eq_true rfl⟩) rfl (fun H locs hP hD hS => ?_)
    obtain rfl := Option.some.inj h
    exact rw_i (R := rmOf 2 0 0) F hP hD hS hr hlk ⟨Nat.le_of_ble_eq_true rfl, Nat.le_of_ble_eq_true rfl⟩ ⟨rfl, rfl⟩ (dd D_X8_notch 18 rfl)
  · refine lv_iload_n F.1 F.2.1 (dd D_X8_notch 5 rfl) rfl (lv_at hl 2 rfl) ?_
    refine lv_iload_n F.1 F.2.1 (dd D_X8_notch 6 rfl) rfl (lv_at hl 1 rfl) ?_
    refine lv_sipush (v := (179 : Int32)) F.1 F.2.1 (dd D_X8_notch 7 rfl) ks_179 ?_
    refine ro_go (st' := [.int (bI (F_X8_isIn p2 p1 (179 : Int32)))]) (rS (rest := []) F (c_X8_isIn D cA p2 p1 (179 : Int32) l) lk_X8_60 (Nat.le_of_ble_eq_true rfl) (preRO hK hS hAb (emP)) rfl hl rfl (Nat.le_of_ble_eq_true rfl) (dd D_X8_notch 8 rfl) ⟨Nat.le_of_ble_eq_true rfl, Nat.le_of_ble_eq_true rfl⟩) rfl ?_
    refine x_bif_eq (tgt := 32) F.1 F.2.1 (dd D_X8_notch 9 rfl) rfl h (fun c13 h => ?_) (fun c13 h => ?_)
    · refine lv_aload_n F.1 F.2.1 (dd D_X8_notch 15 rfl) rfl (lv_at hl 0 rfl) ?_
      refine lv_bipush (v := (-2 : Int32)) F.1 F.2.1 (dd D_X8_notch 16 rfl) kb_m2 ?_
      obtain ⟨r3, e4, h⟩ := Option.bind_eq_some_iff.mp h
      refine rwe_all (st' := [.int r3.1]) hD hS hA (rV (rest := []) F (c_X8_refuse D cA ax s n (-2 : Int32) r3 e4 l H.size) lk_X8_64 (Nat.le_of_ble_eq_true rfl) (preRW hK hS hAb hP hD) (rcv_8 hK hP (q0 := (0)) (xp_0 cA ax s)) rfl hl rfl (Nat.le_of_ble_eq_true rfl) (dd D_X8_notch 17 rfl) ⟨Nat.le_of_ble_eq_true rfl, Nat.le_of_ble_eq_true rfl⟩) rfl (fun H locs hP hD hS => ?_)
      obtain rfl := Option.some.inj h
      exact rw_i (R := rmOf 2 0 0) F hP hD hS hr hlk ⟨Nat.le_of_ble_eq_true rfl, Nat.le_of_ble_eq_true rfl⟩ ⟨rfl, rfl⟩ (dd D_X8_notch 18 rfl)
    · refine lv_iload_n F.1 F.2.1 (dd D_X8_notch 10 rfl) rfl (lv_at hl 3 rfl) ?_
      refine lv_iconst (v := (0 : Int32)) F.1 F.2.1 (dd D_X8_notch 11 rfl) ki_0 ?_
      refine lv_bipush (v := (30 : Int32)) F.1 F.2.1 (dd D_X8_notch 12 rfl) kb_30 ?_
      refine ro_go (st' := [.int (bI (F_X8_isIn p3 (0 : Int32) (30 : Int32)))]) (rS (rest := []) F (c_X8_isIn D cA p3 (0 : Int32) (30 : Int32) l) lk_X8_60 (Nat.le_of_ble_eq_true rfl) (preRO hK hS hAb (emP)) rfl hl rfl (Nat.le_of_ble_eq_true rfl) (dd D_X8_notch 13 rfl) ⟨Nat.le_of_ble_eq_true rfl, Nat.le_of_ble_eq_true rfl⟩) rfl ?_
      refine x_bif_ne (tgt := 39) F.1 F.2.1 (dd D_X8_notch 14 rfl) rfl h (fun c12 h => ?_) (fun c12 h => ?_)
      · refine lv_aload_n F.1 F.2.1 (dd D_X8_notch 19 rfl) rfl (lv_at hl 0 rfl) ?_
        refine getF F hK hP lf_X8_10 (0) (xp_0 cA ax s) rfl (dd D_X8_notch 20 rfl) ?_
        refine getF F hK hP lf_X8_147 (1) (xp_1 cA ax s) rfl (dd D_X8_notch 21 rfl) ?_
        refine ro_go (st' := [.int (bI (F_X1_isFull (st_hill (x_now s))))]) (rV (rest := []) F (c_X1_isFull D cA (fun i => ax (2+i)) (st_hill (x_now s)) l) lk_X8_151 (Nat.le_of_ble_eq_true rfl) (preRO hK hS hAb (pg_x_2 hP)) (rcv_1 hK hP (q0 := (2)) (xp_2 cA ax s)) rfl hl rfl (Nat.le_of_ble_eq_true rfl) (dd D_X8_notch 22 rfl) ⟨Nat.le_of_ble_eq_true rfl, Nat.le_of_ble_eq_true rfl⟩) rfl ?_
        refine x_bif_eq (tgt := 59) F.1 F.2.1 (dd D_X8_notch 23 rfl) rfl h (fun c9 h => ?_) (fun c9 h => ?_)
        · refine lv_aload_n F.1 F.2.1 (dd D_X8_notch 28 rfl) rfl (lv_at hl 0 rfl) ?_
          refine getF F hK hP lf_X8_10 (0) (xp_0 cA ax s) rfl (dd D_X8_notch 29 rfl) ?_
          refine getF F hK hP lf_X8_147 (1) (xp_1 cA ax s) rfl (dd D_X8_notch 30 rfl) ?_
          refine lv_iload_n F.1 F.2.1 (dd D_X8_notch 31 rfl) rfl (lv_at hl 1 rfl) ?_
          refine lv_iload_n F.1 F.2.1 (dd D_X8_notch 32 rfl) rfl (lv_at hl 2 rfl) ?_
          refine lv_iload_n F.1 F.2.1 (dd D_X8_notch 33 rfl) rfl (lv_at hl 3 rfl) ?_
          obtain ⟨r5, e6, h⟩ := Option.bind_eq_some_iff.mp h
          refine rwe (V := none) (wc := (hillW cA (fun i => ax (2+i)) (st_hill (x_now s)))) (wc' := (hillW cA (fun i => ax (2+i)) r5)) (st' := []) (W' := (xW cA ax (x_set_now s (st_set_hill (x_now s) r5)))) hP hD hS hA [2, 3, 4, 5, 6, 7, 8, 9] (jc_x_2 cA ax s) (Nat_nd rfl) rfl (rV (rest := []) F (c_X1_add D cA (fun i => ax (2+i)) (st_hill (x_now s)) n p1 p2 p3 r5 e6 l H.size) lk_X8_156 (Nat.le_of_ble_eq_true rfl) (preRW hK hS hAb (selP (is := [2, 3, 4, 5, 6, 7, 8, 9]) hP (jc_x_2 cA ax s)) (selD (is := [2, 3, 4, 5, 6, 7, 8, 9]) hD (Nat_nd rfl) (jc_x_2 cA ax s))) (rcv_1 hK hP (q0 := (2)) (xp_2 cA ax s)) rfl hl rfl (Nat.le_of_ble_eq_true rfl) (dd D_X8_notch 34 rfl) ⟨Nat.le_of_ble_eq_true rfl, Nat.le_of_ble_eq_true rfl⟩) (js_x_2 cA ax s r5) rfl (fun H locs hP hD hS => ?_)
          refine lv_aload_n F.1 F.2.1 (dd D_X8_notch 35 rfl) rfl (lv_at hl 0 rfl) ?_
          refine getF F hK hP lf_X8_10 (0) (xp_0 cA ax (x_set_now s (st_set_hill (x_now s) r5))) rfl (dd D_X8_notch 36 rfl) ?_
          refine getF F hK hP lf_X8_147 (1) (xp_1 cA ax (x_set_now s (st_set_hill (x_now s) r5))) rfl (dd D_X8_notch 37 rfl) ?_
          refine ro_go (st' := [.int (F_X1_count (st_hill (x_now (x_set_now s (st_set_hill (x_now s) r5)))))]) (rV (rest := []) F (c_X1_count D cA (fun i => ax (2+i)) (st_hill (x_now (x_set_now s (st_set_hill (x_now s) r5)))) l) lk_X8_160 (Nat.le_of_ble_eq_true rfl) (preRO hK hS hAb (pg_x_2 hP)) (rcv_1 hK hP (q0 := (2)) (xp_2 cA ax (x_set_now s (st_set_hill (x_now s) r5)))) rfl hl rfl (Nat.le_of_ble_eq_true rfl) (dd D_X8_notch 38 rfl) ⟨Nat.le_of_ble_eq_true rfl, Nat.le_of_ble_eq_true rfl⟩) rfl ?_
          refine lv_iconst (v := (1 : Int32)) F.1 F.2.1 (dd D_X8_notch 39 rfl) ki_1 ?_
          refine lv_isub F.1 F.2.1 (dd D_X8_notch 40 rfl) ?_
          obtain rfl := Option.some.inj h
          exact rw_i (R := rmOf 2 0 0) F hP hD hS hr hlk ⟨Nat.le_of_ble_eq_true rfl, Nat.le_of_ble_eq_true rfl⟩ ⟨rfl, rfl⟩ (dd D_X8_notch 41 rfl)
        · refine lv_aload_n F.1 F.2.1 (dd D_X8_notch 24 rfl) rfl (lv_at hl 0 rfl) ?_
          refine lv_bipush (v := (-6 : Int32)) F.1 F.2.1 (dd D_X8_notch 25 rfl) kb_m6 ?_
          obtain ⟨r7, e8, h⟩ := Option.bind_eq_some_iff.mp h
          refine rwe_all (st' := [.int r7.1]) hD hS hA (rV (rest := []) F (c_X8_refuse D cA ax s n (-6 : Int32) r7 e8 l H.size) lk_X8_64 (Nat.le_of_ble_eq_true rfl) (preRW hK hS hAb hP hD) (rcv_8 hK hP (q0 := (0)) (xp_0 cA ax s)) rfl hl rfl (Nat.le_of_ble_eq_true rfl) (dd D_X8_notch 26 rfl) ⟨Nat.le_of_ble_eq_true rfl, Nat.le_of_ble_eq_true rfl⟩) rfl (fun H locs hP hD hS => ?_)
          obtain rfl := Option.some.inj h
          exact rw_i (R := rmOf 2 0 0) F hP hD hS hr hlk ⟨Nat.le_of_ble_eq_true rfl, Nat.le_of_ble_eq_true rfl⟩ ⟨rfl, rfl⟩ (dd D_X8_notch 27 rfl)
      · refine lv_aload_n F.1 F.2.1 (dd D_X8_notch 15 rfl) rfl (lv_at hl 0 rfl) ?_
        refine lv_bipush (v := (-2 : Int32)) F.1 F.2.1 (dd D_X8_notch 16 rfl) kb_m2 ?_
        obtain ⟨r10, e11, h⟩ := Option.bind_eq_some_iff.mp h
        refine rwe_all (st' := [.int r10.1]) hD hS hA (rV (rest := []) F (c_X8_refuse D cA ax s n (-2 : Int32) r10 e11 l H.size) lk_X8_64 (Nat.le_of_ble_eq_true rfl) (preRW hK hS hAb hP hD) (rcv_8 hK hP (q0 := (0)) (xp_0 cA ax s)) rfl hl rfl (Nat.le_of_ble_eq_true rfl) (dd D_X8_notch 17 rfl) ⟨Nat.le_of_ble_eq_true rfl, Nat.le_of_ble_eq_true rfl⟩) rfl (fun H locs hP hD hS => ?_)
        obtain rfl := Option.some.inj h
        exact rw_i (R := rmOf 2 0 0) F hP hD hS hr hlk ⟨Nat.le_of_ble_eq_true rfl, Nat.le_of_ble_eq_true rfl⟩ ⟨rfl, rfl⟩ (dd D_X8_notch 18 rfl)
def F_X8_stone (n : Nat) (s : XS) (p1 : Int32) : Option (Int32 × XS) := bf (F_X8_isIn p1 (0 : Int32) (179 : Int32)) (bf (F_X0_isFull 6 (st_stones (x_now s))) ((((F_X8_refuse n s (-6 : Int32))).bind fun r3 => some (r3.1, r3.2))) ((((F_X0_add n 6 (st_stones (x_now s)) p1)).bind fun r1 => some (((F_X0_count 6 (st_stones (x_now (x_set_now s (st_set_stones (x_now s) r1))))) - (1 : Int32)), (x_set_now s (st_set_stones (x_now s) r1)))))) ((((F_X8_refuse n s (-2 : Int32))).bind fun r6 => some (r6.1, r6.2)))
set_option maxHeartbeats 4000000 in
set_option maxRecDepth 100000 in
theorem c_X8_stone (D : va_G) (cA : Nat → ClassId) (ax : Nat → Nat) (s : XS) (n : Nat) (p1 : Int32) (r : (Int32 × XS)) (h : F_X8_stone n s p1 = some r) : RW m_X8_stone 1 0 0 D cA [.ref (ax 0), .int p1] (xW cA ax s) (exq (some (.int r.1)) (xW cA ax r.2)) := by
  refine RW.ofW gy_X8_stone.2.2 (Nat.le_of_ble_eq_true rfl) ?_
  intro l p e sM m below meth c A H locs F hr hlk hnm hK hP hD hS hA hAb ls hl
  have hl : lv_has ls 2 [(0, .ref (ax 0)), (1, .int p1)] := hl
  unfold F_X8_stone at h
  refine lv_iload_n F.1 F.2.1 (dd D_X8_stone 0 rfl) rfl (lv_at hl 1 rfl) ?_
  refine lv_iconst (v := (0 : Int32)) F.1 F.2.1 (dd D_X8_stone 1 rfl) ki_0 ?_
  refine lv_sipush (v := (179 : Int32)) F.1 F.2.1 (dd D_X8_stone 2 rfl) ks_179 ?_
  refine ro_go (st' := [.int (bI (F_X8_isIn p1 (0 : Int32) (179 : Int32)))]) (rS (rest := []) F (c_X8_isIn D cA p1 (0 : Int32) (179 : Int32) l) lk_X8_60 (Nat.le_of_ble_eq_true rfl) (preRO hK hS hAb (emP)) rfl hl rfl (Nat.le_of_ble_eq_true rfl) (dd D_X8_stone 3 rfl) ⟨Nat.le_of_ble_eq_true rfl, Nat.le_of_ble_eq_true rfl⟩) rfl ?_
  refine x_bif_ne (tgt := 18) F.1 F.2.1 (dd D_X8_stone 4 rfl) rfl h (fun c8 h => ?_) (fun c8 h => ?_)
  · refine lv_aload_n F.1 F.2.1 (dd D_X8_stone 9 rfl) rfl (lv_at hl 0 rfl) ?_
    refine getF F hK hP lf_X8_10 (0) (xp_0 cA ax s) rfl (dd D_X8_stone 10 rfl) ?_
    refine getF F hK hP lf_X8_163 (1) (xp_1 cA ax s) rfl (dd D_X8_stone 11 rfl) ?_
    refine ro_go (st' := [.int (bI (F_X0_isFull 6 (st_stones (x_now s))))]) (rV (rest := []) F (c_X0_isFull D cA 6 (fun i => ax (10+i)) (st_stones (x_now s)) l) lk_X8_167 (Nat.le_of_ble_eq_true rfl) (preRO hK hS hAb (pg_x_10 hP)) (rcv_0 hK hP (q0 := (10)) (xp_10 cA ax s)) rfl hl rfl (Nat.le_of_ble_eq_true rfl) (dd D_X8_stone 12 rfl) ⟨Nat.le_of_ble_eq_true rfl, Nat.le_of_ble_eq_true rfl⟩) rfl ?_
    refine x_bif_eq (tgt := 38) F.1 F.2.1 (dd D_X8_stone 13 rfl) rfl h (fun c5 h => ?_) (fun c5 h => ?_)
    · refine lv_aload_n F.1 F.2.1 (dd D_X8_stone 18 rfl) rfl (lv_at hl 0 rfl) ?_
      refine getF F hK hP lf_X8_10 (0) (xp_0 cA ax s) rfl (dd D_X8_stone 19 rfl) ?_
      refine getF F hK hP lf_X8_163 (1) (xp_1 cA ax s) rfl (dd D_X8_stone 20 rfl) ?_
      refine lv_iload_n F.1 F.2.1 (dd D_X8_stone 21 rfl) rfl (lv_at hl 1 rfl) ?_
      obtain ⟨r1, e2, h⟩ := Option.bind_eq_some_iff.mp h
      refine rwe (V := none) (wc := (fewW cA 6 (fun i => ax (10+i)) (st_stones (x_now s)))) (wc' := (fewW cA 6 (fun i => ax (10+i)) r1)) (st' := []) (W' := (xW cA ax (x_set_now s (st_set_stones (x_now s) r1)))) hP hD hS hA [10, 11] (jc_x_10 cA ax s) (Nat_nd rfl) rfl (rV (rest := []) F (c_X0_add D cA 6 (fun i => ax (10+i)) (st_stones (x_now s)) n p1 r1 e2 l H.size) lk_X8_170 (Nat.le_of_ble_eq_true rfl) (preRW hK hS hAb (selP (is := [10, 11]) hP (jc_x_10 cA ax s)) (selD (is := [10, 11]) hD (Nat_nd rfl) (jc_x_10 cA ax s))) (rcv_0 hK hP (q0 := (10)) (xp_10 cA ax s)) rfl hl rfl (Nat.le_of_ble_eq_true rfl) (dd D_X8_stone 22 rfl) ⟨Nat.le_of_ble_eq_true rfl, Nat.le_of_ble_eq_true rfl⟩) (js_x_10 cA ax s r1) rfl (fun H locs hP hD hS => ?_)
      refine lv_aload_n F.1 F.2.1 (dd D_X8_stone 23 rfl) rfl (lv_at hl 0 rfl) ?_
      refine getF F hK hP lf_X8_10 (0) (xp_0 cA ax (x_set_now s (st_set_stones (x_now s) r1))) rfl (dd D_X8_stone 24 rfl) ?_
      refine getF F hK hP lf_X8_163 (1) (xp_1 cA ax (x_set_now s (st_set_stones (x_now s) r1))) rfl (dd D_X8_stone 25 rfl) ?_
      refine ro_go (st' := [.int (F_X0_count 6 (st_stones (x_now (x_set_now s (st_set_stones (x_now s) r1)))))]) (rV (rest := []) F (c_X0_count D cA 6 (fun i => ax (10+i)) (st_stones (x_now (x_set_now s (st_set_stones (x_now s) r1)))) l) lk_X8_172 (Nat.le_of_ble_eq_true rfl) (preRO hK hS hAb (pg_x_10 hP)) (rcv_0 hK hP (q0 := (10)) (xp_10 cA ax (x_set_now s (st_set_stones (x_now s) r1)))) rfl hl rfl (Nat.le_of_ble_eq_true rfl) (dd D_X8_stone 26 rfl) ⟨Nat.le_of_ble_eq_true rfl, Nat.le_of_ble_eq_true rfl⟩) rfl ?_
      refine lv_iconst (v := (1 : Int32)) F.1 F.2.1 (dd D_X8_stone 27 rfl) ki_1 ?_
      refine lv_isub F.1 F.2.1 (dd D_X8_stone 28 rfl) ?_
      obtain rfl := Option.some.inj h
      exact rw_i (R := rmOf 1 0 0) F hP hD hS hr hlk ⟨Nat.le_of_ble_eq_true rfl, Nat.le_of_ble_eq_true rfl⟩ ⟨rfl, rfl⟩ (dd D_X8_stone 29 rfl)
    · refine lv_aload_n F.1 F.2.1 (dd D_X8_stone 14 rfl) rfl (lv_at hl 0 rfl) ?_
      refine lv_bipush (v := (-6 : Int32)) F.1 F.2.1 (dd D_X8_stone 15 rfl) kb_m6 ?_
      obtain ⟨r3, e4, h⟩ := Option.bind_eq_some_iff.mp h
      refine rwe_all (st' := [.int r3.1]) hD hS hA (rV (rest := []) F (c_X8_refuse D cA ax s n (-6 : Int32) r3 e4 l H.size) lk_X8_64 (Nat.le_of_ble_eq_true rfl) (preRW hK hS hAb hP hD) (rcv_8 hK hP (q0 := (0)) (xp_0 cA ax s)) rfl hl rfl (Nat.le_of_ble_eq_true rfl) (dd D_X8_stone 16 rfl) ⟨Nat.le_of_ble_eq_true rfl, Nat.le_of_ble_eq_true rfl⟩) rfl (fun H locs hP hD hS => ?_)
      obtain rfl := Option.some.inj h
      exact rw_i (R := rmOf 1 0 0) F hP hD hS hr hlk ⟨Nat.le_of_ble_eq_true rfl, Nat.le_of_ble_eq_true rfl⟩ ⟨rfl, rfl⟩ (dd D_X8_stone 17 rfl)
  · refine lv_aload_n F.1 F.2.1 (dd D_X8_stone 5 rfl) rfl (lv_at hl 0 rfl) ?_
    refine lv_bipush (v := (-2 : Int32)) F.1 F.2.1 (dd D_X8_stone 6 rfl) kb_m2 ?_
    obtain ⟨r6, e7, h⟩ := Option.bind_eq_some_iff.mp h
    refine rwe_all (st' := [.int r6.1]) hD hS hA (rV (rest := []) F (c_X8_refuse D cA ax s n (-2 : Int32) r6 e7 l H.size) lk_X8_64 (Nat.le_of_ble_eq_true rfl) (preRW hK hS hAb hP hD) (rcv_8 hK hP (q0 := (0)) (xp_0 cA ax s)) rfl hl rfl (Nat.le_of_ble_eq_true rfl) (dd D_X8_stone 7 rfl) ⟨Nat.le_of_ble_eq_true rfl, Nat.le_of_ble_eq_true rfl⟩) rfl (fun H locs hP hD hS => ?_)
    obtain rfl := Option.some.inj h
    exact rw_i (R := rmOf 1 0 0) F hP hD hS hr hlk ⟨Nat.le_of_ble_eq_true rfl, Nat.le_of_ble_eq_true rfl⟩ ⟨rfl, rfl⟩ (dd D_X8_stone 8 rfl)
def F_X8_cloud (n : Nat) (s : XS) (p1 : Int32) : Option (Int32 × XS) := bf (F_X8_isDay p1) ((((F_X0_contains n 8 (st_clouds (x_now s)) p1)).bind fun r1 => bf r1 ((((F_X8_refuse n s (-5 : Int32))).bind fun r8 => some (r8.1, r8.2))) (bf (F_X0_isFull 8 (st_clouds (x_now s))) ((((F_X8_refuse n s (-6 : Int32))).bind fun r5 => some (r5.1, r5.2))) ((((F_X0_add n 8 (st_clouds (x_now s)) p1)).bind fun r3 => some ((F_X0_count 8 (st_clouds (x_now (x_set_now s (st_set_clouds (x_now s) r3))))), (x_set_now s (st_set_clouds (x_now s) r3)))))))) ((((F_X8_refuse n s (-2 : Int32))).bind fun r11 => some (r11.1, r11.2)))
set_option maxHeartbeats 4000000 in
set_option maxRecDepth 100000 in
theorem c_X8_cloud (D : va_G) (cA : Nat → ClassId) (ax : Nat → Nat) (s : XS) (n : Nat) (p1 : Int32) (r : (Int32 × XS)) (h : F_X8_cloud n s p1 = some r) : RW m_X8_cloud 2 0 0 D cA [.ref (ax 0), .int p1] (xW cA ax s) (exq (some (.int r.1)) (xW cA ax r.2)) := by
  refine RW.ofW gy_X8_cloud.2.2 (Nat.le_of_ble_eq_true rfl) ?_
  intro l p e sM m below meth c A H locs F hr hlk hnm hK hP hD hS hA hAb ls hl
  have hl : lv_has ls 2 [(0, .ref (ax 0)), (1, .int p1)] := hl
  unfold F_X8_cloud at h
  refine lv_iload_n F.1 F.2.1 (dd D_X8_cloud 0 rfl) rfl (lv_at hl 1 rfl) ?_
  refine ro_go (st' := [.int (bI (F_X8_isDay p1))]) (rS (rest := []) F (c_X8_isDay D cA p1 l) lk_X8_113 (Nat.le_of_ble_eq_true rfl) (preRO hK hS hAb (emP)) rfl hl rfl (Nat.le_of_ble_eq_true rfl) (dd D_X8_cloud 1 rfl) ⟨Nat.le_of_ble_eq_true rfl, Nat.le_of_ble_eq_true rfl⟩) rfl ?_
  refine x_bif_ne (tgt := 14) F.1 F.2.1 (dd D_X8_cloud 2 rfl) rfl h (fun c13 h => ?_) (fun c13 h => ?_)
  · refine lv_aload_n F.1 F.2.1 (dd D_X8_cloud 7 rfl) rfl (lv_at hl 0 rfl) ?_
    refine getF F hK hP lf_X8_10 (0) (xp_0 cA ax s) rfl (dd D_X8_cloud 8 rfl) ?_
    refine getF F hK hP lf_X8_173 (1) (xp_1 cA ax s) rfl (dd D_X8_cloud 9 rfl) ?_
    refine lv_iload_n F.1 F.2.1 (dd D_X8_cloud 10 rfl) rfl (lv_at hl 1 rfl) ?_
    obtain ⟨r1, e2, h⟩ := Option.bind_eq_some_iff.mp h
    refine ro_go (st' := [.int (bI r1)]) (rV (rest := []) F (c_X0_contains D cA 8 (fun i => ax (12+i)) (st_clouds (x_now s)) n p1 r1 e2 l) lk_X8_176 (Nat.le_of_ble_eq_true rfl) (preRO hK hS hAb (pg_x_12 hP)) (rcv_0 hK hP (q0 := (12)) (xp_12 cA ax s)) rfl hl rfl (Nat.le_of_ble_eq_true rfl) (dd D_X8_cloud 11 rfl) ⟨Nat.le_of_ble_eq_true rfl, Nat.le_of_ble_eq_true rfl⟩) rfl ?_
    refine x_bif_eq (tgt := 35) F.1 F.2.1 (dd D_X8_cloud 12 rfl) rfl h (fun c10 h => ?_) (fun c10 h => ?_)
    · refine lv_aload_n F.1 F.2.1 (dd D_X8_cloud 17 rfl) rfl (lv_at hl 0 rfl) ?_
      refine getF F hK hP lf_X8_10 (0) (xp_0 cA ax s) rfl (dd D_X8_cloud 18 rfl) ?_
      refine getF F hK hP lf_X8_173 (1) (xp_1 cA ax s) rfl (dd D_X8_cloud 19 rfl) ?_
      refine ro_go (st' := [.int (bI (F_X0_isFull 8 (st_clouds (x_now s))))]) (rV (rest := []) F (c_X0_isFull D cA 8 (fun i => ax (12+i)) (st_clouds (x_now s)) l) lk_X8_167 (Nat.le_of_ble_eq_true rfl) (preRO hK hS hAb (pg_x_12 hP)) (rcv_0 hK hP (q0 := (12)) (xp_12 cA ax s)) rfl hl rfl (Nat.le_of_ble_eq_true rfl) (dd D_X8_cloud 20 rfl) ⟨Nat.le_of_ble_eq_true rfl, Nat.le_of_ble_eq_true rfl⟩) rfl ?_
      refine x_bif_eq (tgt := 55) F.1 F.2.1 (dd D_X8_cloud 21 rfl) rfl h (fun c7 h => ?_) (fun c7 h => ?_)
      · refine lv_aload_n F.1 F.2.1 (dd D_X8_cloud 26 rfl) rfl (lv_at hl 0 rfl) ?_
        refine getF F hK hP lf_X8_10 (0) (xp_0 cA ax s) rfl (dd D_X8_cloud 27 rfl) ?_
        refine getF F hK hP lf_X8_173 (1) (xp_1 cA ax s) rfl (dd D_X8_cloud 28 rfl) ?_
        refine lv_iload_n F.1 F.2.1 (dd D_X8_cloud 29 rfl) rfl (lv_at hl 1 rfl) ?_
        obtain ⟨r3, e4, h⟩ := Option.bind_eq_some_iff.mp h
        refine rwe (V := none) (wc := (fewW cA 8 (fun i => ax (12+i)) (st_clouds (x_now s)))) (wc' := (fewW cA 8 (fun i => ax (12+i)) r3)) (st' := []) (W' := (xW cA ax (x_set_now s (st_set_clouds (x_now s) r3)))) hP hD hS hA [12, 13] (jc_x_12 cA ax s) (Nat_nd rfl) rfl (rV (rest := []) F (c_X0_add D cA 8 (fun i => ax (12+i)) (st_clouds (x_now s)) n p1 r3 e4 l H.size) lk_X8_170 (Nat.le_of_ble_eq_true rfl) (preRW hK hS hAb (selP (is := [12, 13]) hP (jc_x_12 cA ax s)) (selD (is := [12, 13]) hD (Nat_nd rfl) (jc_x_12 cA ax s))) (rcv_0 hK hP (q0 := (12)) (xp_12 cA ax s)) rfl hl rfl (Nat.le_of_ble_eq_true rfl) (dd D_X8_cloud 30 rfl) ⟨Nat.le_of_ble_eq_true rfl, Nat.le_of_ble_eq_true rfl⟩) (js_x_12 cA ax s r3) rfl (fun H locs hP hD hS => ?_)
        refine lv_aload_n F.1 F.2.1 (dd D_X8_cloud 31 rfl) rfl (lv_at hl 0 rfl) ?_
        refine getF F hK hP lf_X8_10 (0) (xp_0 cA ax (x_set_now s (st_set_clouds (x_now s) r3))) rfl (dd D_X8_cloud 32 rfl) ?_
        refine getF F hK hP lf_X8_173 (1) (xp_1 cA ax (x_set_now s (st_set_clouds (x_now s) r3))) rfl (dd D_X8_cloud 33 rfl) ?_
        refine ro_go (st' := [.int (F_X0_count 8 (st_clouds (x_now (x_set_now s (st_set_clouds (x_now s) r3)))))]) (rV (rest := []) F (c_X0_count D cA 8 (fun i => ax (12+i)) (st_clouds (x_now (x_set_now s (st_set_clouds (x_now s) r3)))) l) lk_X8_172 (Nat.le_of_ble_eq_true rfl) (preRO hK hS hAb (pg_x_12 hP)) (rcv_0 hK hP (q0 := (12)) (xp_12 cA ax (x_set_now s (st_set_clouds (x_now s) r3)))) rfl hl rfl (Nat.le_of_ble_eq_true rfl) (dd D_X8_cloud 34 rfl) ⟨Nat.le_of_ble_eq_true rfl, Nat.le_of_ble_eq_true rfl⟩) rfl ?_
        obtain rfl := Option.some.inj h
        exact rw_i (R := rmOf 2 0 0) F hP hD hS hr hlk ⟨Nat.le_of_ble_eq_true rfl, Nat.le_of_ble_eq_true rfl⟩ ⟨rfl, rfl⟩ (dd D_X8_cloud 35 rfl)
      · refine lv_aload_n F.1 F.2.1 (dd D_X8_cloud 22 rfl) rfl (lv_at hl 0 rfl) ?_
        refine lv_bipush (v := (-6 : Int32)) F.1 F.2.1 (dd D_X8_cloud 23 rfl) kb_m6 ?_
        obtain ⟨r5, e6, h⟩ := Option.bind_eq_some_iff.mp h
        refine rwe_all (st' := [.int r5.1]) hD hS hA (rV (rest := []) F (c_X8_refuse D cA ax s n (-6 : Int32) r5 e6 l H.size) lk_X8_64 (Nat.le_of_ble_eq_true rfl) (preRW hK hS hAb hP hD) (rcv_8 hK hP (q0 := (0)) (xp_0 cA ax s)) rfl hl rfl (Nat.le_of_ble_eq_true rfl) (dd D_X8_cloud 24 rfl) ⟨Nat.le_of_ble_eq_true rfl, Nat.le_of_ble_eq_true rfl⟩) rfl (fun H locs hP hD hS => ?_)
        obtain rfl := Option.some.inj h
        exact rw_i (R := rmOf 2 0 0) F hP hD hS hr hlk ⟨Nat.le_of_ble_eq_true rfl, Nat.le_of_ble_eq_true rfl⟩ ⟨rfl, rfl⟩ (dd D_X8_cloud 25 rfl)
    · refine lv_aload_n F.1 F.2.1 (dd D_X8_cloud 13 rfl) rfl (lv_at hl 0 rfl) ?_
      refine lv_bipush (v := (-5 : Int32)) F.1 F.2.1 (dd D_X8_cloud 14 rfl) kb_m5 ?_
      obtain ⟨r8, e9, h⟩ := Option.bind_eq_some_iff.mp h
      refine rwe_all (st' := [.int r8.1]) hD hS hA (rV (rest := []) F (c_X8_refuse D cA ax s n (-5 : Int32) r8 e9 l H.size) lk_X8_64 (Nat.le_of_ble_eq_true rfl) (preRW hK hS hAb hP hD) (rcv_8 hK hP (q0 := (0)) (xp_0 cA ax s)) rfl hl rfl (Nat.le_of_ble_eq_true rfl) (dd D_X8_cloud 15 rfl) ⟨Nat.le_of_ble_eq_true rfl, Nat.le_of_ble_eq_true rfl⟩) rfl (fun H locs hP hD hS => ?_)
      obtain rfl := Option.some.inj h
      exact rw_i (R := rmOf 2 0 0) F hP hD hS hr hlk ⟨Nat.le_of_ble_eq_true rfl, Nat.le_of_ble_eq_true rfl⟩ ⟨rfl, rfl⟩ (dd D_X8_cloud 16 rfl)
  · refine lv_aload_n F.1 F.2.1 (dd D_X8_cloud 3 rfl) rfl (lv_at hl 0 rfl) ?_
    refine lv_bipush (v := (-2 : Int32)) F.1 F.2.1 (dd D_X8_cloud 4 rfl) kb_m2 ?_
    obtain ⟨r11, e12, h⟩ := Option.bind_eq_some_iff.mp h
    refine rwe_all (st' := [.int r11.1]) hD hS hA (rV (rest := []) F (c_X8_refuse D cA ax s n (-2 : Int32) r11 e12 l H.size) lk_X8_64 (Nat.le_of_ble_eq_true rfl) (preRW hK hS hAb hP hD) (rcv_8 hK hP (q0 := (0)) (xp_0 cA ax s)) rfl hl rfl (Nat.le_of_ble_eq_true rfl) (dd D_X8_cloud 5 rfl) ⟨Nat.le_of_ble_eq_true rfl, Nat.le_of_ble_eq_true rfl⟩) rfl (fun H locs hP hD hS => ?_)
    obtain rfl := Option.some.inj h
    exact rw_i (R := rmOf 2 0 0) F hP hD hS hr hlk ⟨Nat.le_of_ble_eq_true rfl, Nat.le_of_ble_eq_true rfl⟩ ⟨rfl, rfl⟩ (dd D_X8_cloud 6 rfl)
def F_X8_clear (n : Nat) (s : XS) (p1 : Int32) : Option (Int32 × XS) := (if p1 = (0 : Int32) then (((F_X1_empty n (st_hill (x_now s)))).bind fun r2 => some ((F_X1_count (st_hill (x_now s))), (x_set_now s (st_set_hill (x_now s) r2)))) else (if p1 = (1 : Int32) then some ((F_X0_count 6 (st_stones (x_now s))), (x_set_now s (st_set_stones (x_now s) (F_X0_empty 6 (st_stones (x_now s)))))) else (if p1 = (2 : Int32) then some ((F_X0_count 8 (st_clouds (x_now s))), (x_set_now s (st_set_clouds (x_now s) (F_X0_empty 8 (st_clouds (x_now s)))))) else (((F_X8_refuse n s (-2 : Int32))).bind fun r4 => some (r4.1, r4.2)))))
set_option maxHeartbeats 4000000 in
set_option maxRecDepth 100000 in
theorem c_X8_clear (D : va_G) (cA : Nat → ClassId) (ax : Nat → Nat) (s : XS) (n : Nat) (p1 : Int32) (r : (Int32 × XS)) (h : F_X8_clear n s p1 = some r) : RW m_X8_clear 2 0 0 D cA [.ref (ax 0), .int p1] (xW cA ax s) (exq (some (.int r.1)) (xW cA ax r.2)) := by
  refine RW.ofW gy_X8_clear.2.2 (Nat.le_of_ble_eq_true rfl) ?_
  intro l p e sM m below meth c A H locs F hr hlk hnm hK hP hD hS hA hAb ls hl
  have hl : lv_has ls 3 [(0, .ref (ax 0)), (1, .int p1)] := hl
  unfold F_X8_clear at h
  refine lv_iload_n F.1 F.2.1 (dd D_X8_clear 0 rfl) rfl (lv_at hl 1 rfl) ?_
  refine x_ts (tgt := 28) F.1 F.2.1 (0 : Int32) (dd D_X8_clear 1 rfl) h (by decide) (by decide) rfl rfl (fun c1_0 h => ?_) (fun c1_0 h => ?_)
  · refine lv_aload_n F.1 F.2.1 (dd D_X8_clear 2 rfl) rfl (lv_at hl 0 rfl) ?_
    refine getF F hK hP lf_X8_10 (0) (xp_0 cA ax s) rfl (dd D_X8_clear 3 rfl) ?_
    refine getF F hK hP lf_X8_147 (1) (xp_1 cA ax s) rfl (dd D_X8_clear 4 rfl) ?_
    refine ro_go (st' := [.int (F_X1_count (st_hill (x_now s)))]) (rV (rest := []) F (c_X1_count D cA (fun i => ax (2+i)) (st_hill (x_now s)) l) lk_X8_160 (Nat.le_of_ble_eq_true rfl) (preRO hK hS hAb (pg_x_2 hP)) (rcv_1 hK hP (q0 := (2)) (xp_2 cA ax s)) rfl hl rfl (Nat.le_of_ble_eq_true rfl) (dd D_X8_clear 5 rfl) ⟨Nat.le_of_ble_eq_true rfl, Nat.le_of_ble_eq_true rfl⟩) rfl ?_
    refine lv_istore_n (lv' := [(2, .int (F_X1_count (st_hill (x_now s)))), (0, .ref (ax 0)), (1, .int p1)]) F.1 F.2.1 (dd D_X8_clear 6 rfl) rfl hl (Nat.le_of_ble_eq_true rfl) rfl (fun ls hl => ?_)
    refine lv_aload_n F.1 F.2.1 (dd D_X8_clear 7 rfl) rfl (lv_at hl 1 rfl) ?_
    refine getF F hK hP lf_X8_10 (0) (xp_0 cA ax s) rfl (dd D_X8_clear 8 rfl) ?_
    refine getF F hK hP lf_X8_147 (1) (xp_1 cA ax s) rfl (dd D_X8_clear 9 rfl) ?_
    obtain ⟨r2, e3, h⟩ := Option.bind_eq_some_iff.mp h
    refine rwe (V := none) (wc := (hillW cA (fun i => ax (2+i)) (st_hill (x_now s)))) (wc' := (hillW cA (fun i => ax (2+i)) r2)) (st' := []) (W' := (xW cA ax (x_set_now s (st_set_hill (x_now s) r2)))) hP hD hS hA [2, 3, 4, 5, 6, 7, 8, 9] (jc_x_2 cA ax s) (Nat_nd rfl) rfl (rV (rest := []) F (c_X1_empty D cA (fun i => ax (2+i)) (st_hill (x_now s)) n r2 e3 l H.size) lk_X8_179 (Nat.le_of_ble_eq_true rfl) (preRW hK hS hAb (selP (is := [2, 3, 4, 5, 6, 7, 8, 9]) hP (jc_x_2 cA ax s)) (selD (is := [2, 3, 4, 5, 6, 7, 8, 9]) hD (Nat_nd rfl) (jc_x_2 cA ax s))) (rcv_1 hK hP (q0 := (2)) (xp_2 cA ax s)) rfl hl rfl (Nat.le_of_ble_eq_true rfl) (dd D_X8_clear 10 rfl) ⟨Nat.le_of_ble_eq_true rfl, Nat.le_of_ble_eq_true rfl⟩) (js_x_2 cA ax s r2) rfl (fun H locs hP hD hS => ?_)
    refine lv_iload_n F.1 F.2.1 (dd D_X8_clear 11 rfl) rfl (lv_at hl 0 rfl) ?_
    obtain rfl := Option.some.inj h
    exact rw_i (R := rmOf 2 0 0) F hP hD hS hr hlk ⟨Nat.le_of_ble_eq_true rfl, Nat.le_of_ble_eq_true rfl⟩ ⟨rfl, rfl⟩ (dd D_X8_clear 12 rfl)
  refine x_ts (tgt := 51) F.1 F.2.1 (1 : Int32) (dd D_X8_clear 1 rfl) h (by decide) (by decide) rfl rfl (fun c1_1 h => ?_) (fun c1_1 h => ?_)
  · refine lv_aload_n F.1 F.2.1 (dd D_X8_clear 13 rfl) rfl (lv_at hl 0 rfl) ?_
    refine getF F hK hP lf_X8_10 (0) (xp_0 cA ax s) rfl (dd D_X8_clear 14 rfl) ?_
    refine getF F hK hP lf_X8_163 (1) (xp_1 cA ax s) rfl (dd D_X8_clear 15 rfl) ?_
    refine ro_go (st' := [.int (F_X0_count 6 (st_stones (x_now s)))]) (rV (rest := []) F (c_X0_count D cA 6 (fun i => ax (10+i)) (st_stones (x_now s)) l) lk_X8_172 (Nat.le_of_ble_eq_true rfl) (preRO hK hS hAb (pg_x_10 hP)) (rcv_0 hK hP (q0 := (10)) (xp_10 cA ax s)) rfl hl rfl (Nat.le_of_ble_eq_true rfl) (dd D_X8_clear 16 rfl) ⟨Nat.le_of_ble_eq_true rfl, Nat.le_of_ble_eq_true rfl⟩) rfl ?_
    refine lv_istore_n (lv' := [(2, .int (F_X0_count 6 (st_stones (x_now s)))), (0, .ref (ax 0)), (1, .int p1)]) F.1 F.2.1 (dd D_X8_clear 17 rfl) rfl hl (Nat.le_of_ble_eq_true rfl) rfl (fun ls hl => ?_)
    refine lv_aload_n F.1 F.2.1 (dd D_X8_clear 18 rfl) rfl (lv_at hl 1 rfl) ?_
    refine getF F hK hP lf_X8_10 (0) (xp_0 cA ax s) rfl (dd D_X8_clear 19 rfl) ?_
    refine getF F hK hP lf_X8_163 (1) (xp_1 cA ax s) rfl (dd D_X8_clear 20 rfl) ?_
    refine rwe (V := none) (wc := (fewW cA 6 (fun i => ax (10+i)) (st_stones (x_now s)))) (wc' := (fewW cA 6 (fun i => ax (10+i)) (F_X0_empty 6 (st_stones (x_now s))))) (st' := []) (W' := (xW cA ax (x_set_now s (st_set_stones (x_now s) (F_X0_empty 6 (st_stones (x_now s))))))) hP hD hS hA [10, 11] (jc_x_10 cA ax s) (Nat_nd rfl) rfl (rV (rest := []) F (c_X0_empty D cA 6 (fun i => ax (10+i)) (st_stones (x_now s)) l H.size) lk_X8_182 (Nat.le_of_ble_eq_true rfl) (preRW hK hS hAb (selP (is := [10, 11]) hP (jc_x_10 cA ax s)) (selD (is := [10, 11]) hD (Nat_nd rfl) (jc_x_10 cA ax s))) (rcv_0 hK hP (q0 := (10)) (xp_10 cA ax s)) rfl hl rfl (Nat.le_of_ble_eq_true rfl) (dd D_X8_clear 21 rfl) ⟨Nat.le_of_ble_eq_true rfl, Nat.le_of_ble_eq_true rfl⟩) (js_x_10 cA ax s (F_X0_empty 6 (st_stones (x_now s)))) rfl (fun H locs hP hD hS => ?_)
    refine lv_iload_n F.1 F.2.1 (dd D_X8_clear 22 rfl) rfl (lv_at hl 0 rfl) ?_
    obtain rfl := Option.some.inj h
    exact rw_i (R := rmOf 2 0 0) F hP hD hS hr hlk ⟨Nat.le_of_ble_eq_true rfl, Nat.le_of_ble_eq_true rfl⟩ ⟨rfl, rfl⟩ (dd D_X8_clear 23 rfl)
  refine x_ts (tgt := 74) F.1 F.2.1 (2 : Int32) (dd D_X8_clear 1 rfl) h (by decide) (by decide) rfl rfl (fun c1_2 h => ?_) (fun c1_2 h => ?_)
  · refine lv_aload_n F.1 F.2.1 (dd D_X8_clear 24 rfl) rfl (lv_at hl 0 rfl) ?_
    refine getF F hK hP lf_X8_10 (0) (xp_0 cA ax s) rfl (dd D_X8_clear 25 rfl) ?_
    refine getF F hK hP lf_X8_173 (1) (xp_1 cA ax s) rfl (dd D_X8_clear 26 rfl) ?_
    refine ro_go (st' := [.int (F_X0_count 8 (st_clouds (x_now s)))]) (rV (rest := []) F (c_X0_count D cA 8 (fun i => ax (12+i)) (st_clouds (x_now s)) l) lk_X8_172 (Nat.le_of_ble_eq_true rfl) (preRO hK hS hAb (pg_x_12 hP)) (rcv_0 hK hP (q0 := (12)) (xp_12 cA ax s)) rfl hl rfl (Nat.le_of_ble_eq_true rfl) (dd D_X8_clear 27 rfl) ⟨Nat.le_of_ble_eq_true rfl, Nat.le_of_ble_eq_true rfl⟩) rfl ?_
    refine lv_istore_n (lv' := [(2, .int (F_X0_count 8 (st_clouds (x_now s)))), (0, .ref (ax 0)), (1, .int p1)]) F.1 F.2.1 (dd D_X8_clear 28 rfl) rfl hl (Nat.le_of_ble_eq_true rfl) rfl (fun ls hl => ?_)
    refine lv_aload_n F.1 F.2.1 (dd D_X8_clear 29 rfl) rfl (lv_at hl 1 rfl) ?_
    refine getF F hK hP lf_X8_10 (0) (xp_0 cA ax s) rfl (dd D_X8_clear 30 rfl) ?_
    refine getF F hK hP lf_X8_173 (1) (xp_1 cA ax s) rfl (dd D_X8_clear 31 rfl) ?_
    refine rwe (V := none) (wc := (fewW cA 8 (fun i => ax (12+i)) (st_clouds (x_now s)))) (wc' := (fewW cA 8 (fun i => ax (12+i)) (F_X0_empty 8 (st_clouds (x_now s))))) (st' := []) (W' := (xW cA ax (x_set_now s (st_set_clouds (x_now s) (F_X0_empty 8 (st_clouds (x_now s))))))) hP hD hS hA [12, 13] (jc_x_12 cA ax s) (Nat_nd rfl) rfl (rV (rest := []) F (c_X0_empty D cA 8 (fun i => ax (12+i)) (st_clouds (x_now s)) l H.size) lk_X8_182 (Nat.le_of_ble_eq_true rfl) (preRW hK hS hAb (selP (is := [12, 13]) hP (jc_x_12 cA ax s)) (selD (is := [12, 13]) hD (Nat_nd rfl) (jc_x_12 cA ax s))) (rcv_0 hK hP (q0 := (12)) (xp_12 cA ax s)) rfl hl rfl (Nat.le_of_ble_eq_true rfl) (dd D_X8_clear 32 rfl) ⟨Nat.le_of_ble_eq_true rfl, Nat.le_of_ble_eq_true rfl⟩) (js_x_12 cA ax s (F_X0_empty 8 (st_clouds (x_now s)))) rfl (fun H locs hP hD hS => ?_)
    refine lv_iload_n F.1 F.2.1 (dd D_X8_clear 33 rfl) rfl (lv_at hl 0 rfl) ?_
    obtain rfl := Option.some.inj h
    exact rw_i (R := rmOf 2 0 0) F hP hD hS hr hlk ⟨Nat.le_of_ble_eq_true rfl, Nat.le_of_ble_eq_true rfl⟩ ⟨rfl, rfl⟩ (dd D_X8_clear 34 rfl)
  refine lv_tableOut (tgt := 97) F.1 F.2.1 (dd D_X8_clear 1 rfl) (ts_out (lo := 0) (vs := [(0 : Int32), (1 : Int32), (2 : Int32)]) tsv_0_3 (by intro v hv; simp only [List.mem_cons, List.not_mem_nil, or_false] at hv; rcases hv with rfl | rfl | rfl <;> assumption)) rfl ?_
  refine lv_aload_n F.1 F.2.1 (dd D_X8_clear 35 rfl) rfl (lv_at hl 0 rfl) ?_
  refine lv_bipush (v := (-2 : Int32)) F.1 F.2.1 (dd D_X8_clear 36 rfl) kb_m2 ?_
  obtain ⟨r4, e5, h⟩ := Option.bind_eq_some_iff.mp h
  refine rwe_all (st' := [.int r4.1]) hD hS hA (rV (rest := []) F (c_X8_refuse D cA ax s n (-2 : Int32) r4 e5 l H.size) lk_X8_64 (Nat.le_of_ble_eq_true rfl) (preRW hK hS hAb hP hD) (rcv_8 hK hP (q0 := (0)) (xp_0 cA ax s)) rfl hl rfl (Nat.le_of_ble_eq_true rfl) (dd D_X8_clear 37 rfl) ⟨Nat.le_of_ble_eq_true rfl, Nat.le_of_ble_eq_true rfl⟩) rfl (fun H locs hP hD hS => ?_)
  obtain rfl := Option.some.inj h
  exact rw_i (R := rmOf 2 0 0) F hP hD hS hr hlk ⟨Nat.le_of_ble_eq_true rfl, Nat.le_of_ble_eq_true rfl⟩ ⟨rfl, rfl⟩ (dd D_X8_clear 38 rfl)
def F_X8_feed (n : Nat) (s : XS) (p1 : Int32) : Option (Int32 × XS) := bf (F_X8_isIn p1 (0 : Int32) (255 : Int32)) (bf (F_X7_isFull s) ((((F_X8_refuse n s (-6 : Int32))).bind fun r3 => some (r3.1, r3.2))) ((((F_X7_add n s p1)).bind fun r1 => some ((F_X7_size r1), r1)))) ((((F_X8_refuse n s (-2 : Int32))).bind fun r6 => some (r6.1, r6.2)))
set_option maxHeartbeats 4000000 in
set_option maxRecDepth 100000 in
theorem c_X8_feed (D : va_G) (cA : Nat → ClassId) (ax : Nat → Nat) (s : XS) (n : Nat) (p1 : Int32) (r : (Int32 × XS)) (h : F_X8_feed n s p1 = some r) : RW m_X8_feed 1 0 0 D cA [.ref (ax 0), .int p1] (xW cA ax s) (exq (some (.int r.1)) (xW cA ax r.2)) := by
  refine RW.ofW gy_X8_feed.2.2 (Nat.le_of_ble_eq_true rfl) ?_
  intro l p e sM m below meth c A H locs F hr hlk hnm hK hP hD hS hA hAb ls hl
  have hl : lv_has ls 2 [(0, .ref (ax 0)), (1, .int p1)] := hl
  unfold F_X8_feed at h
  refine lv_iload_n F.1 F.2.1 (dd D_X8_feed 0 rfl) rfl (lv_at hl 1 rfl) ?_
  refine lv_iconst (v := (0 : Int32)) F.1 F.2.1 (dd D_X8_feed 1 rfl) ki_0 ?_
  refine lv_sipush (v := (255 : Int32)) F.1 F.2.1 (dd D_X8_feed 2 rfl) ks_255 ?_
  refine ro_go (st' := [.int (bI (F_X8_isIn p1 (0 : Int32) (255 : Int32)))]) (rS (rest := []) F (c_X8_isIn D cA p1 (0 : Int32) (255 : Int32) l) lk_X8_60 (Nat.le_of_ble_eq_true rfl) (preRO hK hS hAb (emP)) rfl hl rfl (Nat.le_of_ble_eq_true rfl) (dd D_X8_feed 3 rfl) ⟨Nat.le_of_ble_eq_true rfl, Nat.le_of_ble_eq_true rfl⟩) rfl ?_
  refine x_bif_ne (tgt := 18) F.1 F.2.1 (dd D_X8_feed 4 rfl) rfl h (fun c8 h => ?_) (fun c8 h => ?_)
  · refine lv_aload_n F.1 F.2.1 (dd D_X8_feed 9 rfl) rfl (lv_at hl 0 rfl) ?_
    refine getF F hK hP lf_X8_34 (0) (xp_0 cA ax s) rfl (dd D_X8_feed 10 rfl) ?_
    refine ro_go (st' := [.int (bI (F_X7_isFull s))]) (rV (rest := []) F (c_X7_isFull D cA ax s l) lk_X8_183 (Nat.le_of_ble_eq_true rfl) (preRO hK hS hAb hP) (rcv_7 hK hP (q0 := (41)) (xp_41 cA ax s)) rfl hl rfl (Nat.le_of_ble_eq_true rfl) (dd D_X8_feed 11 rfl) ⟨Nat.le_of_ble_eq_true rfl, Nat.le_of_ble_eq_true rfl⟩) rfl ?_
    refine x_bif_eq (tgt := 35) F.1 F.2.1 (dd D_X8_feed 12 rfl) rfl h (fun c5 h => ?_) (fun c5 h => ?_)
    · refine lv_aload_n F.1 F.2.1 (dd D_X8_feed 17 rfl) rfl (lv_at hl 0 rfl) ?_
      refine getF F hK hP lf_X8_34 (0) (xp_0 cA ax s) rfl (dd D_X8_feed 18 rfl) ?_
      refine lv_iload_n F.1 F.2.1 (dd D_X8_feed 19 rfl) rfl (lv_at hl 1 rfl) ?_
      obtain ⟨r1, e2, h⟩ := Option.bind_eq_some_iff.mp h
      refine rwe_all (st' := []) hD hS hA (rV (rest := []) F (c_X7_add D cA ax s n p1 r1 e2 l H.size) lk_X8_184 (Nat.le_of_ble_eq_true rfl) (preRW hK hS hAb hP hD) (rcv_7 hK hP (q0 := (41)) (xp_41 cA ax s)) rfl hl rfl (Nat.le_of_ble_eq_true rfl) (dd D_X8_feed 20 rfl) ⟨Nat.le_of_ble_eq_true rfl, Nat.le_of_ble_eq_true rfl⟩) rfl (fun H locs hP hD hS => ?_)
      refine lv_aload_n F.1 F.2.1 (dd D_X8_feed 21 rfl) rfl (lv_at hl 0 rfl) ?_
      refine getF F hK hP lf_X8_34 (0) (xp_0 cA ax r1) rfl (dd D_X8_feed 22 rfl) ?_
      refine ro_go (st' := [.int (F_X7_size r1)]) (rV (rest := []) F (c_X7_size D cA ax r1 l) lk_X8_185 (Nat.le_of_ble_eq_true rfl) (preRO hK hS hAb hP) (rcv_7 hK hP (q0 := (41)) (xp_41 cA ax r1)) rfl hl rfl (Nat.le_of_ble_eq_true rfl) (dd D_X8_feed 23 rfl) ⟨Nat.le_of_ble_eq_true rfl, Nat.le_of_ble_eq_true rfl⟩) rfl ?_
      obtain rfl := Option.some.inj h
      exact rw_i (R := rmOf 1 0 0) F hP hD hS hr hlk ⟨Nat.le_of_ble_eq_true rfl, Nat.le_of_ble_eq_true rfl⟩ ⟨rfl, rfl⟩ (dd D_X8_feed 24 rfl)
    · refine lv_aload_n F.1 F.2.1 (dd D_X8_feed 13 rfl) rfl (lv_at hl 0 rfl) ?_
      refine lv_bipush (v := (-6 : Int32)) F.1 F.2.1 (dd D_X8_feed 14 rfl) kb_m6 ?_
      obtain ⟨r3, e4, h⟩ := Option.bind_eq_some_iff.mp h
      refine rwe_all (st' := [.int r3.1]) hD hS hA (rV (rest := []) F (c_X8_refuse D cA ax s n (-6 : Int32) r3 e4 l H.size) lk_X8_64 (Nat.le_of_ble_eq_true rfl) (preRW hK hS hAb hP hD) (rcv_8 hK hP (q0 := (0)) (xp_0 cA ax s)) rfl hl rfl (Nat.le_of_ble_eq_true rfl) (dd D_X8_feed 15 rfl) ⟨Nat.le_of_ble_eq_true rfl, Nat.le_of_ble_eq_true rfl⟩) rfl (fun H locs hP hD hS => ?_)
      obtain rfl := Option.some.inj h
      exact rw_i (R := rmOf 1 0 0) F hP hD hS hr hlk ⟨Nat.le_of_ble_eq_true rfl, Nat.le_of_ble_eq_true rfl⟩ ⟨rfl, rfl⟩ (dd D_X8_feed 16 rfl)
  · refine lv_aload_n F.1 F.2.1 (dd D_X8_feed 5 rfl) rfl (lv_at hl 0 rfl) ?_
    refine lv_bipush (v := (-2 : Int32)) F.1 F.2.1 (dd D_X8_feed 6 rfl) kb_m2 ?_
    obtain ⟨r6, e7, h⟩ := Option.bind_eq_some_iff.mp h
    refine rwe_all (st' := [.int r6.1]) hD hS hA (rV (rest := []) F (c_X8_refuse D cA ax s n (-2 : Int32) r6 e7 l H.size) lk_X8_64 (Nat.le_of_ble_eq_true rfl) (preRW hK hS hAb hP hD) (rcv_8 hK hP (q0 := (0)) (xp_0 cA ax s)) rfl hl rfl (Nat.le_of_ble_eq_true rfl) (dd D_X8_feed 7 rfl) ⟨Nat.le_of_ble_eq_true rfl, Nat.le_of_ble_eq_true rfl⟩) rfl (fun H locs hP hD hS => ?_)
    obtain rfl := Option.some.inj h
    exact rw_i (R := rmOf 1 0 0) F hP hD hS hr hlk ⟨Nat.le_of_ble_eq_true rfl, Nat.le_of_ble_eq_true rfl⟩ ⟨rfl, rfl⟩ (dd D_X8_feed 8 rfl)
def F_X8_wipe (s : XS) : (Int32 × XS) := ((F_X7_size s), (F_X7_empty s))
set_option maxHeartbeats 4000000 in
set_option maxRecDepth 100000 in
theorem c_X8_wipe (D : va_G) (cA : Nat → ClassId) (ax : Nat → Nat) (s : XS)  : RW m_X8_wipe 1 0 0 D cA [.ref (ax 0)] (xW cA ax s) (exq (some (.int (F_X8_wipe s).1)) (xW cA ax (F_X8_wipe s).2)) := by
  obtain ⟨r, h⟩ : ∃ r, F_X8_wipe s = r := ⟨_, rfl⟩
  rw [h]
  refine RW.ofW gy_X8_wipe.2.2 (Nat.le_of_ble_eq_true rfl) ?_
  intro l p e sM m below meth c A H locs F hr hlk hnm hK hP hD hS hA hAb ls hl
  have hl : lv_has ls 2 [(0, .ref (ax 0))] := hl
  unfold F_X8_wipe at h
  refine lv_aload_n F.1 F.2.1 (dd D_X8_wipe 0 rfl) rfl (lv_at hl 0 rfl) ?_
  refine getF F hK hP lf_X8_34 (0) (xp_0 cA ax s) rfl (dd D_X8_wipe 1 rfl) ?_
  refine ro_go (st' := [.int (F_X7_size s)]) (rV (rest := []) F (c_X7_size D cA ax s l) lk_X8_185 (Nat.le_of_ble_eq_true rfl) (preRO hK hS hAb hP) (rcv_7 hK hP (q0 := (41)) (xp_41 cA ax s)) rfl hl rfl (Nat.le_of_ble_eq_true rfl) (dd D_X8_wipe 2 rfl) ⟨Nat.le_of_ble_eq_true rfl, Nat.le_of_ble_eq_true rfl⟩) rfl ?_
  refine lv_istore_n (lv' := [(1, .int (F_X7_size s)), (0, .ref (ax 0))]) F.1 F.2.1 (dd D_X8_wipe 3 rfl) rfl hl (Nat.le_of_ble_eq_true rfl) rfl (fun ls hl => ?_)
  refine lv_aload_n F.1 F.2.1 (dd D_X8_wipe 4 rfl) rfl (lv_at hl 1 rfl) ?_
  refine getF F hK hP lf_X8_34 (0) (xp_0 cA ax s) rfl (dd D_X8_wipe 5 rfl) ?_
  refine rwe_all (st' := []) hD hS hA (rV (rest := []) F (c_X7_empty D cA ax s l H.size) lk_X8_188 (Nat.le_of_ble_eq_true rfl) (preRW hK hS hAb hP hD) (rcv_7 hK hP (q0 := (41)) (xp_41 cA ax s)) rfl hl rfl (Nat.le_of_ble_eq_true rfl) (dd D_X8_wipe 6 rfl) ⟨Nat.le_of_ble_eq_true rfl, Nat.le_of_ble_eq_true rfl⟩) rfl (fun H locs hP hD hS => ?_)
  refine lv_iload_n F.1 F.2.1 (dd D_X8_wipe 7 rfl) rfl (lv_at hl 0 rfl) ?_
  subst h
  exact rw_i (R := rmOf 1 0 0) F hP hD hS hr hlk ⟨Nat.le_of_ble_eq_true rfl, Nat.le_of_ble_eq_true rfl⟩ ⟨rfl, rfl⟩ (dd D_X8_wipe 8 rfl)
def F_X8_sky (n : Nat) (s : XS) : Option (Int32 × XS) := (((F_X6_become n (x_draft s) (x_now s))).bind fun r1 => (((F_X7_read n (x_set_draft s r1))).bind fun r3 => (if r3.1 = (-1 : Int32) then (((F_X8_refuse n (F_X7_empty r3.2) (-2 : Int32))).bind fun r8 => some (((-20 : Int32) - (F_X7_fault r3.2)), r8.2)) else (((F_X6_become n (x_now (F_X7_empty r3.2)) (x_draft (F_X7_empty r3.2)))).bind fun r6 => some (r3.1, (x_set_now (F_X7_empty r3.2) r6))))))
set_option maxHeartbeats 4000000 in
set_option maxRecDepth 100000 in
theorem c_X8_sky (D : va_G) (cA : Nat → ClassId) (ax : Nat → Nat) (s : XS) (n : Nat)  (r : (Int32 × XS)) (h : F_X8_sky n s = some r) : RW m_X8_sky 8 0 0 D cA [.ref (ax 0)] (xW cA ax s) (exq (some (.int r.1)) (xW cA ax r.2)) := by
  refine RW.ofW gy_X8_sky.2.2 (Nat.le_of_ble_eq_true rfl) ?_
  intro l p e sM m below meth c A H locs F hr hlk hnm hK hP hD hS hA hAb ls hl
  have hl : lv_has ls 3 [(0, .ref (ax 0))] := hl
  unfold F_X8_sky at h
  refine lv_aload_n F.1 F.2.1 (dd D_X8_sky 0 rfl) rfl (lv_at hl 0 rfl) ?_
  refine getF F hK hP lf_X8_16 (0) (xp_0 cA ax s) rfl (dd D_X8_sky 1 rfl) ?_
  refine lv_aload_n F.1 F.2.1 (dd D_X8_sky 2 rfl) rfl (lv_at hl 0 rfl) ?_
  refine getF F hK hP lf_X8_10 (0) (xp_0 cA ax s) rfl (dd D_X8_sky 3 rfl) ?_
  obtain ⟨r1, e2, h⟩ := Option.bind_eq_some_iff.mp h
  refine rwe (V := none) (wc := ((stateW cA (fun i => ax (14+i)) (x_draft s)) ++ (stateW cA (fun i => ax (1+i)) (x_now s)))) (wc' := ((stateW cA (fun i => ax (14+i)) r1) ++ (stateW cA (fun i => ax (1+i)) (x_now s)))) (st' := []) (W' := (xW cA ax (x_set_draft s r1))) hP hD hS hA [14, 15, 16, 17, 18, 19, 20, 21, 22, 23, 24, 25, 26, 1, 2, 3, 4, 5, 6, 7, 8, 9, 10, 11, 12, 13] (jc_x_14_1 cA ax s) (Nat_nd rfl) rfl (rV (rest := []) F (c_X6_become D cA (fun i => ax (14+i)) (x_draft s) (fun i => ax (1+i)) (x_now s) n r1 e2 l H.size) lk_X8_189 (Nat.le_of_ble_eq_true rfl) (preRW hK hS hAb (selP (is := [14, 15, 16, 17, 18, 19, 20, 21, 22, 23, 24, 25, 26, 1, 2, 3, 4, 5, 6, 7, 8, 9, 10, 11, 12, 13]) hP (jc_x_14_1 cA ax s)) (selD (is := [14, 15, 16, 17, 18, 19, 20, 21, 22, 23, 24, 25, 26, 1, 2, 3, 4, 5, 6, 7, 8, 9, 10, 11, 12, 13]) hD (Nat_nd rfl) (jc_x_14_1 cA ax s))) (rcv_6 hK hP (q0 := (14)) (xp_14 cA ax s)) rfl hl rfl (Nat.le_of_ble_eq_true rfl) (dd D_X8_sky 4 rfl) ⟨Nat.le_of_ble_eq_true rfl, Nat.le_of_ble_eq_true rfl⟩) (js_x_14_1 cA ax s r1) rfl (fun H locs hP hD hS => ?_)
  refine lv_aload_n F.1 F.2.1 (dd D_X8_sky 5 rfl) rfl (lv_at hl 0 rfl) ?_
  refine getF F hK hP lf_X8_34 (0) (xp_0 cA ax (x_set_draft s r1)) rfl (dd D_X8_sky 6 rfl) ?_
  refine lv_aload_n F.1 F.2.1 (dd D_X8_sky 7 rfl) rfl (lv_at hl 0 rfl) ?_
  refine getF F hK hP lf_X8_16 (0) (xp_0 cA ax (x_set_draft s r1)) rfl (dd D_X8_sky 8 rfl) ?_
  obtain ⟨r3, e4, h⟩ := Option.bind_eq_some_iff.mp h
  refine rwe_all (st' := [.int r3.1]) hD hS hA (rV (rest := []) F (c_X7_read D cA ax (x_set_draft s r1) n r3 e4 l H.size) lk_X8_192 (Nat.le_of_ble_eq_true rfl) (preRW hK hS hAb hP hD) (rcv_7 hK hP (q0 := (41)) (xp_41 cA ax (x_set_draft s r1))) rfl hl rfl (Nat.le_of_ble_eq_true rfl) (dd D_X8_sky 9 rfl) ⟨Nat.le_of_ble_eq_true rfl, Nat.le_of_ble_eq_true rfl⟩) rfl (fun H locs hP hD hS => ?_)
  refine lv_istore_n (lv' := [(1, .int r3.1), (0, .ref (ax 0))]) F.1 F.2.1 (dd D_X8_sky 10 rfl) rfl hl (Nat.le_of_ble_eq_true rfl) rfl (fun ls hl => ?_)
  refine lv_aload_n F.1 F.2.1 (dd D_X8_sky 11 rfl) rfl (lv_at hl 1 rfl) ?_
  refine getF F hK hP lf_X8_34 (0) (xp_0 cA ax r3.2) rfl (dd D_X8_sky 12 rfl) ?_
  refine ro_go (st' := [.int (F_X7_fault r3.2)]) (rV (rest := []) F (c_X7_fault D cA ax r3.2 l) lk_X8_196 (Nat.le_of_ble_eq_true rfl) (preRO hK hS hAb hP) (rcv_7 hK hP (q0 := (41)) (xp_41 cA ax r3.2)) rfl hl rfl (Nat.le_of_ble_eq_true rfl) (dd D_X8_sky 13 rfl) ⟨Nat.le_of_ble_eq_true rfl, Nat.le_of_ble_eq_true rfl⟩) rfl ?_
  refine lv_istore_n (lv' := [(2, .int (F_X7_fault r3.2)), (1, .int r3.1), (0, .ref (ax 0))]) F.1 F.2.1 (dd D_X8_sky 14 rfl) rfl hl (Nat.le_of_ble_eq_true rfl) rfl (fun ls hl => ?_)
  refine lv_aload_n F.1 F.2.1 (dd D_X8_sky 15 rfl) rfl (lv_at hl 2 rfl) ?_
  refine getF F hK hP lf_X8_34 (0) (xp_0 cA ax r3.2) rfl (dd D_X8_sky 16 rfl) ?_
  refine rwe_all (st' := []) hD hS hA (rV (rest := []) F (c_X7_empty D cA ax r3.2 l H.size) lk_X8_188 (Nat.le_of_ble_eq_true rfl) (preRW hK hS hAb hP hD) (rcv_7 hK hP (q0 := (41)) (xp_41 cA ax r3.2)) rfl hl rfl (Nat.le_of_ble_eq_true rfl) (dd D_X8_sky 17 rfl) ⟨Nat.le_of_ble_eq_true rfl, Nat.le_of_ble_eq_true rfl⟩) rfl (fun H locs hP hD hS => ?_)
  refine lv_iload_n F.1 F.2.1 (dd D_X8_sky 18 rfl) rfl (lv_at hl 1 rfl) ?_
  refine lv_iconst (v := (-1 : Int32)) F.1 F.2.1 (dd D_X8_sky 19 rfl) ki_m1 ?_
  refine x_icmp_ne (tgt := 55) F.1 F.2.1 (dd D_X8_sky 20 rfl) rfl h (fun c5 h => ?_) (fun c5 h => ?_)
  · refine lv_aload_n F.1 F.2.1 (dd D_X8_sky 29 rfl) rfl (lv_at hl 2 rfl) ?_
    refine getF F hK hP lf_X8_10 (0) (xp_0 cA ax (F_X7_empty r3.2)) rfl (dd D_X8_sky 30 rfl) ?_
    refine lv_aload_n F.1 F.2.1 (dd D_X8_sky 31 rfl) rfl (lv_at hl 2 rfl) ?_
    refine getF F hK hP lf_X8_16 (0) (xp_0 cA ax (F_X7_empty r3.2)) rfl (dd D_X8_sky 32 rfl) ?_
    obtain ⟨r6, e7, h⟩ := Option.bind_eq_some_iff.mp h
    refine rwe (V := none) (wc := ((stateW cA (fun i => ax (1+i)) (x_now (F_X7_empty r3.2))) ++ (stateW cA (fun i => ax (14+i)) (x_draft (F_X7_empty r3.2))))) (wc' := ((stateW cA (fun i => ax (1+i)) r6) ++ (stateW cA (fun i => ax (14+i)) (x_draft (F_X7_empty r3.2))))) (st' := []) (W' := (xW cA ax (x_set_now (F_X7_empty r3.2) r6))) hP hD hS hA [1, 2, 3, 4, 5, 6, 7, 8, 9, 10, 11, 12, 13, 14, 15, 16, 17, 18, 19, 20, 21, 22, 23, 24, 25, 26] (jc_x_1_14 cA ax (F_X7_empty r3.2)) (Nat_nd rfl) rfl (rV (rest := []) F (c_X6_become D cA (fun i => ax (1+i)) (x_now (F_X7_empty r3.2)) (fun i => ax (14+i)) (x_draft (F_X7_empty r3.2)) n r6 e7 l H.size) lk_X8_189 (Nat.le_of_ble_eq_true rfl) (preRW hK hS hAb (selP (is := [1, 2, 3, 4, 5, 6, 7, 8, 9, 10, 11, 12, 13, 14, 15, 16, 17, 18, 19, 20, 21, 22, 23, 24, 25, 26]) hP (jc_x_1_14 cA ax (F_X7_empty r3.2))) (selD (is := [1, 2, 3, 4, 5, 6, 7, 8, 9, 10, 11, 12, 13, 14, 15, 16, 17, 18, 19, 20, 21, 22, 23, 24, 25, 26]) hD (Nat_nd rfl) (jc_x_1_14 cA ax (F_X7_empty r3.2)))) (rcv_6 hK hP (q0 := (1)) (xp_1 cA ax (F_X7_empty r3.2))) rfl hl rfl (Nat.le_of_ble_eq_true rfl) (dd D_X8_sky 33 rfl) ⟨Nat.le_of_ble_eq_true rfl, Nat.le_of_ble_eq_true rfl⟩) (js_x_1_14 cA ax (F_X7_empty r3.2) r6) rfl (fun H locs hP hD hS => ?_)
    refine lv_iload_n F.1 F.2.1 (dd D_X8_sky 34 rfl) rfl (lv_at hl 1 rfl) ?_
    obtain rfl := Option.some.inj h
    exact rw_i (R := rmOf 8 0 0) F hP hD hS hr hlk ⟨Nat.le_of_ble_eq_true rfl, Nat.le_of_ble_eq_true rfl⟩ ⟨rfl, rfl⟩ (dd D_X8_sky 35 rfl)
  · refine lv_aload_n F.1 F.2.1 (dd D_X8_sky 21 rfl) rfl (lv_at hl 2 rfl) ?_
    refine lv_bipush (v := (-2 : Int32)) F.1 F.2.1 (dd D_X8_sky 22 rfl) kb_m2 ?_
    obtain ⟨r8, e9, h⟩ := Option.bind_eq_some_iff.mp h
    refine rwe_all (st' := [.int r8.1]) hD hS hA (rV (rest := []) F (c_X8_refuse D cA ax (F_X7_empty r3.2) n (-2 : Int32) r8 e9 l H.size) lk_X8_64 (Nat.le_of_ble_eq_true rfl) (preRW hK hS hAb hP hD) (rcv_8 hK hP (q0 := (0)) (xp_0 cA ax (F_X7_empty r3.2))) rfl hl rfl (Nat.le_of_ble_eq_true rfl) (dd D_X8_sky 23 rfl) ⟨Nat.le_of_ble_eq_true rfl, Nat.le_of_ble_eq_true rfl⟩) rfl (fun H locs hP hD hS => ?_)
    refine lv_pop F.1 F.2.1 (dd D_X8_sky 24 rfl) rfl ?_
    refine lv_bipush (v := (-20 : Int32)) F.1 F.2.1 (dd D_X8_sky 25 rfl) kb_m20 ?_
    refine lv_iload_n F.1 F.2.1 (dd D_X8_sky 26 rfl) rfl (lv_at hl 0 rfl) ?_
    refine lv_isub F.1 F.2.1 (dd D_X8_sky 27 rfl) ?_
    obtain rfl := Option.some.inj h
    exact rw_i (R := rmOf 8 0 0) F hP hD hS hr hlk ⟨Nat.le_of_ble_eq_true rfl, Nat.le_of_ble_eq_true rfl⟩ ⟨rfl, rfl⟩ (dd D_X8_sky 28 rfl)
def F_X8_notchOf (n : Nat) (s : XS) (p1 : Int32) (p2 : Int32) : Option (Int32 × XS) := bf (F_X8_isIn p1 (0 : Int32) ((F_X1_count (st_hill (x_now s))) - (1 : Int32))) (bf (F_X8_isIn p2 (0 : Int32) (2 : Int32)) ((((F_X1_partOf n (st_hill (x_now s)) p1 p2)).bind fun r3 => some (r3, s))) ((((F_X8_refuse n s (-2 : Int32))).bind fun r5 => some (r5.1, r5.2)))) ((((F_X8_refuse n s (-2 : Int32))).bind fun r1 => some (r1.1, r1.2)))
set_option maxHeartbeats 4000000 in
set_option maxRecDepth 100000 in
theorem c_X8_notchOf (D : va_G) (cA : Nat → ClassId) (ax : Nat → Nat) (s : XS) (n : Nat) (p1 : Int32) (p2 : Int32) (r : (Int32 × XS)) (h : F_X8_notchOf n s p1 p2 = some r) : RW m_X8_notchOf 2 0 0 D cA [.ref (ax 0), .int p1, .int p2] (xW cA ax s) (exq (some (.int r.1)) (xW cA ax r.2)) := by
  refine RW.ofW gy_X8_notchOf.2.2 (Nat.le_of_ble_eq_true rfl) ?_
  intro l p e sM m below meth c A H locs F hr hlk hnm hK hP hD hS hA hAb ls hl
  have hl : lv_has ls 3 [(0, .ref (ax 0)), (1, .int p1), (2, .int p2)] := hl
  unfold F_X8_notchOf at h
  refine lv_iload_n F.1 F.2.1 (dd D_X8_notchOf 0 rfl) rfl (lv_at hl 1 rfl) ?_
  refine lv_iconst (v := (0 : Int32)) F.1 F.2.1 (dd D_X8_notchOf 1 rfl) ki_0 ?_
  refine lv_aload_n F.1 F.2.1 (dd D_X8_notchOf 2 rfl) rfl (lv_at hl 0 rfl) ?_
  refine getF F hK hP lf_X8_10 (0) (xp_0 cA ax s) rfl (dd D_X8_notchOf 3 rfl) ?_
  refine getF F hK hP lf_X8_147 (1) (xp_1 cA ax s) rfl (dd D_X8_notchOf 4 rfl) ?_
  refine ro_go (st' := [.int (F_X1_count (st_hill (x_now s))), .int (0 : Int32), .int p1]) (rV (rest := [.int (0 : Int32), .int p1]) F (c_X1_count D cA (fun i => ax (2+i)) (st_hill (x_now s)) l) lk_X8_160 (Nat.le_of_ble_eq_true rfl) (preRO hK hS hAb (pg_x_2 hP)) (rcv_1 hK hP (q0 := (2)) (xp_2 cA ax s)) rfl hl rfl (Nat.le_of_ble_eq_true rfl) (dd D_X8_notchOf 5 rfl) ⟨Nat.le_of_ble_eq_true rfl, Nat.le_of_ble_eq_true rfl⟩) rfl ?_
  refine lv_iconst (v := (1 : Int32)) F.1 F.2.1 (dd D_X8_notchOf 6 rfl) ki_1 ?_
  refine lv_isub F.1 F.2.1 (dd D_X8_notchOf 7 rfl) ?_
  refine ro_go (st' := [.int (bI (F_X8_isIn p1 (0 : Int32) ((F_X1_count (st_hill (x_now s))) - (1 : Int32))))]) (rS (rest := []) F (c_X8_isIn D cA p1 (0 : Int32) ((F_X1_count (st_hill (x_now s))) - (1 : Int32)) l) lk_X8_60 (Nat.le_of_ble_eq_true rfl) (preRO hK hS hAb (emP)) rfl hl rfl (Nat.le_of_ble_eq_true rfl) (dd D_X8_notchOf 8 rfl) ⟨Nat.le_of_ble_eq_true rfl, Nat.le_of_ble_eq_true rfl⟩) rfl ?_
  refine x_bif_eq (tgt := 29) F.1 F.2.1 (dd D_X8_notchOf 9 rfl) rfl h (fun c8 h => ?_) (fun c8 h => ?_)
  · refine lv_aload_n F.1 F.2.1 (dd D_X8_notchOf 15 rfl) rfl (lv_at hl 0 rfl) ?_
    refine lv_bipush (v := (-2 : Int32)) F.1 F.2.1 (dd D_X8_notchOf 16 rfl) kb_m2 ?_
    obtain ⟨r1, e2, h⟩ := Option.bind_eq_some_iff.mp h
    refine rwe_all (st' := [.int r1.1]) hD hS hA (rV (rest := []) F (c_X8_refuse D cA ax s n (-2 : Int32) r1 e2 l H.size) lk_X8_64 (Nat.le_of_ble_eq_true rfl) (preRW hK hS hAb hP hD) (rcv_8 hK hP (q0 := (0)) (xp_0 cA ax s)) rfl hl rfl (Nat.le_of_ble_eq_true rfl) (dd D_X8_notchOf 17 rfl) ⟨Nat.le_of_ble_eq_true rfl, Nat.le_of_ble_eq_true rfl⟩) rfl (fun H locs hP hD hS => ?_)
    obtain rfl := Option.some.inj h
    exact rw_i (R := rmOf 2 0 0) F hP hD hS hr hlk ⟨Nat.le_of_ble_eq_true rfl, Nat.le_of_ble_eq_true rfl⟩ ⟨rfl, rfl⟩ (dd D_X8_notchOf 18 rfl)
  · refine lv_iload_n F.1 F.2.1 (dd D_X8_notchOf 10 rfl) rfl (lv_at hl 2 rfl) ?_
    refine lv_iconst (v := (0 : Int32)) F.1 F.2.1 (dd D_X8_notchOf 11 rfl) ki_0 ?_
    refine lv_iconst (v := (2 : Int32)) F.1 F.2.1 (dd D_X8_notchOf 12 rfl) ki_2 ?_
    refine ro_go (st' := [.int (bI (F_X8_isIn p2 (0 : Int32) (2 : Int32)))]) (rS (rest := []) F (c_X8_isIn D cA p2 (0 : Int32) (2 : Int32) l) lk_X8_60 (Nat.le_of_ble_eq_true rfl) (preRO hK hS hAb (emP)) rfl hl rfl (Nat.le_of_ble_eq_true rfl) (dd D_X8_notchOf 13 rfl) ⟨Nat.le_of_ble_eq_true rfl, Nat.le_of_ble_eq_true rfl⟩) rfl ?_
    refine x_bif_ne (tgt := 36) F.1 F.2.1 (dd D_X8_notchOf 14 rfl) rfl h (fun c7 h => ?_) (fun c7 h => ?_)
    · refine lv_aload_n F.1 F.2.1 (dd D_X8_notchOf 19 rfl) rfl (lv_at hl 0 rfl) ?_
      refine getF F hK hP lf_X8_10 (0) (xp_0 cA ax s) rfl (dd D_X8_notchOf 20 rfl) ?_
      refine getF F hK hP lf_X8_147 (1) (xp_1 cA ax s) rfl (dd D_X8_notchOf 21 rfl) ?_
      refine lv_iload_n F.1 F.2.1 (dd D_X8_notchOf 22 rfl) rfl (lv_at hl 1 rfl) ?_
      refine lv_iload_n F.1 F.2.1 (dd D_X8_notchOf 23 rfl) rfl (lv_at hl 2 rfl) ?_
      obtain ⟨r3, e4, h⟩ := Option.bind_eq_some_iff.mp h
      refine ro_go (st' := [.int r3]) (rV (rest := []) F (c_X1_partOf D cA (fun i => ax (2+i)) (st_hill (x_now s)) n p1 p2 r3 e4 l) lk_X8_199 (Nat.le_of_ble_eq_true rfl) (preRO hK hS hAb (pg_x_2 hP)) (rcv_1 hK hP (q0 := (2)) (xp_2 cA ax s)) rfl hl rfl (Nat.le_of_ble_eq_true rfl) (dd D_X8_notchOf 24 rfl) ⟨Nat.le_of_ble_eq_true rfl, Nat.le_of_ble_eq_true rfl⟩) rfl ?_
      obtain rfl := Option.some.inj h
      exact rw_i (R := rmOf 2 0 0) F hP hD hS hr hlk ⟨Nat.le_of_ble_eq_true rfl, Nat.le_of_ble_eq_true rfl⟩ ⟨rfl, rfl⟩ (dd D_X8_notchOf 25 rfl)
    · refine lv_aload_n F.1 F.2.1 (dd D_X8_notchOf 15 rfl) rfl (lv_at hl 0 rfl) ?_
      refine lv_bipush (v := (-2 : Int32)) F.1 F.2.1 (dd D_X8_notchOf 16 rfl) kb_m2 ?_
      obtain ⟨r5, e6, h⟩ := Option.bind_eq_some_iff.mp h
      refine rwe_all (st' := [.int r5.1]) hD hS hA (rV (rest := []) F (c_X8_refuse D cA ax s n (-2 : Int32) r5 e6 l H.size) lk_X8_64 (Nat.le_of_ble_eq_true rfl) (preRW hK hS hAb hP hD) (rcv_8 hK hP (q0 := (0)) (xp_0 cA ax s)) rfl hl rfl (Nat.le_of_ble_eq_true rfl) (dd D_X8_notchOf 17 rfl) ⟨Nat.le_of_ble_eq_true rfl, Nat.le_of_ble_eq_true rfl⟩) rfl (fun H locs hP hD hS => ?_)
      obtain rfl := Option.some.inj h
      exact rw_i (R := rmOf 2 0 0) F hP hD hS hr hlk ⟨Nat.le_of_ble_eq_true rfl, Nat.le_of_ble_eq_true rfl⟩ ⟨rfl, rfl⟩ (dd D_X8_notchOf 18 rfl)
def F_X8_isStone (s : XS) (p1 : Int32) : Bool := ((F_X8_isIn p1 (0 : Int32) ((F_X0_count 6 (st_stones (x_now s))) - (1 : Int32))))
set_option maxHeartbeats 4000000 in
set_option maxRecDepth 100000 in
theorem c_X8_isStone (D : va_G) (cA : Nat → ClassId) (ax : Nat → Nat) (s : XS) (p1 : Int32) : RO m_X8_isStone 1 D cA [.ref (ax 0), .int p1] (xW cA ax s) (some (.int (bI (F_X8_isStone s p1)))) := by
  obtain ⟨r, h⟩ : ∃ r, F_X8_isStone s p1 = r := ⟨_, rfl⟩
  rw [h]
  refine RO.ofW gy_X8_isStone.2.2 (Nat.le_of_ble_eq_true rfl) ?_
  intro l p e sM m below meth c F hr hlk hK hP hS hAb ls hl
  have hl : lv_has ls 2 [(0, .ref (ax 0)), (1, .int p1)] := hl
  unfold F_X8_isStone at h
  refine lv_iload_n F.1 F.2.1 (dd D_X8_isStone 0 rfl) rfl (lv_at hl 1 rfl) ?_
  refine lv_iconst (v := (0 : Int32)) F.1 F.2.1 (dd D_X8_isStone 1 rfl) ki_0 ?_
  refine lv_aload_n F.1 F.2.1 (dd D_X8_isStone 2 rfl) rfl (lv_at hl 0 rfl) ?_
  refine getF F hK hP lf_X8_10 (0) (xp_0 cA ax s) rfl (dd D_X8_isStone 3 rfl) ?_
  refine getF F hK hP lf_X8_163 (1) (xp_1 cA ax s) rfl (dd D_X8_isStone 4 rfl) ?_
  refine ro_go (st' := [.int (F_X0_count 6 (st_stones (x_now s))), .int (0 : Int32), .int p1]) (rV (rest := [.int (0 : Int32), .int p1]) F (c_X0_count D cA 6 (fun i => ax (10+i)) (st_stones (x_now s)) l) lk_X8_172 (Nat.le_of_ble_eq_true rfl) (preRO hK hS hAb (pg_x_10 hP)) (rcv_0 hK hP (q0 := (10)) (xp_10 cA ax s)) rfl hl rfl (Nat.le_of_ble_eq_true rfl) (dd D_X8_isStone 5 rfl) ⟨Nat.le_of_ble_eq_true rfl, Nat.le_of_ble_eq_true rfl⟩) rfl ?_
  refine lv_iconst (v := (1 : Int32)) F.1 F.2.1 (dd D_X8_isStone 6 rfl) ki_1 ?_
  refine lv_isub F.1 F.2.1 (dd D_X8_isStone 7 rfl) ?_
  refine ro_go (st' := [.int (bI (F_X8_isIn p1 (0 : Int32) ((F_X0_count 6 (st_stones (x_now s))) - (1 : Int32))))]) (rS (rest := []) F (c_X8_isIn D cA p1 (0 : Int32) ((F_X0_count 6 (st_stones (x_now s))) - (1 : Int32)) l) lk_X8_60 (Nat.le_of_ble_eq_true rfl) (preRO hK hS hAb (emP)) rfl hl rfl (Nat.le_of_ble_eq_true rfl) (dd D_X8_isStone 8 rfl) ⟨Nat.le_of_ble_eq_true rfl, Nat.le_of_ble_eq_true rfl⟩) rfl ?_
  exact ro_z (R := rmOf 1 0 0) F hr (bI_nar _) hlk (congrArg (fun z => some (Value.int (bI z))) h) (dd D_X8_isStone 9 rfl)
def F_X8_stoneOf (n : Nat) (s : XS) (p1 : Int32) : Option (Int32 × XS) := bf (F_X8_isStone s p1) ((((F_X0_at n 6 (st_stones (x_now s)) p1)).bind fun r1 => some (r1, s))) ((((F_X8_refuse n s (-2 : Int32))).bind fun r3 => some (r3.1, r3.2)))
set_option maxHeartbeats 4000000 in
set_option maxRecDepth 100000 in
theorem c_X8_stoneOf (D : va_G) (cA : Nat → ClassId) (ax : Nat → Nat) (s : XS) (n : Nat) (p1 : Int32) (r : (Int32 × XS)) (h : F_X8_stoneOf n s p1 = some r) : RW m_X8_stoneOf 2 0 0 D cA [.ref (ax 0), .int p1] (xW cA ax s) (exq (some (.int r.1)) (xW cA ax r.2)) := by
  refine RW.ofW gy_X8_stoneOf.2.2 (Nat.le_of_ble_eq_true rfl) ?_
  intro l p e sM m below meth c A H locs F hr hlk hnm hK hP hD hS hA hAb ls hl
  have hl : lv_has ls 2 [(0, .ref (ax 0)), (1, .int p1)] := hl
  unfold F_X8_stoneOf at h
  refine lv_aload_n F.1 F.2.1 (dd D_X8_stoneOf 0 rfl) rfl (lv_at hl 0 rfl) ?_
  refine lv_iload_n F.1 F.2.1 (dd D_X8_stoneOf 1 rfl) rfl (lv_at hl 1 rfl) ?_
  refine ro_go (st' := [.int (bI (F_X8_isStone s p1))]) (rV (rest := []) F (c_X8_isStone D cA ax s p1 l) lk_X8_202 (Nat.le_of_ble_eq_true rfl) (preRO hK hS hAb hP) (rcv_8 hK hP (q0 := (0)) (xp_0 cA ax s)) rfl hl rfl (Nat.le_of_ble_eq_true rfl) (dd D_X8_stoneOf 2 rfl) ⟨Nat.le_of_ble_eq_true rfl, Nat.le_of_ble_eq_true rfl⟩) rfl ?_
  refine x_bif_ne (tgt := 15) F.1 F.2.1 (dd D_X8_stoneOf 3 rfl) rfl h (fun c5 h => ?_) (fun c5 h => ?_)
  · refine lv_aload_n F.1 F.2.1 (dd D_X8_stoneOf 8 rfl) rfl (lv_at hl 0 rfl) ?_
    refine getF F hK hP lf_X8_10 (0) (xp_0 cA ax s) rfl (dd D_X8_stoneOf 9 rfl) ?_
    refine getF F hK hP lf_X8_163 (1) (xp_1 cA ax s) rfl (dd D_X8_stoneOf 10 rfl) ?_
    refine lv_iload_n F.1 F.2.1 (dd D_X8_stoneOf 11 rfl) rfl (lv_at hl 1 rfl) ?_
    obtain ⟨r1, e2, h⟩ := Option.bind_eq_some_iff.mp h
    refine ro_go (st' := [.int r1]) (rV (rest := []) F (c_X0_at D cA 6 (fun i => ax (10+i)) (st_stones (x_now s)) n p1 r1 e2 l) lk_X8_205 (Nat.le_of_ble_eq_true rfl) (preRO hK hS hAb (pg_x_10 hP)) (rcv_0 hK hP (q0 := (10)) (xp_10 cA ax s)) rfl hl rfl (Nat.le_of_ble_eq_true rfl) (dd D_X8_stoneOf 12 rfl) ⟨Nat.le_of_ble_eq_true rfl, Nat.le_of_ble_eq_true rfl⟩) rfl ?_
    obtain rfl := Option.some.inj h
    exact rw_i (R := rmOf 2 0 0) F hP hD hS hr hlk ⟨Nat.le_of_ble_eq_true rfl, Nat.le_of_ble_eq_true rfl⟩ ⟨rfl, rfl⟩ (dd D_X8_stoneOf 13 rfl)
  · refine lv_aload_n F.1 F.2.1 (dd D_X8_stoneOf 4 rfl) rfl (lv_at hl 0 rfl) ?_
    refine lv_bipush (v := (-2 : Int32)) F.1 F.2.1 (dd D_X8_stoneOf 5 rfl) kb_m2 ?_
    obtain ⟨r3, e4, h⟩ := Option.bind_eq_some_iff.mp h
    refine rwe_all (st' := [.int r3.1]) hD hS hA (rV (rest := []) F (c_X8_refuse D cA ax s n (-2 : Int32) r3 e4 l H.size) lk_X8_64 (Nat.le_of_ble_eq_true rfl) (preRW hK hS hAb hP hD) (rcv_8 hK hP (q0 := (0)) (xp_0 cA ax s)) rfl hl rfl (Nat.le_of_ble_eq_true rfl) (dd D_X8_stoneOf 6 rfl) ⟨Nat.le_of_ble_eq_true rfl, Nat.le_of_ble_eq_true rfl⟩) rfl (fun H locs hP hD hS => ?_)
    obtain rfl := Option.some.inj h
    exact rw_i (R := rmOf 2 0 0) F hP hD hS hr hlk ⟨Nat.le_of_ble_eq_true rfl, Nat.le_of_ble_eq_true rfl⟩ ⟨rfl, rfl⟩ (dd D_X8_stoneOf 7 rfl)
def F_X8_line (n : Nat) (s : XS) (p1 : Int32) : Option (Int32 × XS) := bf (F_X8_isIn p1 (0 : Int32) (999 : Int32)) ((((F_X1_lineAt n (st_hill (x_now s)) p1)).bind fun r1 => some (r1, s))) ((((F_X8_refuse n s (-2 : Int32))).bind fun r3 => some (r3.1, r3.2)))
set_option maxHeartbeats 4000000 in
set_option maxRecDepth 100000 in
theorem c_X8_line (D : va_G) (cA : Nat → ClassId) (ax : Nat → Nat) (s : XS) (n : Nat) (p1 : Int32) (r : (Int32 × XS)) (h : F_X8_line n s p1 = some r) : RW m_X8_line 1 0 0 D cA [.ref (ax 0), .int p1] (xW cA ax s) (exq (some (.int r.1)) (xW cA ax r.2)) := by
  refine RW.ofW gy_X8_line.2.2 (Nat.le_of_ble_eq_true rfl) ?_
  intro l p e sM m below meth c A H locs F hr hlk hnm hK hP hD hS hA hAb ls hl
  have hl : lv_has ls 2 [(0, .ref (ax 0)), (1, .int p1)] := hl
  unfold F_X8_line at h
  refine lv_iload_n F.1 F.2.1 (dd D_X8_line 0 rfl) rfl (lv_at hl 1 rfl) ?_
  refine lv_iconst (v := (0 : Int32)) F.1 F.2.1 (dd D_X8_line 1 rfl) ki_0 ?_
  refine lv_sipush (v := (999 : Int32)) F.1 F.2.1 (dd D_X8_line 2 rfl) ks_999 ?_
  refine ro_go (st' := [.int (bI (F_X8_isIn p1 (0 : Int32) (999 : Int32)))]) (rS (rest := []) F (c_X8_isIn D cA p1 (0 : Int32) (999 : Int32) l) lk_X8_60 (Nat.le_of_ble_eq_true rfl) (preRO hK hS hAb (emP)) rfl hl rfl (Nat.le_of_ble_eq_true rfl) (dd D_X8_line 3 rfl) ⟨Nat.le_of_ble_eq_true rfl, Nat.le_of_ble_eq_true rfl⟩) rfl ?_
  refine x_bif_ne (tgt := 18) F.1 F.2.1 (dd D_X8_line 4 rfl) rfl h (fun c5 h => ?_) (fun c5 h => ?_)
  · refine lv_aload_n F.1 F.2.1 (dd D_X8_line 9 rfl) rfl (lv_at hl 0 rfl) ?_
    refine getF F hK hP lf_X8_10 (0) (xp_0 cA ax s) rfl (dd D_X8_line 10 rfl) ?_
    refine getF F hK hP lf_X8_147 (1) (xp_1 cA ax s) rfl (dd D_X8_line 11 rfl) ?_
    refine lv_iload_n F.1 F.2.1 (dd D_X8_line 12 rfl) rfl (lv_at hl 1 rfl) ?_
    obtain ⟨r1, e2, h⟩ := Option.bind_eq_some_iff.mp h
    refine ro_go (st' := [.int r1]) (rV (rest := []) F (c_X1_lineAt D cA (fun i => ax (2+i)) (st_hill (x_now s)) n p1 r1 e2 l) lk_X8_207 (Nat.le_of_ble_eq_true rfl) (preRO hK hS hAb (pg_x_2 hP)) (rcv_1 hK hP (q0 := (2)) (xp_2 cA ax s)) rfl hl rfl (Nat.le_of_ble_eq_true rfl) (dd D_X8_line 13 rfl) ⟨Nat.le_of_ble_eq_true rfl, Nat.le_of_ble_eq_true rfl⟩) rfl ?_
    obtain rfl := Option.some.inj h
    exact rw_i (R := rmOf 1 0 0) F hP hD hS hr hlk ⟨Nat.le_of_ble_eq_true rfl, Nat.le_of_ble_eq_true rfl⟩ ⟨rfl, rfl⟩ (dd D_X8_line 14 rfl)
  · refine lv_aload_n F.1 F.2.1 (dd D_X8_line 5 rfl) rfl (lv_at hl 0 rfl) ?_
    refine lv_bipush (v := (-2 : Int32)) F.1 F.2.1 (dd D_X8_line 6 rfl) kb_m2 ?_
    obtain ⟨r3, e4, h⟩ := Option.bind_eq_some_iff.mp h
    refine rwe_all (st' := [.int r3.1]) hD hS hA (rV (rest := []) F (c_X8_refuse D cA ax s n (-2 : Int32) r3 e4 l H.size) lk_X8_64 (Nat.le_of_ble_eq_true rfl) (preRW hK hS hAb hP hD) (rcv_8 hK hP (q0 := (0)) (xp_0 cA ax s)) rfl hl rfl (Nat.le_of_ble_eq_true rfl) (dd D_X8_line 7 rfl) ⟨Nat.le_of_ble_eq_true rfl, Nat.le_of_ble_eq_true rfl⟩) rfl (fun H locs hP hD hS => ?_)
    obtain rfl := Option.some.inj h
    exact rw_i (R := rmOf 1 0 0) F hP hD hS hr hlk ⟨Nat.le_of_ble_eq_true rfl, Nat.le_of_ble_eq_true rfl⟩ ⟨rfl, rfl⟩ (dd D_X8_line 8 rfl)
def F_X8_moon (n : Nat) (s : XS) (p1 : Int32) (p2 : Int32) : Option (Int32 × XS) := bf (F_X8_isDay p1) ((if p2 = (0 : Int32) then some ((F_X2_ageOf s p1), s) else (if p2 = (1 : Int32) then some ((F_X2_litOf s p1), s) else (if p2 = (2 : Int32) then some ((F_X2_outOf s p1), s) else (if p2 = (3 : Int32) then some ((F_X2_riseOf s p1), s) else (if p2 = (4 : Int32) then some ((F_X2_wayOf s p1), s) else (if p2 = (5 : Int32) then (((F_X2_overOf n s p1)).bind fun r2 => some (r2, s)) else (if p2 = (6 : Int32) then (((F_X2_upOf n s p1)).bind fun r4 => some (r4, s)) else (if p2 = (7 : Int32) then (if p1 = (9999 : Int32) then (((F_X8_refuse n s (-2 : Int32))).bind fun r9 => some (r9.1, r9.2)) else (((F_X2_laterOf n s p1)).bind fun r7 => some (r7, s))) else (if p2 = (8 : Int32) then (((F_X2_degreeOf n s p1)).bind fun r11 => some (r11, s)) else (((F_X8_refuse n s (-2 : Int32))).bind fun r13 => some (r13.1, r13.2)))))))))))) ((((F_X8_refuse n s (-2 : Int32))).bind fun r15 => some (r15.1, r15.2)))
set_option maxHeartbeats 4000000 in
set_option maxRecDepth 100000 in
theorem c_X8_moon (D : va_G) (cA : Nat → ClassId) (ax : Nat → Nat) (s : XS) (n : Nat) (p1 : Int32) (p2 : Int32) (r : (Int32 × XS)) (h : F_X8_moon n s p1 p2 = some r) : RW m_X8_moon 4 0 0 D cA [.ref (ax 0), .int p1, .int p2] (xW cA ax s) (exq (some (.int r.1)) (xW cA ax r.2)) := by
  refine RW.ofW gy_X8_moon.2.2 (Nat.le_of_ble_eq_true rfl) ?_
  intro l p e sM m below meth c A H locs F hr hlk hnm hK hP hD hS hA hAb ls hl
  have hl : lv_has ls 3 [(0, .ref (ax 0)), (1, .int p1), (2, .int p2)] := hl
  unfold F_X8_moon at h
  refine lv_iload_n F.1 F.2.1 (dd D_X8_moon 0 rfl) rfl (lv_at hl 1 rfl) ?_
  refine ro_go (st' := [.int (bI (F_X8_isDay p1))]) (rS (rest := []) F (c_X8_isDay D cA p1 l) lk_X8_113 (Nat.le_of_ble_eq_true rfl) (preRO hK hS hAb (emP)) rfl hl rfl (Nat.le_of_ble_eq_true rfl) (dd D_X8_moon 1 rfl) ⟨Nat.le_of_ble_eq_true rfl, Nat.le_of_ble_eq_true rfl⟩) rfl ?_
  refine x_bif_ne (tgt := 14) F.1 F.2.1 (dd D_X8_moon 2 rfl) rfl h (fun c17 h => ?_) (fun c17 h => ?_)
  · refine lv_iload_n F.1 F.2.1 (dd D_X8_moon 7 rfl) rfl (lv_at hl 2 rfl) ?_
    refine x_ts (tgt := 64) F.1 F.2.1 (0 : Int32) (dd D_X8_moon 8 rfl) h (by decide) (by decide) rfl rfl (fun c1_0 h => ?_) (fun c1_0 h => ?_)
    · refine lv_aload_n F.1 F.2.1 (dd D_X8_moon 9 rfl) rfl (lv_at hl 0 rfl) ?_
      refine getF F hK hP lf_X8_27 (0) (xp_0 cA ax s) rfl (dd D_X8_moon 10 rfl) ?_
      refine lv_iload_n F.1 F.2.1 (dd D_X8_moon 11 rfl) rfl (lv_at hl 1 rfl) ?_
      refine ro_go (st' := [.int (F_X2_ageOf s p1)]) (rV (rest := []) F (c_X2_ageOf D cA ax s p1 l) lk_X8_210 (Nat.le_of_ble_eq_true rfl) (preRO hK hS hAb hP) (rcv_2 hK hP (q0 := (40)) (xp_40 cA ax s)) rfl hl rfl (Nat.le_of_ble_eq_true rfl) (dd D_X8_moon 12 rfl) ⟨Nat.le_of_ble_eq_true rfl, Nat.le_of_ble_eq_true rfl⟩) rfl ?_
      obtain rfl := Option.some.inj h
      exact rw_i (R := rmOf 4 0 0) F hP hD hS hr hlk ⟨Nat.le_of_ble_eq_true rfl, Nat.le_of_ble_eq_true rfl⟩ ⟨rfl, rfl⟩ (dd D_X8_moon 13 rfl)
    refine x_ts (tgt := 73) F.1 F.2.1 (1 : Int32) (dd D_X8_moon 8 rfl) h (by decide) (by decide) rfl rfl (fun c1_1 h => ?_) (fun c1_1 h => ?_)
    · refine lv_aload_n F.1 F.2.1 (dd D_X8_moon 14 rfl) rfl (lv_at hl 0 rfl) ?_
      refine getF F hK hP lf_X8_27 (0) (xp_0 cA ax s) rfl (dd D_X8_moon 15 rfl) ?_
      refine lv_iload_n F.1 F.2.1 (dd D_X8_moon 16 rfl) rfl (lv_at hl 1 rfl) ?_
      refine ro_go (st' := [.int (F_X2_litOf s p1)]) (rV (rest := []) F (c_X2_litOf D cA ax s p1 l) lk_X8_213 (Nat.le_of_ble_eq_true rfl) (preRO hK hS hAb hP) (rcv_2 hK hP (q0 := (40)) (xp_40 cA ax s)) rfl hl rfl (Nat.le_of_ble_eq_true rfl) (dd D_X8_moon 17 rfl) ⟨Nat.le_of_ble_eq_true rfl, Nat.le_of_ble_eq_true rfl⟩) rfl ?_
      obtain rfl := Option.some.inj h
      exact rw_i (R := rmOf 4 0 0) F hP hD hS hr hlk ⟨Nat.le_of_ble_eq_true rfl, Nat.le_of_ble_eq_true rfl⟩ ⟨rfl, rfl⟩ (dd D_X8_moon 18 rfl)
    refine x_ts (tgt := 82) F.1 F.2.1 (2 : Int32) (dd D_X8_moon 8 rfl) h (by decide) (by decide) rfl rfl (fun c1_2 h => ?_) (fun c1_2 h => ?_)
    · refine lv_aload_n F.1 F.2.1 (dd D_X8_moon 19 rfl) rfl (lv_at hl 0 rfl) ?_
      refine getF F hK hP lf_X8_27 (0) (xp_0 cA ax s) rfl (dd D_X8_moon 20 rfl) ?_
      refine lv_iload_n F.1 F.2.1 (dd D_X8_moon 21 rfl) rfl (lv_at hl 1 rfl) ?_
      refine ro_go (st' := [.int (F_X2_outOf s p1)]) (rV (rest := []) F (c_X2_outOf D cA ax s p1 l) lk_X8_216 (Nat.le_of_ble_eq_true rfl) (preRO hK hS hAb hP) (rcv_2 hK hP (q0 := (40)) (xp_40 cA ax s)) rfl hl rfl (Nat.le_of_ble_eq_true rfl) (dd D_X8_moon 22 rfl) ⟨Nat.le_of_ble_eq_true rfl, Nat.le_of_ble_eq_true rfl⟩) rfl ?_
      obtain rfl := Option.some.inj h
      exact rw_i (R := rmOf 4 0 0) F hP hD hS hr hlk ⟨Nat.le_of_ble_eq_true rfl, Nat.le_of_ble_eq_true rfl⟩ ⟨rfl, rfl⟩ (dd D_X8_moon 23 rfl)
    refine x_ts (tgt := 91) F.1 F.2.1 (3 : Int32) (dd D_X8_moon 8 rfl) h (by decide) (by decide) rfl rfl (fun c1_3 h => ?_) (fun c1_3 h => ?_)
    · refine lv_aload_n F.1 F.2.1 (dd D_X8_moon 24 rfl) rfl (lv_at hl 0 rfl) ?_
      refine getF F hK hP lf_X8_27 (0) (xp_0 cA ax s) rfl (dd D_X8_moon 25 rfl) ?_
      refine lv_iload_n F.1 F.2.1 (dd D_X8_moon 26 rfl) rfl (lv_at hl 1 rfl) ?_
      refine ro_go (st' := [.int (F_X2_riseOf s p1)]) (rV (rest := []) F (c_X2_riseOf D cA ax s p1 l) lk_X8_219 (Nat.le_of_ble_eq_true rfl) (preRO hK hS hAb hP) (rcv_2 hK hP (q0 := (40)) (xp_40 cA ax s)) rfl hl rfl (Nat.le_of_ble_eq_true rfl) (dd D_X8_moon 27 rfl) ⟨Nat.le_of_ble_eq_true rfl, Nat.le_of_ble_eq_true rfl⟩) rfl ?_
      obtain rfl := Option.some.inj h
      exact rw_i (R := rmOf 4 0 0) F hP hD hS hr hlk ⟨Nat.le_of_ble_eq_true rfl, Nat.le_of_ble_eq_true rfl⟩ ⟨rfl, rfl⟩ (dd D_X8_moon 28 rfl)
    refine x_ts (tgt := 100) F.1 F.2.1 (4 : Int32) (dd D_X8_moon 8 rfl) h (by decide) (by decide) rfl rfl (fun c1_4 h => ?_) (fun c1_4 h => ?_)
    · refine lv_aload_n F.1 F.2.1 (dd D_X8_moon 29 rfl) rfl (lv_at hl 0 rfl) ?_
      refine getF F hK hP lf_X8_27 (0) (xp_0 cA ax s) rfl (dd D_X8_moon 30 rfl) ?_
      refine lv_iload_n F.1 F.2.1 (dd D_X8_moon 31 rfl) rfl (lv_at hl 1 rfl) ?_
      refine ro_go (st' := [.int (F_X2_wayOf s p1)]) (rV (rest := []) F (c_X2_wayOf D cA ax s p1 l) lk_X8_222 (Nat.le_of_ble_eq_true rfl) (preRO hK hS hAb hP) (rcv_2 hK hP (q0 := (40)) (xp_40 cA ax s)) rfl hl rfl (Nat.le_of_ble_eq_true rfl) (dd D_X8_moon 32 rfl) ⟨Nat.le_of_ble_eq_true rfl, Nat.le_of_ble_eq_true rfl⟩) rfl ?_
      obtain rfl := Option.some.inj h
      exact rw_i (R := rmOf 4 0 0) F hP hD hS hr hlk ⟨Nat.le_of_ble_eq_true rfl, Nat.le_of_ble_eq_true rfl⟩ ⟨rfl, rfl⟩ (dd D_X8_moon 33 rfl)
    refine x_ts (tgt := 109) F.1 F.2.1 (5 : Int32) (dd D_X8_moon 8 rfl) h (by decide) (by decide) rfl rfl (fun c1_5 h => ?_) (fun c1_5 h => ?_)
    · refine lv_aload_n F.1 F.2.1 (dd D_X8_moon 34 rfl) rfl (lv_at hl 0 rfl) ?_
      refine getF F hK hP lf_X8_27 (0) (xp_0 cA ax s) rfl (dd D_X8_moon 35 rfl) ?_
      refine lv_iload_n F.1 F.2.1 (dd D_X8_moon 36 rfl) rfl (lv_at hl 1 rfl) ?_
      obtain ⟨r2, e3, h⟩ := Option.bind_eq_some_iff.mp h
      refine ro_go (st' := [.int r2]) (rV (rest := []) F (c_X2_overOf D cA ax s n p1 r2 e3 l) lk_X8_225 (Nat.le_of_ble_eq_true rfl) (preRO hK hS hAb hP) (rcv_2 hK hP (q0 := (40)) (xp_40 cA ax s)) rfl hl rfl (Nat.le_of_ble_eq_true rfl) (dd D_X8_moon 37 rfl) ⟨Nat.le_of_ble_eq_true rfl, Nat.le_of_ble_eq_true rfl⟩) rfl ?_
      obtain rfl := Option.some.inj h
      exact rw_i (R := rmOf 4 0 0) F hP hD hS hr hlk ⟨Nat.le_of_ble_eq_true rfl, Nat.le_of_ble_eq_true rfl⟩ ⟨rfl, rfl⟩ (dd D_X8_moon 38 rfl)
    refine x_ts (tgt := 118) F.1 F.2.1 (6 : Int32) (dd D_X8_moon 8 rfl) h (by decide) (by decide) rfl rfl (fun c1_6 h => ?_) (fun c1_6 h => ?_)
    · refine lv_aload_n F.1 F.2.1 (dd D_X8_moon 39 rfl) rfl (lv_at hl 0 rfl) ?_
      refine getF F hK hP lf_X8_27 (0) (xp_0 cA ax s) rfl (dd D_X8_moon 40 rfl) ?_
      refine lv_iload_n F.1 F.2.1 (dd D_X8_moon 41 rfl) rfl (lv_at hl 1 rfl) ?_
      obtain ⟨r4, e5, h⟩ := Option.bind_eq_some_iff.mp h
      refine ro_go (st' := [.int r4]) (rV (rest := []) F (c_X2_upOf D cA ax s n p1 r4 e5 l) lk_X8_228 (Nat.le_of_ble_eq_true rfl) (preRO hK hS hAb hP) (rcv_2 hK hP (q0 := (40)) (xp_40 cA ax s)) rfl hl rfl (Nat.le_of_ble_eq_true rfl) (dd D_X8_moon 42 rfl) ⟨Nat.le_of_ble_eq_true rfl, Nat.le_of_ble_eq_true rfl⟩) rfl ?_
      obtain rfl := Option.some.inj h
      exact rw_i (R := rmOf 4 0 0) F hP hD hS hr hlk ⟨Nat.le_of_ble_eq_true rfl, Nat.le_of_ble_eq_true rfl⟩ ⟨rfl, rfl⟩ (dd D_X8_moon 43 rfl)
    refine x_ts (tgt := 127) F.1 F.2.1 (7 : Int32) (dd D_X8_moon 8 rfl) h (by decide) (by decide) rfl rfl (fun c1_7 h => ?_) (fun c1_7 h => ?_)
    · refine lv_iload_n F.1 F.2.1 (dd D_X8_moon 44 rfl) rfl (lv_at hl 1 rfl) ?_
      refine lv_sipush (v := (9999 : Int32)) F.1 F.2.1 (dd D_X8_moon 45 rfl) ks_9999 ?_
      refine x_icmp_ne (tgt := 143) F.1 F.2.1 (dd D_X8_moon 46 rfl) rfl h (fun c6 h => ?_) (fun c6 h => ?_)
      · refine lv_aload_n F.1 F.2.1 (dd D_X8_moon 51 rfl) rfl (lv_at hl 0 rfl) ?_
        refine getF F hK hP lf_X8_27 (0) (xp_0 cA ax s) rfl (dd D_X8_moon 52 rfl) ?_
        refine lv_iload_n F.1 F.2.1 (dd D_X8_moon 53 rfl) rfl (lv_at hl 1 rfl) ?_
        obtain ⟨r7, e8, h⟩ := Option.bind_eq_some_iff.mp h
        refine ro_go (st' := [.int r7]) (rV (rest := []) F (c_X2_laterOf D cA ax s n p1 r7 e8 l) lk_X8_231 (Nat.le_of_ble_eq_true rfl) (preRO hK hS hAb hP) (rcv_2 hK hP (q0 := (40)) (xp_40 cA ax s)) rfl hl rfl (Nat.le_of_ble_eq_true rfl) (dd D_X8_moon 54 rfl) ⟨Nat.le_of_ble_eq_true rfl, Nat.le_of_ble_eq_true rfl⟩) rfl ?_
        obtain rfl := Option.some.inj h
        exact rw_i (R := rmOf 4 0 0) F hP hD hS hr hlk ⟨Nat.le_of_ble_eq_true rfl, Nat.le_of_ble_eq_true rfl⟩ ⟨rfl, rfl⟩ (dd D_X8_moon 55 rfl)
      · refine lv_aload_n F.1 F.2.1 (dd D_X8_moon 47 rfl) rfl (lv_at hl 0 rfl) ?_
        refine lv_bipush (v := (-2 : Int32)) F.1 F.2.1 (dd D_X8_moon 48 rfl) kb_m2 ?_
        obtain ⟨r9, e10, h⟩ := Option.bind_eq_some_iff.mp h
        refine rwe_all (st' := [.int r9.1]) hD hS hA (rV (rest := []) F (c_X8_refuse D cA ax s n (-2 : Int32) r9 e10 l H.size) lk_X8_64 (Nat.le_of_ble_eq_true rfl) (preRW hK hS hAb hP hD) (rcv_8 hK hP (q0 := (0)) (xp_0 cA ax s)) rfl hl rfl (Nat.le_of_ble_eq_true rfl) (dd D_X8_moon 49 rfl) ⟨Nat.le_of_ble_eq_true rfl, Nat.le_of_ble_eq_true rfl⟩) rfl (fun H locs hP hD hS => ?_)
        refine lv_goto (tgt := 151) F.1 F.2.1 (dd D_X8_moon 50 rfl) rfl ?_
        obtain rfl := Option.some.inj h
        exact rw_i (R := rmOf 4 0 0) F hP hD hS hr hlk ⟨Nat.le_of_ble_eq_true rfl, Nat.le_of_ble_eq_true rfl⟩ ⟨rfl, rfl⟩ (dd D_X8_moon 55 rfl)
    refine x_ts (tgt := 152) F.1 F.2.1 (8 : Int32) (dd D_X8_moon 8 rfl) h (by decide) (by decide) rfl rfl (fun c1_8 h => ?_) (fun c1_8 h => ?_)
    · refine lv_aload_n F.1 F.2.1 (dd D_X8_moon 56 rfl) rfl (lv_at hl 0 rfl) ?_
      refine getF F hK hP lf_X8_27 (0) (xp_0 cA ax s) rfl (dd D_X8_moon 57 rfl) ?_
      refine lv_iload_n F.1 F.2.1 (dd D_X8_moon 58 rfl) rfl (lv_at hl 1 rfl) ?_
      obtain ⟨r11, e12, h⟩ := Option.bind_eq_some_iff.mp h
      refine ro_go (st' := [.int r11]) (rV (rest := []) F (c_X2_degreeOf D cA ax s n p1 r11 e12 l) lk_X8_234 (Nat.le_of_ble_eq_true rfl) (preRO hK hS hAb hP) (rcv_2 hK hP (q0 := (40)) (xp_40 cA ax s)) rfl hl rfl (Nat.le_of_ble_eq_true rfl) (dd D_X8_moon 59 rfl) ⟨Nat.le_of_ble_eq_true rfl, Nat.le_of_ble_eq_true rfl⟩) rfl ?_
      obtain rfl := Option.some.inj h
      exact rw_i (R := rmOf 4 0 0) F hP hD hS hr hlk ⟨Nat.le_of_ble_eq_true rfl, Nat.le_of_ble_eq_true rfl⟩ ⟨rfl, rfl⟩ (dd D_X8_moon 60 rfl)
    refine lv_tableOut (tgt := 161) F.1 F.2.1 (dd D_X8_moon 8 rfl) (ts_out (lo := 0) (vs := [(0 : Int32), (1 : Int32), (2 : Int32), (3 : Int32), (4 : Int32), (5 : Int32), (6 : Int32), (7 : Int32), (8 : Int32)]) tsv_0_9 (by intro v hv; simp only [List.mem_cons, List.not_mem_nil, or_false] at hv; rcases hv with rfl | rfl | rfl | rfl | rfl | rfl | rfl | rfl | rfl <;> assumption)) rfl ?_
    refine lv_aload_n F.1 F.2.1 (dd D_X8_moon 61 rfl) rfl (lv_at hl 0 rfl) ?_
    refine lv_bipush (v := (-2 : Int32)) F.1 F.2.1 (dd D_X8_moon 62 rfl) kb_m2 ?_
    obtain ⟨r13, e14, h⟩ := Option.bind_eq_some_iff.mp h
    refine rwe_all (st' := [.int r13.1]) hD hS hA (rV (rest := []) F (c_X8_refuse D cA ax s n (-2 : Int32) r13 e14 l H.size) lk_X8_64 (Nat.le_of_ble_eq_true rfl) (preRW hK hS hAb hP hD) (rcv_8 hK hP (q0 := (0)) (xp_0 cA ax s)) rfl hl rfl (Nat.le_of_ble_eq_true rfl) (dd D_X8_moon 63 rfl) ⟨Nat.le_of_ble_eq_true rfl, Nat.le_of_ble_eq_true rfl⟩) rfl (fun H locs hP hD hS => ?_)
    obtain rfl := Option.some.inj h
    exact rw_i (R := rmOf 4 0 0) F hP hD hS hr hlk ⟨Nat.le_of_ble_eq_true rfl, Nat.le_of_ble_eq_true rfl⟩ ⟨rfl, rfl⟩ (dd D_X8_moon 64 rfl)
  · refine lv_aload_n F.1 F.2.1 (dd D_X8_moon 3 rfl) rfl (lv_at hl 0 rfl) ?_
    refine lv_bipush (v := (-2 : Int32)) F.1 F.2.1 (dd D_X8_moon 4 rfl) kb_m2 ?_
    obtain ⟨r15, e16, h⟩ := Option.bind_eq_some_iff.mp h
    refine rwe_all (st' := [.int r15.1]) hD hS hA (rV (rest := []) F (c_X8_refuse D cA ax s n (-2 : Int32) r15 e16 l H.size) lk_X8_64 (Nat.le_of_ble_eq_true rfl) (preRW hK hS hAb hP hD) (rcv_8 hK hP (q0 := (0)) (xp_0 cA ax s)) rfl hl rfl (Nat.le_of_ble_eq_true rfl) (dd D_X8_moon 5 rfl) ⟨Nat.le_of_ble_eq_true rfl, Nat.le_of_ble_eq_true rfl⟩) rfl (fun H locs hP hD hS => ?_)
    obtain rfl := Option.some.inj h
    exact rw_i (R := rmOf 4 0 0) F hP hD hS hr hlk ⟨Nat.le_of_ble_eq_true rfl, Nat.le_of_ble_eq_true rfl⟩ ⟨rfl, rfl⟩ (dd D_X8_moon 6 rfl)
