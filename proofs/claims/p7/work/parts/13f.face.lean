def F_X8_told (n : Nat) (s : XS) (p1 : Int32) (p2 : Int32) : Option (Int32 × XS) := bf (F_X8_isDay p1) (bf (F_X8_isIn p2 (0 : Int32) (2952 : Int32)) (some ((F_J9_floorMod_7cf53 (p2 - ((100 : Int32) * p1)) (2953 : Int32)), (x_set_now s (st_set_off (x_now s) (F_J9_floorMod_7cf53 (p2 - ((100 : Int32) * p1)) (2953 : Int32)))))) ((((F_X8_refuse n s (-2 : Int32))).bind fun r3 => some (r3.1, r3.2)))) ((((F_X8_refuse n s (-2 : Int32))).bind fun r1 => some (r1.1, r1.2)))
set_option maxHeartbeats 4000000 in
set_option maxRecDepth 100000 in
theorem c_X8_told (D : va_G) (cA : Nat → ClassId) (ax : Nat → Nat) (s : XS) (n : Nat) (p1 : Int32) (p2 : Int32) (r : (Int32 × XS)) (h : F_X8_told n s p1 p2 = some r) : RW m_X8_told 2 0 0 D cA [.ref (ax 0), .int p1, .int p2] (xW cA ax s) (exq (some (.int r.1)) (xW cA ax r.2)) := by
  refine RW.ofW gy_X8_told.2.2 (Nat.le_of_ble_eq_true rfl) ?_
  intro l p e sM m below meth c A H locs F hr hlk hnm hK hP hD hS hA hAb ls hl
  have hl : lv_has ls 4 [(0, .ref (ax 0)), (1, .int p1), (2, .int p2)] := hl
  unfold F_X8_told at h
  refine lv_iload_n F.1 F.2.1 (dd D_X8_told 0 rfl) rfl (lv_at hl 1 rfl) ?_
  refine ro_go (st' := [.int (bI (F_X8_isDay p1))]) (rS (rest := []) F (c_X8_isDay D cA p1 l) lk_X8_113 (Nat.le_of_ble_eq_true rfl) (preRO hK hS hAb (emP)) rfl hl rfl (Nat.le_of_ble_eq_true rfl) (dd D_X8_told 1 rfl) ⟨Nat.le_of_ble_eq_true rfl, Nat.le_of_ble_eq_true rfl⟩) rfl ?_
  refine x_bif_eq (tgt := 18) F.1 F.2.1 (dd D_X8_told 2 rfl) rfl h (fun c6 h => ?_) (fun c6 h => ?_)
  · refine lv_aload_n F.1 F.2.1 (dd D_X8_told 8 rfl) rfl (lv_at hl 0 rfl) ?_
    refine lv_bipush (v := (-2 : Int32)) F.1 F.2.1 (dd D_X8_told 9 rfl) kb_m2 ?_
    obtain ⟨r1, e2, h⟩ := Option.bind_eq_some_iff.mp h
    refine rwe_all (st' := [.int r1.1]) hD hS hA (rV (rest := []) F (c_X8_refuse D cA ax s n (-2 : Int32) r1 e2 l H.size) lk_X8_64 (Nat.le_of_ble_eq_true rfl) (preRW hK hS hAb hP hD) (rcv_8 hK hP (q0 := (0)) (xp_0 cA ax s)) rfl hl rfl (Nat.le_of_ble_eq_true rfl) (dd D_X8_told 10 rfl) ⟨Nat.le_of_ble_eq_true rfl, Nat.le_of_ble_eq_true rfl⟩) rfl (fun H locs hP hD hS => ?_)
    obtain rfl := Option.some.inj h
    exact rw_i (R := rmOf 2 0 0) F hP hD hS hr hlk ⟨Nat.le_of_ble_eq_true rfl, Nat.le_of_ble_eq_true rfl⟩ ⟨rfl, rfl⟩ (dd D_X8_told 11 rfl)
  · refine lv_iload_n F.1 F.2.1 (dd D_X8_told 3 rfl) rfl (lv_at hl 2 rfl) ?_
    refine lv_iconst (v := (0 : Int32)) F.1 F.2.1 (dd D_X8_told 4 rfl) ki_0 ?_
    refine lv_sipush (v := (2952 : Int32)) F.1 F.2.1 (dd D_X8_told 5 rfl) ks_2952 ?_
    refine ro_go (st' := [.int (bI (F_X8_isIn p2 (0 : Int32) (2952 : Int32)))]) (rS (rest := []) F (c_X8_isIn D cA p2 (0 : Int32) (2952 : Int32) l) lk_X8_60 (Nat.le_of_ble_eq_true rfl) (preRO hK hS hAb (emP)) rfl hl rfl (Nat.le_of_ble_eq_true rfl) (dd D_X8_told 6 rfl) ⟨Nat.le_of_ble_eq_true rfl, Nat.le_of_ble_eq_true rfl⟩) rfl ?_
    refine x_bif_ne (tgt := 25) F.1 F.2.1 (dd D_X8_told 7 rfl) rfl h (fun c5 h => ?_) (fun c5 h => ?_)
    · refine lv_iload_n F.1 F.2.1 (dd D_X8_told 12 rfl) rfl (lv_at hl 2 rfl) ?_
      refine lv_bipush (v := (100 : Int32)) F.1 F.2.1 (dd D_X8_told 13 rfl) kb_100 ?_
      refine lv_iload_n F.1 F.2.1 (dd D_X8_told 14 rfl) rfl (lv_at hl 1 rfl) ?_
      refine lv_imul F.1 F.2.1 (dd D_X8_told 15 rfl) ?_
      refine lv_isub F.1 F.2.1 (dd D_X8_told 16 rfl) ?_
      refine lv_sipush (v := (2953 : Int32)) F.1 F.2.1 (dd D_X8_told 17 rfl) ks_2953 ?_
      refine ro_go (st' := [.int (F_J9_floorMod_7cf53 (p2 - ((100 : Int32) * p1)) (2953 : Int32))]) (rS (rest := []) F (c_J9_floorMod_7cf53 D cA (p2 - ((100 : Int32) * p1)) (2953 : Int32) kd_2953 l) lk_X8_340 (Nat.le_of_ble_eq_true rfl) (preRO hK hS hAb (emP)) rfl hl rfl (Nat.le_of_ble_eq_true rfl) (dd D_X8_told 18 rfl) ⟨Nat.le_of_ble_eq_true rfl, Nat.le_of_ble_eq_true rfl⟩) rfl ?_
      refine lv_istore_n (lv' := [(3, .int (F_J9_floorMod_7cf53 (p2 - ((100 : Int32) * p1)) (2953 : Int32))), (0, .ref (ax 0)), (1, .int p1), (2, .int p2)]) F.1 F.2.1 (dd D_X8_told 19 rfl) rfl hl (Nat.le_of_ble_eq_true rfl) rfl (fun ls hl => ?_)
      refine lv_aload_n F.1 F.2.1 (dd D_X8_told 20 rfl) rfl (lv_at hl 1 rfl) ?_
      refine getF F hK hP lf_X8_10 (0) (xp_0 cA ax s) rfl (dd D_X8_told 21 rfl) ?_
      refine lv_iload_n F.1 F.2.1 (dd D_X8_told 22 rfl) rfl (lv_at hl 0 rfl) ?_
      refine putF F hK hP hD hS lp_X8_343 (1) (xp_1 cA ax s) (Nat.le_of_ble_eq_true rfl) (nar_int _) (fit_int _) (ws' := (xW cA ax (x_set_now s (st_set_off (x_now s) (F_J9_floorMod_7cf53 (p2 - ((100 : Int32) * p1)) (2953 : Int32)))))) (xs_1_0 cA ax s (F_J9_floorMod_7cf53 (p2 - ((100 : Int32) * p1)) (2953 : Int32))) (dd D_X8_told 23 rfl) (fun H locs hP hD hS => ?_)
      refine lv_iload_n F.1 F.2.1 (dd D_X8_told 24 rfl) rfl (lv_at hl 0 rfl) ?_
      obtain rfl := Option.some.inj h
      exact rw_i (R := rmOf 2 0 0) F hP hD hS hr hlk ⟨Nat.le_of_ble_eq_true rfl, Nat.le_of_ble_eq_true rfl⟩ ⟨rfl, rfl⟩ (dd D_X8_told 25 rfl)
    · refine lv_aload_n F.1 F.2.1 (dd D_X8_told 8 rfl) rfl (lv_at hl 0 rfl) ?_
      refine lv_bipush (v := (-2 : Int32)) F.1 F.2.1 (dd D_X8_told 9 rfl) kb_m2 ?_
      obtain ⟨r3, e4, h⟩ := Option.bind_eq_some_iff.mp h
      refine rwe_all (st' := [.int r3.1]) hD hS hA (rV (rest := []) F (c_X8_refuse D cA ax s n (-2 : Int32) r3 e4 l H.size) lk_X8_64 (Nat.le_of_ble_eq_true rfl) (preRW hK hS hAb hP hD) (rcv_8 hK hP (q0 := (0)) (xp_0 cA ax s)) rfl hl rfl (Nat.le_of_ble_eq_true rfl) (dd D_X8_told 10 rfl) ⟨Nat.le_of_ble_eq_true rfl, Nat.le_of_ble_eq_true rfl⟩) rfl (fun H locs hP hD hS => ?_)
      obtain rfl := Option.some.inj h
      exact rw_i (R := rmOf 2 0 0) F hP hD hS hr hlk ⟨Nat.le_of_ble_eq_true rfl, Nat.le_of_ble_eq_true rfl⟩ ⟨rfl, rfl⟩ (dd D_X8_told 11 rfl)
def F_X8_letEveningPass (n : Nat) (s : XS) : Option (Bool × XS) := (((F_X6_draw n (x_now s) (10 : Int32))).bind fun r1 => (if r1.1 < (st_cloud (x_now (x_set_now s r1.2))) then (if (0 : Int32) = 0 then some (false, (x_set_now (x_set_now s r1.2) (st_set_today (x_now (x_set_now s r1.2)) ((st_today (x_now (x_set_now s r1.2))) + (1 : Int32))))) else (((F_X2_shinesOf n (x_set_now s r1.2) (st_today (x_now (x_set_now s r1.2))) (1080 : Int32) (1439 : Int32))).bind fun r5 => (if r5 ≤ 0 then some (false, (x_set_now (x_set_now s r1.2) (st_set_today (x_now (x_set_now s r1.2)) ((st_today (x_now (x_set_now s r1.2))) + (1 : Int32))))) else some (false, (x_set_now (x_set_now (x_set_now s r1.2) (st_set_looks (x_now (x_set_now s r1.2)) ((st_looks (x_now (x_set_now s r1.2))) + (1 : Int32)))) (st_set_today (x_now (x_set_now (x_set_now s r1.2) (st_set_looks (x_now (x_set_now s r1.2)) ((st_looks (x_now (x_set_now s r1.2))) + (1 : Int32))))) ((st_today (x_now (x_set_now (x_set_now s r1.2) (st_set_looks (x_now (x_set_now s r1.2)) ((st_looks (x_now (x_set_now s r1.2))) + (1 : Int32)))))) + (1 : Int32)))))))) else (if (1 : Int32) = 0 then some (true, (x_set_now (x_set_now s r1.2) (st_set_today (x_now (x_set_now s r1.2)) ((st_today (x_now (x_set_now s r1.2))) + (1 : Int32))))) else (((F_X2_shinesOf n (x_set_now s r1.2) (st_today (x_now (x_set_now s r1.2))) (1080 : Int32) (1439 : Int32))).bind fun r9 => (if r9 ≤ 0 then some (true, (x_set_now (x_set_now s r1.2) (st_set_today (x_now (x_set_now s r1.2)) ((st_today (x_now (x_set_now s r1.2))) + (1 : Int32))))) else some (true, (x_set_now (x_set_now (x_set_now s r1.2) (st_set_looks (x_now (x_set_now s r1.2)) ((st_looks (x_now (x_set_now s r1.2))) + (1 : Int32)))) (st_set_today (x_now (x_set_now (x_set_now s r1.2) (st_set_looks (x_now (x_set_now s r1.2)) ((st_looks (x_now (x_set_now s r1.2))) + (1 : Int32))))) ((st_today (x_now (x_set_now (x_set_now s r1.2) (st_set_looks (x_now (x_set_now s r1.2)) ((st_looks (x_now (x_set_now s r1.2))) + (1 : Int32)))))) + (1 : Int32))))))))))
set_option maxHeartbeats 4000000 in
set_option maxRecDepth 100000 in
theorem c_X8_letEveningPass (D : va_G) (cA : Nat → ClassId) (ax : Nat → Nat) (s : XS) (n : Nat)  (r : (Bool × XS)) (h : F_X8_letEveningPass n s = some r) : RW m_X8_letEveningPass 4 0 0 D cA [.ref (ax 0)] (xW cA ax s) (exq (some (.int (bI r.1))) (xW cA ax r.2)) := by
  refine RW.ofW gy_X8_letEveningPass.2.2 (Nat.le_of_ble_eq_true rfl) ?_
  intro l p e sM m below meth c A H locs F hr hlk hnm hK hP hD hS hA hAb ls hl
  have hl : lv_has ls 2 [(0, .ref (ax 0))] := hl
  unfold F_X8_letEveningPass at h
  refine lv_aload_n F.1 F.2.1 (dd D_X8_letEveningPass 0 rfl) rfl (lv_at hl 0 rfl) ?_
  refine getF F hK hP lf_X8_10 (0) (xp_0 cA ax s) rfl (dd D_X8_letEveningPass 1 rfl) ?_
  refine lv_bipush (v := (10 : Int32)) F.1 F.2.1 (dd D_X8_letEveningPass 2 rfl) kb_10 ?_
  obtain ⟨r1, e2, h⟩ := Option.bind_eq_some_iff.mp h
  refine rwe (V := some (.int r1.1)) (wc := (stateW cA (fun i => ax (1+i)) (x_now s))) (wc' := (stateW cA (fun i => ax (1+i)) r1.2)) (st' := [.int r1.1]) (W' := (xW cA ax (x_set_now s r1.2))) hP hD hS hA [1, 2, 3, 4, 5, 6, 7, 8, 9, 10, 11, 12, 13] (jc_x_1 cA ax s) (Nat_nd rfl) rfl (rV (rest := []) F (c_X6_draw D cA (fun i => ax (1+i)) (x_now s) n (10 : Int32) r1 e2 l H.size) lk_X8_377 (Nat.le_of_ble_eq_true rfl) (preRW hK hS hAb (selP (is := [1, 2, 3, 4, 5, 6, 7, 8, 9, 10, 11, 12, 13]) hP (jc_x_1 cA ax s)) (selD (is := [1, 2, 3, 4, 5, 6, 7, 8, 9, 10, 11, 12, 13]) hD (Nat_nd rfl) (jc_x_1 cA ax s))) (rcv_6 hK hP (q0 := (1)) (xp_1 cA ax s)) rfl hl rfl (Nat.le_of_ble_eq_true rfl) (dd D_X8_letEveningPass 3 rfl) ⟨Nat.le_of_ble_eq_true rfl, Nat.le_of_ble_eq_true rfl⟩) (js_x_1 cA ax s r1.2) rfl (fun H locs hP hD hS => ?_)
  refine lv_aload_n F.1 F.2.1 (dd D_X8_letEveningPass 4 rfl) rfl (lv_at hl 0 rfl) ?_
  refine getF F hK hP lf_X8_10 (0) (xp_0 cA ax (x_set_now s r1.2)) rfl (dd D_X8_letEveningPass 5 rfl) ?_
  refine getF F hK hP lf_X8_380 (1) (xp_1 cA ax (x_set_now s r1.2)) rfl (dd D_X8_letEveningPass 6 rfl) ?_
  refine x_icmp_lt (tgt := 23) F.1 F.2.1 (dd D_X8_letEveningPass 7 rfl) rfl h (fun c3 h => ?_) (fun c3 h => ?_)
  · refine lv_iconst (v := (0 : Int32)) F.1 F.2.1 (dd D_X8_letEveningPass 10 rfl) ki_0 ?_
    refine lv_istore_n (lv' := [(1, .int (0 : Int32)), (0, .ref (ax 0))]) F.1 F.2.1 (dd D_X8_letEveningPass 11 rfl) rfl hl (Nat.le_of_ble_eq_true rfl) rfl (fun ls hl => ?_)
    refine lv_iload_n F.1 F.2.1 (dd D_X8_letEveningPass 12 rfl) rfl (lv_at hl 0 rfl) ?_
    refine x_if_eq (tgt := 65) F.1 F.2.1 (dd D_X8_letEveningPass 13 rfl) rfl h (fun c4 h => ?_) (fun c4 h => ?_)
    · refine lv_aload_n F.1 F.2.1 (dd D_X8_letEveningPass 30 rfl) rfl (lv_at hl 1 rfl) ?_
      refine getF F hK hP lf_X8_10 (0) (xp_0 cA ax (x_set_now s r1.2)) rfl (dd D_X8_letEveningPass 31 rfl) ?_
      refine lv_dup F.1 F.2.1 (dd D_X8_letEveningPass 32 rfl) rfl ?_
      refine getF F hK hP lf_X8_347 (1) (xp_1 cA ax (x_set_now s r1.2)) rfl (dd D_X8_letEveningPass 33 rfl) ?_
      refine lv_iconst (v := (1 : Int32)) F.1 F.2.1 (dd D_X8_letEveningPass 34 rfl) ki_1 ?_
      refine lv_iadd F.1 F.2.1 (dd D_X8_letEveningPass 35 rfl) ?_
      refine putF F hK hP hD hS lp_X8_347 (1) (xp_1 cA ax (x_set_now s r1.2)) (Nat.le_of_ble_eq_true rfl) (nar_int _) (fit_int _) (ws' := (xW cA ax (x_set_now (x_set_now s r1.2) (st_set_today (x_now (x_set_now s r1.2)) ((st_today (x_now (x_set_now s r1.2))) + (1 : Int32)))))) (xs_1_7 cA ax (x_set_now s r1.2) ((st_today (x_now (x_set_now s r1.2))) + (1 : Int32))) (dd D_X8_letEveningPass 36 rfl) (fun H locs hP hD hS => ?_)
      refine lv_iload_n F.1 F.2.1 (dd D_X8_letEveningPass 37 rfl) rfl (lv_at hl 0 rfl) ?_
      obtain rfl := Option.some.inj h
      exact rw_z (R := rmOf 4 0 0) F hP hD hS hr rfl hlk ⟨Nat.le_of_ble_eq_true rfl, Nat.le_of_ble_eq_true rfl⟩ ⟨rfl, rfl⟩ (dd D_X8_letEveningPass 38 rfl)
    · refine lv_aload_n F.1 F.2.1 (dd D_X8_letEveningPass 14 rfl) rfl (lv_at hl 1 rfl) ?_
      refine getF F hK hP lf_X8_27 (0) (xp_0 cA ax (x_set_now s r1.2)) rfl (dd D_X8_letEveningPass 15 rfl) ?_
      refine lv_aload_n F.1 F.2.1 (dd D_X8_letEveningPass 16 rfl) rfl (lv_at hl 1 rfl) ?_
      refine getF F hK hP lf_X8_10 (0) (xp_0 cA ax (x_set_now s r1.2)) rfl (dd D_X8_letEveningPass 17 rfl) ?_
      refine getF F hK hP lf_X8_347 (1) (xp_1 cA ax (x_set_now s r1.2)) rfl (dd D_X8_letEveningPass 18 rfl) ?_
      refine lv_sipush (v := (1080 : Int32)) F.1 F.2.1 (dd D_X8_letEveningPass 19 rfl) ks_1080 ?_
      refine lv_sipush (v := (1439 : Int32)) F.1 F.2.1 (dd D_X8_letEveningPass 20 rfl) ks_1439 ?_
      obtain ⟨r5, e6, h⟩ := Option.bind_eq_some_iff.mp h
      refine ro_go (st' := [.int r5]) (rV (rest := []) F (c_X2_shinesOf D cA ax (x_set_now s r1.2) n (st_today (x_now (x_set_now s r1.2))) (1080 : Int32) (1439 : Int32) r5 e6 l) lk_X8_249 (Nat.le_of_ble_eq_true rfl) (preRO hK hS hAb hP) (rcv_2 hK hP (q0 := (40)) (xp_40 cA ax (x_set_now s r1.2))) rfl hl rfl (Nat.le_of_ble_eq_true rfl) (dd D_X8_letEveningPass 21 rfl) ⟨Nat.le_of_ble_eq_true rfl, Nat.le_of_ble_eq_true rfl⟩) rfl ?_
      refine x_if_le (tgt := 65) F.1 F.2.1 (dd D_X8_letEveningPass 22 rfl) rfl h (fun c7 h => ?_) (fun c7 h => ?_)
      · refine lv_aload_n F.1 F.2.1 (dd D_X8_letEveningPass 30 rfl) rfl (lv_at hl 1 rfl) ?_
        refine getF F hK hP lf_X8_10 (0) (xp_0 cA ax (x_set_now s r1.2)) rfl (dd D_X8_letEveningPass 31 rfl) ?_
        refine lv_dup F.1 F.2.1 (dd D_X8_letEveningPass 32 rfl) rfl ?_
        refine getF F hK hP lf_X8_347 (1) (xp_1 cA ax (x_set_now s r1.2)) rfl (dd D_X8_letEveningPass 33 rfl) ?_
        refine lv_iconst (v := (1 : Int32)) F.1 F.2.1 (dd D_X8_letEveningPass 34 rfl) ki_1 ?_
        refine lv_iadd F.1 F.2.1 (dd D_X8_letEveningPass 35 rfl) ?_
        refine putF F hK hP hD hS lp_X8_347 (1) (xp_1 cA ax (x_set_now s r1.2)) (Nat.le_of_ble_eq_true rfl) (nar_int _) (fit_int _) (ws' := (xW cA ax (x_set_now (x_set_now s r1.2) (st_set_today (x_now (x_set_now s r1.2)) ((st_today (x_now (x_set_now s r1.2))) + (1 : Int32)))))) (xs_1_7 cA ax (x_set_now s r1.2) ((st_today (x_now (x_set_now s r1.2))) + (1 : Int32))) (dd D_X8_letEveningPass 36 rfl) (fun H locs hP hD hS => ?_)
        refine lv_iload_n F.1 F.2.1 (dd D_X8_letEveningPass 37 rfl) rfl (lv_at hl 0 rfl) ?_
        obtain rfl := Option.some.inj h
        exact rw_z (R := rmOf 4 0 0) F hP hD hS hr rfl hlk ⟨Nat.le_of_ble_eq_true rfl, Nat.le_of_ble_eq_true rfl⟩ ⟨rfl, rfl⟩ (dd D_X8_letEveningPass 38 rfl)
      · refine lv_aload_n F.1 F.2.1 (dd D_X8_letEveningPass 23 rfl) rfl (lv_at hl 1 rfl) ?_
        refine getF F hK hP lf_X8_10 (0) (xp_0 cA ax (x_set_now s r1.2)) rfl (dd D_X8_letEveningPass 24 rfl) ?_
        refine lv_dup F.1 F.2.1 (dd D_X8_letEveningPass 25 rfl) rfl ?_
        refine getF F hK hP lf_X8_353 (1) (xp_1 cA ax (x_set_now s r1.2)) rfl (dd D_X8_letEveningPass 26 rfl) ?_
        refine lv_iconst (v := (1 : Int32)) F.1 F.2.1 (dd D_X8_letEveningPass 27 rfl) ki_1 ?_
        refine lv_iadd F.1 F.2.1 (dd D_X8_letEveningPass 28 rfl) ?_
        refine putF F hK hP hD hS lp_X8_353 (1) (xp_1 cA ax (x_set_now s r1.2)) (Nat.le_of_ble_eq_true rfl) (nar_int _) (fit_int _) (ws' := (xW cA ax (x_set_now (x_set_now s r1.2) (st_set_looks (x_now (x_set_now s r1.2)) ((st_looks (x_now (x_set_now s r1.2))) + (1 : Int32)))))) (xs_1_8 cA ax (x_set_now s r1.2) ((st_looks (x_now (x_set_now s r1.2))) + (1 : Int32))) (dd D_X8_letEveningPass 29 rfl) (fun H locs hP hD hS => ?_)
        refine lv_aload_n F.1 F.2.1 (dd D_X8_letEveningPass 30 rfl) rfl (lv_at hl 1 rfl) ?_
        refine getF F hK hP lf_X8_10 (0) (xp_0 cA ax (x_set_now (x_set_now s r1.2) (st_set_looks (x_now (x_set_now s r1.2)) ((st_looks (x_now (x_set_now s r1.2))) + (1 : Int32))))) rfl (dd D_X8_letEveningPass 31 rfl) ?_
        refine lv_dup F.1 F.2.1 (dd D_X8_letEveningPass 32 rfl) rfl ?_
        refine getF F hK hP lf_X8_347 (1) (xp_1 cA ax (x_set_now (x_set_now s r1.2) (st_set_looks (x_now (x_set_now s r1.2)) ((st_looks (x_now (x_set_now s r1.2))) + (1 : Int32))))) rfl (dd D_X8_letEveningPass 33 rfl) ?_
        refine lv_iconst (v := (1 : Int32)) F.1 F.2.1 (dd D_X8_letEveningPass 34 rfl) ki_1 ?_
        refine lv_iadd F.1 F.2.1 (dd D_X8_letEveningPass 35 rfl) ?_
        refine putF F hK hP hD hS lp_X8_347 (1) (xp_1 cA ax (x_set_now (x_set_now s r1.2) (st_set_looks (x_now (x_set_now s r1.2)) ((st_looks (x_now (x_set_now s r1.2))) + (1 : Int32))))) (Nat.le_of_ble_eq_true rfl) (nar_int _) (fit_int _) (ws' := (xW cA ax (x_set_now (x_set_now (x_set_now s r1.2) (st_set_looks (x_now (x_set_now s r1.2)) ((st_looks (x_now (x_set_now s r1.2))) + (1 : Int32)))) (st_set_today (x_now (x_set_now (x_set_now s r1.2) (st_set_looks (x_now (x_set_now s r1.2)) ((st_looks (x_now (x_set_now s r1.2))) + (1 : Int32))))) ((st_today (x_now (x_set_now (x_set_now s r1.2) (st_set_looks (x_now (x_set_now s r1.2)) ((st_looks (x_now (x_set_now s r1.2))) + (1 : Int32)))))) + (1 : Int32)))))) (xs_1_7 cA ax (x_set_now (x_set_now s r1.2) (st_set_looks (x_now (x_set_now s r1.2)) ((st_looks (x_now (x_set_now s r1.2))) + (1 : Int32)))) ((st_today (x_now (x_set_now (x_set_now s r1.2) (st_set_looks (x_now (x_set_now s r1.2)) ((st_looks (x_now (x_set_now s r1.2))) + (1 : Int32)))))) + (1 : Int32))) (dd D_X8_letEveningPass 36 rfl) (fun H locs hP hD hS => ?_)
        refine lv_iload_n F.1 F.2.1 (dd D_X8_letEveningPass 37 rfl) rfl (lv_at hl 0 rfl) ?_
        obtain rfl := Option.some.inj h
        exact rw_z (R := rmOf 4 0 0) F hP hD hS hr rfl hlk ⟨Nat.le_of_ble_eq_true rfl, Nat.le_of_ble_eq_true rfl⟩ ⟨rfl, rfl⟩ (dd D_X8_letEveningPass 38 rfl)
  · refine lv_iconst (v := (1 : Int32)) F.1 F.2.1 (dd D_X8_letEveningPass 8 rfl) ki_1 ?_
    refine lv_goto (tgt := 24) F.1 F.2.1 (dd D_X8_letEveningPass 9 rfl) rfl ?_
    refine lv_istore_n (lv' := [(1, .int (1 : Int32)), (0, .ref (ax 0))]) F.1 F.2.1 (dd D_X8_letEveningPass 11 rfl) rfl hl (Nat.le_of_ble_eq_true rfl) rfl (fun ls hl => ?_)
    refine lv_iload_n F.1 F.2.1 (dd D_X8_letEveningPass 12 rfl) rfl (lv_at hl 0 rfl) ?_
    refine x_if_eq (tgt := 65) F.1 F.2.1 (dd D_X8_letEveningPass 13 rfl) rfl h (fun c8 h => ?_) (fun c8 h => ?_)
    · refine lv_aload_n F.1 F.2.1 (dd D_X8_letEveningPass 30 rfl) rfl (lv_at hl 1 rfl) ?_
      refine getF F hK hP lf_X8_10 (0) (xp_0 cA ax (x_set_now s r1.2)) rfl (dd D_X8_letEveningPass 31 rfl) ?_
      refine lv_dup F.1 F.2.1 (dd D_X8_letEveningPass 32 rfl) rfl ?_
      refine getF F hK hP lf_X8_347 (1) (xp_1 cA ax (x_set_now s r1.2)) rfl (dd D_X8_letEveningPass 33 rfl) ?_
      refine lv_iconst (v := (1 : Int32)) F.1 F.2.1 (dd D_X8_letEveningPass 34 rfl) ki_1 ?_
      refine lv_iadd F.1 F.2.1 (dd D_X8_letEveningPass 35 rfl) ?_
      refine putF F hK hP hD hS lp_X8_347 (1) (xp_1 cA ax (x_set_now s r1.2)) (Nat.le_of_ble_eq_true rfl) (nar_int _) (fit_int _) (ws' := (xW cA ax (x_set_now (x_set_now s r1.2) (st_set_today (x_now (x_set_now s r1.2)) ((st_today (x_now (x_set_now s r1.2))) + (1 : Int32)))))) (xs_1_7 cA ax (x_set_now s r1.2) ((st_today (x_now (x_set_now s r1.2))) + (1 : Int32))) (dd D_X8_letEveningPass 36 rfl) (fun H locs hP hD hS => ?_)
      refine lv_iload_n F.1 F.2.1 (dd D_X8_letEveningPass 37 rfl) rfl (lv_at hl 0 rfl) ?_
      obtain rfl := Option.some.inj h
      exact rw_z (R := rmOf 4 0 0) F hP hD hS hr rfl hlk ⟨Nat.le_of_ble_eq_true rfl, Nat.le_of_ble_eq_true rfl⟩ ⟨rfl, rfl⟩ (dd D_X8_letEveningPass 38 rfl)
    · refine lv_aload_n F.1 F.2.1 (dd D_X8_letEveningPass 14 rfl) rfl (lv_at hl 1 rfl) ?_
      refine getF F hK hP lf_X8_27 (0) (xp_0 cA ax (x_set_now s r1.2)) rfl (dd D_X8_letEveningPass 15 rfl) ?_
      refine lv_aload_n F.1 F.2.1 (dd D_X8_letEveningPass 16 rfl) rfl (lv_at hl 1 rfl) ?_
      refine getF F hK hP lf_X8_10 (0) (xp_0 cA ax (x_set_now s r1.2)) rfl (dd D_X8_letEveningPass 17 rfl) ?_
      refine getF F hK hP lf_X8_347 (1) (xp_1 cA ax (x_set_now s r1.2)) rfl (dd D_X8_letEveningPass 18 rfl) ?_
      refine lv_sipush (v := (1080 : Int32)) F.1 F.2.1 (dd D_X8_letEveningPass 19 rfl) ks_1080 ?_
      refine lv_sipush (v := (1439 : Int32)) F.1 F.2.1 (dd D_X8_letEveningPass 20 rfl) ks_1439 ?_
      obtain ⟨r9, e10, h⟩ := Option.bind_eq_some_iff.mp h
      refine ro_go (st' := [.int r9]) (rV (rest := []) F (c_X2_shinesOf D cA ax (x_set_now s r1.2) n (st_today (x_now (x_set_now s r1.2))) (1080 : Int32) (1439 : Int32) r9 e10 l) lk_X8_249 (Nat.le_of_ble_eq_true rfl) (preRO hK hS hAb hP) (rcv_2 hK hP (q0 := (40)) (xp_40 cA ax (x_set_now s r1.2))) rfl hl rfl (Nat.le_of_ble_eq_true rfl) (dd D_X8_letEveningPass 21 rfl) ⟨Nat.le_of_ble_eq_true rfl, Nat.le_of_ble_eq_true rfl⟩) rfl ?_
      refine x_if_le (tgt := 65) F.1 F.2.1 (dd D_X8_letEveningPass 22 rfl) rfl h (fun c11 h => ?_) (fun c11 h => ?_)
      · refine lv_aload_n F.1 F.2.1 (dd D_X8_letEveningPass 30 rfl) rfl (lv_at hl 1 rfl) ?_
        refine getF F hK hP lf_X8_10 (0) (xp_0 cA ax (x_set_now s r1.2)) rfl (dd D_X8_letEveningPass 31 rfl) ?_
        refine lv_dup F.1 F.2.1 (dd D_X8_letEveningPass 32 rfl) rfl ?_
        refine getF F hK hP lf_X8_347 (1) (xp_1 cA ax (x_set_now s r1.2)) rfl (dd D_X8_letEveningPass 33 rfl) ?_
        refine lv_iconst (v := (1 : Int32)) F.1 F.2.1 (dd D_X8_letEveningPass 34 rfl) ki_1 ?_
        refine lv_iadd F.1 F.2.1 (dd D_X8_letEveningPass 35 rfl) ?_
        refine putF F hK hP hD hS lp_X8_347 (1) (xp_1 cA ax (x_set_now s r1.2)) (Nat.le_of_ble_eq_true rfl) (nar_int _) (fit_int _) (ws' := (xW cA ax (x_set_now (x_set_now s r1.2) (st_set_today (x_now (x_set_now s r1.2)) ((st_today (x_now (x_set_now s r1.2))) + (1 : Int32)))))) (xs_1_7 cA ax (x_set_now s r1.2) ((st_today (x_now (x_set_now s r1.2))) + (1 : Int32))) (dd D_X8_letEveningPass 36 rfl) (fun H locs hP hD hS => ?_)
        refine lv_iload_n F.1 F.2.1 (dd D_X8_letEveningPass 37 rfl) rfl (lv_at hl 0 rfl) ?_
        obtain rfl := Option.some.inj h
        exact rw_z (R := rmOf 4 0 0) F hP hD hS hr rfl hlk ⟨Nat.le_of_ble_eq_true rfl, Nat.le_of_ble_eq_true rfl⟩ ⟨rfl, rfl⟩ (dd D_X8_letEveningPass 38 rfl)
      · refine lv_aload_n F.1 F.2.1 (dd D_X8_letEveningPass 23 rfl) rfl (lv_at hl 1 rfl) ?_
        refine getF F hK hP lf_X8_10 (0) (xp_0 cA ax (x_set_now s r1.2)) rfl (dd D_X8_letEveningPass 24 rfl) ?_
        refine lv_dup F.1 F.2.1 (dd D_X8_letEveningPass 25 rfl) rfl ?_
        refine getF F hK hP lf_X8_353 (1) (xp_1 cA ax (x_set_now s r1.2)) rfl (dd D_X8_letEveningPass 26 rfl) ?_
        refine lv_iconst (v := (1 : Int32)) F.1 F.2.1 (dd D_X8_letEveningPass 27 rfl) ki_1 ?_
        refine lv_iadd F.1 F.2.1 (dd D_X8_letEveningPass 28 rfl) ?_
        refine putF F hK hP hD hS lp_X8_353 (1) (xp_1 cA ax (x_set_now s r1.2)) (Nat.le_of_ble_eq_true rfl) (nar_int _) (fit_int _) (ws' := (xW cA ax (x_set_now (x_set_now s r1.2) (st_set_looks (x_now (x_set_now s r1.2)) ((st_looks (x_now (x_set_now s r1.2))) + (1 : Int32)))))) (xs_1_8 cA ax (x_set_now s r1.2) ((st_looks (x_now (x_set_now s r1.2))) + (1 : Int32))) (dd D_X8_letEveningPass 29 rfl) (fun H locs hP hD hS => ?_)
        refine lv_aload_n F.1 F.2.1 (dd D_X8_letEveningPass 30 rfl) rfl (lv_at hl 1 rfl) ?_
        refine getF F hK hP lf_X8_10 (0) (xp_0 cA ax (x_set_now (x_set_now s r1.2) (st_set_looks (x_now (x_set_now s r1.2)) ((st_looks (x_now (x_set_now s r1.2))) + (1 : Int32))))) rfl (dd D_X8_letEveningPass 31 rfl) ?_
        refine lv_dup F.1 F.2.1 (dd D_X8_letEveningPass 32 rfl) rfl ?_
        refine getF F hK hP lf_X8_347 (1) (xp_1 cA ax (x_set_now (x_set_now s r1.2) (st_set_looks (x_now (x_set_now s r1.2)) ((st_looks (x_now (x_set_now s r1.2))) + (1 : Int32))))) rfl (dd D_X8_letEveningPass 33 rfl) ?_
        refine lv_iconst (v := (1 : Int32)) F.1 F.2.1 (dd D_X8_letEveningPass 34 rfl) ki_1 ?_
        refine lv_iadd F.1 F.2.1 (dd D_X8_letEveningPass 35 rfl) ?_
        refine putF F hK hP hD hS lp_X8_347 (1) (xp_1 cA ax (x_set_now (x_set_now s r1.2) (st_set_looks (x_now (x_set_now s r1.2)) ((st_looks (x_now (x_set_now s r1.2))) + (1 : Int32))))) (Nat.le_of_ble_eq_true rfl) (nar_int _) (fit_int _) (ws' := (xW cA ax (x_set_now (x_set_now (x_set_now s r1.2) (st_set_looks (x_now (x_set_now s r1.2)) ((st_looks (x_now (x_set_now s r1.2))) + (1 : Int32)))) (st_set_today (x_now (x_set_now (x_set_now s r1.2) (st_set_looks (x_now (x_set_now s r1.2)) ((st_looks (x_now (x_set_now s r1.2))) + (1 : Int32))))) ((st_today (x_now (x_set_now (x_set_now s r1.2) (st_set_looks (x_now (x_set_now s r1.2)) ((st_looks (x_now (x_set_now s r1.2))) + (1 : Int32)))))) + (1 : Int32)))))) (xs_1_7 cA ax (x_set_now (x_set_now s r1.2) (st_set_looks (x_now (x_set_now s r1.2)) ((st_looks (x_now (x_set_now s r1.2))) + (1 : Int32)))) ((st_today (x_now (x_set_now (x_set_now s r1.2) (st_set_looks (x_now (x_set_now s r1.2)) ((st_looks (x_now (x_set_now s r1.2))) + (1 : Int32)))))) + (1 : Int32))) (dd D_X8_letEveningPass 36 rfl) (fun H locs hP hD hS => ?_)
        refine lv_iload_n F.1 F.2.1 (dd D_X8_letEveningPass 37 rfl) rfl (lv_at hl 0 rfl) ?_
        obtain rfl := Option.some.inj h
        exact rw_z (R := rmOf 4 0 0) F hP hD hS hr rfl hlk ⟨Nat.le_of_ble_eq_true rfl, Nat.le_of_ble_eq_true rfl⟩ ⟨rfl, rfl⟩ (dd D_X8_letEveningPass 38 rfl)
def F_X8_goes (n : Nat) (s : XS) : Option (Int32 × XS) := (if (st_today (x_now s)) < (9999 : Int32) then (((F_X8_letEveningPass n s)).bind fun r2 => bf r2.1 (some ((1 : Int32), r2.2)) (some ((0 : Int32), r2.2))) else (((F_X8_refuse n s (-5 : Int32))).bind fun r5 => some (r5.1, r5.2)))
set_option maxHeartbeats 4000000 in
set_option maxRecDepth 100000 in
theorem c_X8_goes (D : va_G) (cA : Nat → ClassId) (ax : Nat → Nat) (s : XS) (n : Nat)  (r : (Int32 × XS)) (h : F_X8_goes n s = some r) : RW m_X8_goes 5 0 0 D cA [.ref (ax 0)] (xW cA ax s) (exq (some (.int r.1)) (xW cA ax r.2)) := by
  refine RW.ofW gy_X8_goes.2.2 (Nat.le_of_ble_eq_true rfl) ?_
  intro l p e sM m below meth c A H locs F hr hlk hnm hK hP hD hS hA hAb ls hl
  have hl : lv_has ls 1 [(0, .ref (ax 0))] := hl
  unfold F_X8_goes at h
  refine lv_aload_n F.1 F.2.1 (dd D_X8_goes 0 rfl) rfl (lv_at hl 0 rfl) ?_
  refine getF F hK hP lf_X8_10 (0) (xp_0 cA ax s) rfl (dd D_X8_goes 1 rfl) ?_
  refine getF F hK hP lf_X8_347 (1) (xp_1 cA ax s) rfl (dd D_X8_goes 2 rfl) ?_
  refine lv_sipush (v := (9999 : Int32)) F.1 F.2.1 (dd D_X8_goes 3 rfl) ks_9999 ?_
  refine x_icmp_lt (tgt := 20) F.1 F.2.1 (dd D_X8_goes 4 rfl) rfl h (fun c1 h => ?_) (fun c1 h => ?_)
  · refine lv_aload_n F.1 F.2.1 (dd D_X8_goes 9 rfl) rfl (lv_at hl 0 rfl) ?_
    obtain ⟨r2, e3, h⟩ := Option.bind_eq_some_iff.mp h
    refine rwe_all (st' := [.int (bI r2.1)]) hD hS hA (rV (rest := []) F (c_X8_letEveningPass D cA ax s n r2 e3 l H.size) lk_X8_350 (Nat.le_of_ble_eq_true rfl) (preRW hK hS hAb hP hD) (rcv_8 hK hP (q0 := (0)) (xp_0 cA ax s)) rfl hl rfl (Nat.le_of_ble_eq_true rfl) (dd D_X8_goes 10 rfl) ⟨Nat.le_of_ble_eq_true rfl, Nat.le_of_ble_eq_true rfl⟩) rfl (fun H locs hP hD hS => ?_)
    refine x_bif_eq (tgt := 31) F.1 F.2.1 (dd D_X8_goes 11 rfl) rfl h (fun c4 h => ?_) (fun c4 h => ?_)
    · refine lv_iconst (v := (0 : Int32)) F.1 F.2.1 (dd D_X8_goes 14 rfl) ki_0 ?_
      obtain rfl := Option.some.inj h
      exact rw_i (R := rmOf 5 0 0) F hP hD hS hr hlk ⟨Nat.le_of_ble_eq_true rfl, Nat.le_of_ble_eq_true rfl⟩ ⟨rfl, rfl⟩ (dd D_X8_goes 15 rfl)
    · refine lv_iconst (v := (1 : Int32)) F.1 F.2.1 (dd D_X8_goes 12 rfl) ki_1 ?_
      refine lv_goto (tgt := 32) F.1 F.2.1 (dd D_X8_goes 13 rfl) rfl ?_
      obtain rfl := Option.some.inj h
      exact rw_i (R := rmOf 5 0 0) F hP hD hS hr hlk ⟨Nat.le_of_ble_eq_true rfl, Nat.le_of_ble_eq_true rfl⟩ ⟨rfl, rfl⟩ (dd D_X8_goes 15 rfl)
  · refine lv_aload_n F.1 F.2.1 (dd D_X8_goes 5 rfl) rfl (lv_at hl 0 rfl) ?_
    refine lv_bipush (v := (-5 : Int32)) F.1 F.2.1 (dd D_X8_goes 6 rfl) kb_m5 ?_
    obtain ⟨r5, e6, h⟩ := Option.bind_eq_some_iff.mp h
    refine rwe_all (st' := [.int r5.1]) hD hS hA (rV (rest := []) F (c_X8_refuse D cA ax s n (-5 : Int32) r5 e6 l H.size) lk_X8_64 (Nat.le_of_ble_eq_true rfl) (preRW hK hS hAb hP hD) (rcv_8 hK hP (q0 := (0)) (xp_0 cA ax s)) rfl hl rfl (Nat.le_of_ble_eq_true rfl) (dd D_X8_goes 7 rfl) ⟨Nat.le_of_ble_eq_true rfl, Nat.le_of_ble_eq_true rfl⟩) rfl (fun H locs hP hD hS => ?_)
    obtain rfl := Option.some.inj h
    exact rw_i (R := rmOf 5 0 0) F hP hD hS hr hlk ⟨Nat.le_of_ble_eq_true rfl, Nat.le_of_ble_eq_true rfl⟩ ⟨rfl, rfl⟩ (dd D_X8_goes 8 rfl)
def F_X8_looks_L19 (n : Nat) (v1 : Int32) : Nat → Int32 → XS → Option (Int32 × XS)
  | 0, _, _ => none
  | kf + 1, w2, u0 => (if v1 ≤ w2 then some ((st_looks (x_now u0)), u0) else (if (9999 : Int32) ≤ (st_today (x_now u0)) then some ((st_looks (x_now u0)), u0) else (((F_X8_letEveningPass n u0)).bind fun r3 => F_X8_looks_L19 n v1 kf (w2 + (1 : Int32)) r3.2)))
def F_X8_looks (n : Nat) (s : XS) (p1 : Int32) : Option (Int32 × XS) := bf (F_X8_isIn p1 (1 : Int32) (40 : Int32)) (F_X8_looks_L19 n p1 n (0 : Int32) s) ((((F_X8_refuse n s (-2 : Int32))).bind fun r10 => some (r10.1, r10.2)))
set_option maxHeartbeats 4000000 in
set_option maxRecDepth 100000 in
theorem c_X8_looks (D : va_G) (cA : Nat → ClassId) (ax : Nat → Nat) (s : XS) (n : Nat) (p1 : Int32) (r : (Int32 × XS)) (h : F_X8_looks n s p1 = some r) : RW m_X8_looks 5 0 0 D cA [.ref (ax 0), .int p1] (xW cA ax s) (exq (some (.int r.1)) (xW cA ax r.2)) := by
  refine RW.ofW gy_X8_looks.2.2 (Nat.le_of_ble_eq_true rfl) ?_
  intro l p e sM m below meth c A H locs F hr hlk hnm hK hP hD hS hA hAb ls hl
  have hl : lv_has ls 3 [(0, .ref (ax 0)), (1, .int p1)] := hl
  unfold F_X8_looks at h
  refine lv_iload_n F.1 F.2.1 (dd D_X8_looks 0 rfl) rfl (lv_at hl 1 rfl) ?_
  refine lv_iconst (v := (1 : Int32)) F.1 F.2.1 (dd D_X8_looks 1 rfl) ki_1 ?_
  refine lv_bipush (v := (40 : Int32)) F.1 F.2.1 (dd D_X8_looks 2 rfl) kb_40 ?_
  refine ro_go (st' := [.int (bI (F_X8_isIn p1 (1 : Int32) (40 : Int32)))]) (rS (rest := []) F (c_X8_isIn D cA p1 (1 : Int32) (40 : Int32) l) lk_X8_60 (Nat.le_of_ble_eq_true rfl) (preRO hK hS hAb (emP)) rfl hl rfl (Nat.le_of_ble_eq_true rfl) (dd D_X8_looks 3 rfl) ⟨Nat.le_of_ble_eq_true rfl, Nat.le_of_ble_eq_true rfl⟩) rfl ?_
  refine x_bif_ne (tgt := 17) F.1 F.2.1 (dd D_X8_looks 4 rfl) rfl h (fun c12 h => ?_) (fun c12 h => ?_)
  · refine lv_iconst (v := (0 : Int32)) F.1 F.2.1 (dd D_X8_looks 9 rfl) ki_0 ?_
    refine lv_istore_n (lv' := [(2, .int (0 : Int32)), (0, .ref (ax 0)), (1, .int p1)]) F.1 F.2.1 (dd D_X8_looks 10 rfl) rfl hl (Nat.le_of_ble_eq_true rfl) rfl (fun ls hl => ?_)
    have L5 : ∀ (kf : Nat) (w2_L5 : Int32) (u0_L5 : XS) (H : Heap) (locs : List Loc) (ls : Array Slot), va_P D vwCl (xW cA ax u0_L5) H → va_D A (xW cA ax u0_L5) → va_S A sM.heap H locs → lv_has ls 3 [(0, .ref (ax 0)), (1, .int p1), (2, .int w2_L5)] → F_X8_looks_L19 n p1 kf w2_L5 u0_L5 = some r → Wrw 5 0 0 D A (exq (some (.int r.1)) (xW cA ax r.2)) p l e sM m ([.ref (ax 0), .int p1] : List Value).toArray below meth c H locs 0 0 19 ls [] := by
      intro kf
      induction kf with
      | zero =>
        intro w2_L5 u0_L5 H locs ls hP hD hS hl h
        cases (show none = some r from h)
      | succ k_L5 ih_L5 =>
        intro w2_L5 u0_L5 H locs ls hP hD hS hl h
        unfold F_X8_looks_L19 at h
        refine lv_iload_n F.1 F.2.1 (dd D_X8_looks 11 rfl) rfl (lv_at hl 2 rfl) ?_
        refine lv_iload_n F.1 F.2.1 (dd D_X8_looks 12 rfl) rfl (lv_at hl 1 rfl) ?_
        refine x_icmp_ge (tgt := 48) F.1 F.2.1 (dd D_X8_looks 13 rfl) rfl h (fun c6 h => ?_) (fun c6 h => ?_)
        · refine lv_aload_n F.1 F.2.1 (dd D_X8_looks 24 rfl) rfl (lv_at hl 0 rfl) ?_
          refine getF F hK hP lf_X8_10 (0) (xp_0 cA ax u0_L5) rfl (dd D_X8_looks 25 rfl) ?_
          refine getF F hK hP lf_X8_353 (1) (xp_1 cA ax u0_L5) rfl (dd D_X8_looks 26 rfl) ?_
          obtain rfl := Option.some.inj h
          exact rw_i (R := rmOf 5 0 0) F hP hD hS hr hlk ⟨Nat.le_of_ble_eq_true rfl, Nat.le_of_ble_eq_true rfl⟩ ⟨rfl, rfl⟩ (dd D_X8_looks 27 rfl)
        · refine lv_aload_n F.1 F.2.1 (dd D_X8_looks 14 rfl) rfl (lv_at hl 0 rfl) ?_
          refine getF F hK hP lf_X8_10 (0) (xp_0 cA ax u0_L5) rfl (dd D_X8_looks 15 rfl) ?_
          refine getF F hK hP lf_X8_347 (1) (xp_1 cA ax u0_L5) rfl (dd D_X8_looks 16 rfl) ?_
          refine lv_sipush (v := (9999 : Int32)) F.1 F.2.1 (dd D_X8_looks 17 rfl) ks_9999 ?_
          refine x_icmp_ge (tgt := 48) F.1 F.2.1 (dd D_X8_looks 18 rfl) rfl h (fun c7 h => ?_) (fun c7 h => ?_)
          · refine lv_aload_n F.1 F.2.1 (dd D_X8_looks 24 rfl) rfl (lv_at hl 0 rfl) ?_
            refine getF F hK hP lf_X8_10 (0) (xp_0 cA ax u0_L5) rfl (dd D_X8_looks 25 rfl) ?_
            refine getF F hK hP lf_X8_353 (1) (xp_1 cA ax u0_L5) rfl (dd D_X8_looks 26 rfl) ?_
            obtain rfl := Option.some.inj h
            exact rw_i (R := rmOf 5 0 0) F hP hD hS hr hlk ⟨Nat.le_of_ble_eq_true rfl, Nat.le_of_ble_eq_true rfl⟩ ⟨rfl, rfl⟩ (dd D_X8_looks 27 rfl)
          · refine lv_aload_n F.1 F.2.1 (dd D_X8_looks 19 rfl) rfl (lv_at hl 0 rfl) ?_
            obtain ⟨r8, e9, h⟩ := Option.bind_eq_some_iff.mp h
            refine rwe_all (st' := [.int (bI r8.1)]) hD hS hA (rV (rest := []) F (c_X8_letEveningPass D cA ax u0_L5 n r8 e9 l H.size) lk_X8_350 (Nat.le_of_ble_eq_true rfl) (preRW hK hS hAb hP hD) (rcv_8 hK hP (q0 := (0)) (xp_0 cA ax u0_L5)) rfl hl rfl (Nat.le_of_ble_eq_true rfl) (dd D_X8_looks 20 rfl) ⟨Nat.le_of_ble_eq_true rfl, Nat.le_of_ble_eq_true rfl⟩) rfl (fun H locs hP hD hS => ?_)
            refine lv_pop F.1 F.2.1 (dd D_X8_looks 21 rfl) rfl ?_
            refine lv_iinc (v := (w2_L5 + (1 : Int32))) (lv' := [(2, .int (w2_L5 + (1 : Int32))), (0, .ref (ax 0)), (1, .int p1)]) F.1 F.2.1 (dd D_X8_looks 22 rfl) hl (k := 2) rfl (congrArg (fun z => w2_L5 + z) ki_1) (Nat.le_of_ble_eq_true rfl) rfl (fun ls hl => ?_)
            refine lv_goto (tgt := 19) F.1 F.2.1 (dd D_X8_looks 23 rfl) rfl ?_
            exact ih_L5 (w2_L5 + (1 : Int32)) r8.2 _ _ ls hP hD hS (lv_sub hl [1, 2, 0] rfl) h
    exact L5 n (0 : Int32) s _ _ ls hP hD hS (lv_sub hl [1, 2, 0] rfl) h
  · refine lv_aload_n F.1 F.2.1 (dd D_X8_looks 5 rfl) rfl (lv_at hl 0 rfl) ?_
    refine lv_bipush (v := (-2 : Int32)) F.1 F.2.1 (dd D_X8_looks 6 rfl) kb_m2 ?_
    obtain ⟨r10, e11, h⟩ := Option.bind_eq_some_iff.mp h
    refine rwe_all (st' := [.int r10.1]) hD hS hA (rV (rest := []) F (c_X8_refuse D cA ax s n (-2 : Int32) r10 e11 l H.size) lk_X8_64 (Nat.le_of_ble_eq_true rfl) (preRW hK hS hAb hP hD) (rcv_8 hK hP (q0 := (0)) (xp_0 cA ax s)) rfl hl rfl (Nat.le_of_ble_eq_true rfl) (dd D_X8_looks 7 rfl) ⟨Nat.le_of_ble_eq_true rfl, Nat.le_of_ble_eq_true rfl⟩) rfl (fun H locs hP hD hS => ?_)
    obtain rfl := Option.some.inj h
    exact rw_i (R := rmOf 5 0 0) F hP hD hS hr hlk ⟨Nat.le_of_ble_eq_true rfl, Nat.le_of_ble_eq_true rfl⟩ ⟨rfl, rfl⟩ (dd D_X8_looks 8 rfl)
def F_X8_seed (s : XS) (p1 : Int32) : (Int32 × XS) := ((st_seed (x_now s)), (x_set_now s (st_set_seed (x_now s) p1)))
set_option maxHeartbeats 4000000 in
set_option maxRecDepth 100000 in
theorem c_X8_seed (D : va_G) (cA : Nat → ClassId) (ax : Nat → Nat) (s : XS) (p1 : Int32) : RW m_X8_seed 0 0 0 D cA [.ref (ax 0), .int p1] (xW cA ax s) (exq (some (.int (F_X8_seed s p1).1)) (xW cA ax (F_X8_seed s p1).2)) := by
  obtain ⟨r, h⟩ : ∃ r, F_X8_seed s p1 = r := ⟨_, rfl⟩
  rw [h]
  refine RW.ofW gy_X8_seed.2.2 (Nat.le_of_ble_eq_true rfl) ?_
  intro l p e sM m below meth c A H locs F hr hlk hnm hK hP hD hS hA hAb ls hl
  have hl : lv_has ls 3 [(0, .ref (ax 0)), (1, .int p1)] := hl
  unfold F_X8_seed at h
  refine lv_aload_n F.1 F.2.1 (dd D_X8_seed 0 rfl) rfl (lv_at hl 0 rfl) ?_
  refine getF F hK hP lf_X8_10 (0) (xp_0 cA ax s) rfl (dd D_X8_seed 1 rfl) ?_
  refine getF F hK hP lf_X8_356 (1) (xp_1 cA ax s) rfl (dd D_X8_seed 2 rfl) ?_
  refine lv_istore_n (lv' := [(2, .int (st_seed (x_now s))), (0, .ref (ax 0)), (1, .int p1)]) F.1 F.2.1 (dd D_X8_seed 3 rfl) rfl hl (Nat.le_of_ble_eq_true rfl) rfl (fun ls hl => ?_)
  refine lv_aload_n F.1 F.2.1 (dd D_X8_seed 4 rfl) rfl (lv_at hl 1 rfl) ?_
  refine getF F hK hP lf_X8_10 (0) (xp_0 cA ax s) rfl (dd D_X8_seed 5 rfl) ?_
  refine lv_iload_n F.1 F.2.1 (dd D_X8_seed 6 rfl) rfl (lv_at hl 2 rfl) ?_
  refine putF F hK hP hD hS lp_X8_356 (1) (xp_1 cA ax s) (Nat.le_of_ble_eq_true rfl) (nar_int _) (fit_int _) (ws' := (xW cA ax (x_set_now s (st_set_seed (x_now s) p1)))) (xs_1_9 cA ax s p1) (dd D_X8_seed 7 rfl) (fun H locs hP hD hS => ?_)
  refine lv_iload_n F.1 F.2.1 (dd D_X8_seed 8 rfl) rfl (lv_at hl 0 rfl) ?_
  subst h
  exact rw_i (R := rmOf 0 0 0) F hP hD hS hr hlk ⟨Nat.le_of_ble_eq_true rfl, Nat.le_of_ble_eq_true rfl⟩ ⟨rfl, rfl⟩ (dd D_X8_seed 9 rfl)
def F_X8_image (n : Nat) (s : XS) : Option (Int32 × XS) := (((F_X6_become n (x_kept s) (x_now s))).bind fun r1 => some ((1 : Int32), (x_set_isKept (x_set_kept s r1) true)))
set_option maxHeartbeats 4000000 in
set_option maxRecDepth 100000 in
theorem c_X8_image (D : va_G) (cA : Nat → ClassId) (ax : Nat → Nat) (s : XS) (n : Nat)  (r : (Int32 × XS)) (h : F_X8_image n s = some r) : RW m_X8_image 4 0 0 D cA [.ref (ax 0)] (xW cA ax s) (exq (some (.int r.1)) (xW cA ax r.2)) := by
  refine RW.ofW gy_X8_image.2.2 (Nat.le_of_ble_eq_true rfl) ?_
  intro l p e sM m below meth c A H locs F hr hlk hnm hK hP hD hS hA hAb ls hl
  have hl : lv_has ls 1 [(0, .ref (ax 0))] := hl
  unfold F_X8_image at h
  refine lv_aload_n F.1 F.2.1 (dd D_X8_image 0 rfl) rfl (lv_at hl 0 rfl) ?_
  refine getF F hK hP lf_X8_19 (0) (xp_0 cA ax s) rfl (dd D_X8_image 1 rfl) ?_
  refine lv_aload_n F.1 F.2.1 (dd D_X8_image 2 rfl) rfl (lv_at hl 0 rfl) ?_
  refine getF F hK hP lf_X8_10 (0) (xp_0 cA ax s) rfl (dd D_X8_image 3 rfl) ?_
  obtain ⟨r1, e2, h⟩ := Option.bind_eq_some_iff.mp h
  refine rwe (V := none) (wc := ((stateW cA (fun i => ax (27+i)) (x_kept s)) ++ (stateW cA (fun i => ax (1+i)) (x_now s)))) (wc' := ((stateW cA (fun i => ax (27+i)) r1) ++ (stateW cA (fun i => ax (1+i)) (x_now s)))) (st' := []) (W' := (xW cA ax (x_set_kept s r1))) hP hD hS hA [27, 28, 29, 30, 31, 32, 33, 34, 35, 36, 37, 38, 39, 1, 2, 3, 4, 5, 6, 7, 8, 9, 10, 11, 12, 13] (jc_x_27_1 cA ax s) (Nat_nd rfl) rfl (rV (rest := []) F (c_X6_become D cA (fun i => ax (27+i)) (x_kept s) (fun i => ax (1+i)) (x_now s) n r1 e2 l H.size) lk_X8_189 (Nat.le_of_ble_eq_true rfl) (preRW hK hS hAb (selP (is := [27, 28, 29, 30, 31, 32, 33, 34, 35, 36, 37, 38, 39, 1, 2, 3, 4, 5, 6, 7, 8, 9, 10, 11, 12, 13]) hP (jc_x_27_1 cA ax s)) (selD (is := [27, 28, 29, 30, 31, 32, 33, 34, 35, 36, 37, 38, 39, 1, 2, 3, 4, 5, 6, 7, 8, 9, 10, 11, 12, 13]) hD (Nat_nd rfl) (jc_x_27_1 cA ax s))) (rcv_6 hK hP (q0 := (27)) (xp_27 cA ax s)) rfl hl rfl (Nat.le_of_ble_eq_true rfl) (dd D_X8_image 4 rfl) ⟨Nat.le_of_ble_eq_true rfl, Nat.le_of_ble_eq_true rfl⟩) (js_x_27_1 cA ax s r1) rfl (fun H locs hP hD hS => ?_)
  refine lv_aload_n F.1 F.2.1 (dd D_X8_image 5 rfl) rfl (lv_at hl 0 rfl) ?_
  refine lv_iconst (v := (1 : Int32)) F.1 F.2.1 (dd D_X8_image 6 rfl) ki_1 ?_
  refine putF F hK hP hD hS lp_X8_359 (0) (xp_0 cA ax (x_set_kept s r1)) (Nat.le_of_ble_eq_true rfl) rfl rfl (ws' := (xW cA ax (x_set_isKept (x_set_kept s r1) true))) (xs_0_8 cA ax (x_set_kept s r1) true) (dd D_X8_image 7 rfl) (fun H locs hP hD hS => ?_)
  refine lv_iconst (v := (1 : Int32)) F.1 F.2.1 (dd D_X8_image 8 rfl) ki_1 ?_
  obtain rfl := Option.some.inj h
  exact rw_i (R := rmOf 4 0 0) F hP hD hS hr hlk ⟨Nat.le_of_ble_eq_true rfl, Nat.le_of_ble_eq_true rfl⟩ ⟨rfl, rfl⟩ (dd D_X8_image 9 rfl)
def F_X8_back (n : Nat) (s : XS) : Option (Int32 × XS) := bf (x_isKept s) ((((F_X6_become n (x_now s) (x_kept s))).bind fun r1 => some ((1 : Int32), (x_set_now s r1)))) ((((F_X8_refuse n s (-5 : Int32))).bind fun r3 => some (r3.1, r3.2)))
set_option maxHeartbeats 4000000 in
set_option maxRecDepth 100000 in
theorem c_X8_back (D : va_G) (cA : Nat → ClassId) (ax : Nat → Nat) (s : XS) (n : Nat)  (r : (Int32 × XS)) (h : F_X8_back n s = some r) : RW m_X8_back 4 0 0 D cA [.ref (ax 0)] (xW cA ax s) (exq (some (.int r.1)) (xW cA ax r.2)) := by
  refine RW.ofW gy_X8_back.2.2 (Nat.le_of_ble_eq_true rfl) ?_
  intro l p e sM m below meth c A H locs F hr hlk hnm hK hP hD hS hA hAb ls hl
  have hl : lv_has ls 1 [(0, .ref (ax 0))] := hl
  unfold F_X8_back at h
  refine lv_aload_n F.1 F.2.1 (dd D_X8_back 0 rfl) rfl (lv_at hl 0 rfl) ?_
  refine getF F hK hP lf_X8_359 (0) (xp_0 cA ax s) rfl (dd D_X8_back 1 rfl) ?_
  refine x_bif_ne (tgt := 14) F.1 F.2.1 (dd D_X8_back 2 rfl) rfl h (fun c5 h => ?_) (fun c5 h => ?_)
  · refine lv_aload_n F.1 F.2.1 (dd D_X8_back 7 rfl) rfl (lv_at hl 0 rfl) ?_
    refine getF F hK hP lf_X8_10 (0) (xp_0 cA ax s) rfl (dd D_X8_back 8 rfl) ?_
    refine lv_aload_n F.1 F.2.1 (dd D_X8_back 9 rfl) rfl (lv_at hl 0 rfl) ?_
    refine getF F hK hP lf_X8_19 (0) (xp_0 cA ax s) rfl (dd D_X8_back 10 rfl) ?_
    obtain ⟨r1, e2, h⟩ := Option.bind_eq_some_iff.mp h
    refine rwe (V := none) (wc := ((stateW cA (fun i => ax (1+i)) (x_now s)) ++ (stateW cA (fun i => ax (27+i)) (x_kept s)))) (wc' := ((stateW cA (fun i => ax (1+i)) r1) ++ (stateW cA (fun i => ax (27+i)) (x_kept s)))) (st' := []) (W' := (xW cA ax (x_set_now s r1))) hP hD hS hA [1, 2, 3, 4, 5, 6, 7, 8, 9, 10, 11, 12, 13, 27, 28, 29, 30, 31, 32, 33, 34, 35, 36, 37, 38, 39] (jc_x_1_27 cA ax s) (Nat_nd rfl) rfl (rV (rest := []) F (c_X6_become D cA (fun i => ax (1+i)) (x_now s) (fun i => ax (27+i)) (x_kept s) n r1 e2 l H.size) lk_X8_189 (Nat.le_of_ble_eq_true rfl) (preRW hK hS hAb (selP (is := [1, 2, 3, 4, 5, 6, 7, 8, 9, 10, 11, 12, 13, 27, 28, 29, 30, 31, 32, 33, 34, 35, 36, 37, 38, 39]) hP (jc_x_1_27 cA ax s)) (selD (is := [1, 2, 3, 4, 5, 6, 7, 8, 9, 10, 11, 12, 13, 27, 28, 29, 30, 31, 32, 33, 34, 35, 36, 37, 38, 39]) hD (Nat_nd rfl) (jc_x_1_27 cA ax s))) (rcv_6 hK hP (q0 := (1)) (xp_1 cA ax s)) rfl hl rfl (Nat.le_of_ble_eq_true rfl) (dd D_X8_back 11 rfl) ⟨Nat.le_of_ble_eq_true rfl, Nat.le_of_ble_eq_true rfl⟩) (js_x_1_27 cA ax s r1) rfl (fun H locs hP hD hS => ?_)
    refine lv_iconst (v := (1 : Int32)) F.1 F.2.1 (dd D_X8_back 12 rfl) ki_1 ?_
    obtain rfl := Option.some.inj h
    exact rw_i (R := rmOf 4 0 0) F hP hD hS hr hlk ⟨Nat.le_of_ble_eq_true rfl, Nat.le_of_ble_eq_true rfl⟩ ⟨rfl, rfl⟩ (dd D_X8_back 13 rfl)
  · refine lv_aload_n F.1 F.2.1 (dd D_X8_back 3 rfl) rfl (lv_at hl 0 rfl) ?_
    refine lv_bipush (v := (-5 : Int32)) F.1 F.2.1 (dd D_X8_back 4 rfl) kb_m5 ?_
    obtain ⟨r3, e4, h⟩ := Option.bind_eq_some_iff.mp h
    refine rwe_all (st' := [.int r3.1]) hD hS hA (rV (rest := []) F (c_X8_refuse D cA ax s n (-5 : Int32) r3 e4 l H.size) lk_X8_64 (Nat.le_of_ble_eq_true rfl) (preRW hK hS hAb hP hD) (rcv_8 hK hP (q0 := (0)) (xp_0 cA ax s)) rfl hl rfl (Nat.le_of_ble_eq_true rfl) (dd D_X8_back 5 rfl) ⟨Nat.le_of_ble_eq_true rfl, Nat.le_of_ble_eq_true rfl⟩) rfl (fun H locs hP hD hS => ?_)
    obtain rfl := Option.some.inj h
    exact rw_i (R := rmOf 4 0 0) F hP hD hS hr hlk ⟨Nat.le_of_ble_eq_true rfl, Nat.le_of_ble_eq_true rfl⟩ ⟨rfl, rfl⟩ (dd D_X8_back 6 rfl)
def F_X8_shelvesInUse_L4 (n : Nat) (u0 : XS)  : Nat → Int32 → Int32 → Option Int32
  | 0, _, _ => none
  | kf + 1, w1, w2 => (if (8 : Int32) ≤ w2 then some (w1) else gd (inb w2 8) (bf (F_X5_isBare (x_sh u0 (Int32.toNatClampNeg w2))) (F_X8_shelvesInUse_L4 n u0 kf w1 (w2 + (1 : Int32))) (F_X8_shelvesInUse_L4 n u0 kf (w1 + (1 : Int32)) (w2 + (1 : Int32)))))
def F_X8_shelvesInUse (n : Nat) (s : XS) : Option Int32 := F_X8_shelvesInUse_L4 n s n (0 : Int32) (0 : Int32)
set_option maxHeartbeats 4000000 in
set_option maxRecDepth 100000 in
theorem c_X8_shelvesInUse (D : va_G) (cA : Nat → ClassId) (ax : Nat → Nat) (s : XS) (n : Nat)  (r : Int32) (h : F_X8_shelvesInUse n s = some r) : RO m_X8_shelvesInUse 1 D cA [.ref (ax 0)] (xW cA ax s) (some (.int r)) := by
  refine RO.ofW gy_X8_shelvesInUse.2.2 (Nat.le_of_ble_eq_true rfl) ?_
  intro l p e sM m below meth c F hr hlk hK hP hS hAb ls hl
  have hl : lv_has ls 4 [(0, .ref (ax 0))] := hl
  unfold F_X8_shelvesInUse at h
  refine lv_iconst (v := (0 : Int32)) F.1 F.2.1 (dd D_X8_shelvesInUse 0 rfl) ki_0 ?_
  refine lv_istore_n (lv' := [(1, .int (0 : Int32)), (0, .ref (ax 0))]) F.1 F.2.1 (dd D_X8_shelvesInUse 1 rfl) rfl hl (Nat.le_of_ble_eq_true rfl) rfl (fun ls hl => ?_)
  refine lv_iconst (v := (0 : Int32)) F.1 F.2.1 (dd D_X8_shelvesInUse 2 rfl) ki_0 ?_
  refine lv_istore_n (lv' := [(2, .int (0 : Int32)), (1, .int (0 : Int32)), (0, .ref (ax 0))]) F.1 F.2.1 (dd D_X8_shelvesInUse 3 rfl) rfl hl (Nat.le_of_ble_eq_true rfl) rfl (fun ls hl => ?_)
  have L5 : ∀ (kf : Nat) (w1_L5 : Int32) (w2_L5 : Int32) (ls : Array Slot), lv_has ls 4 [(0, .ref (ax 0)), (1, .int w1_L5), (2, .int w2_L5)] → F_X8_shelvesInUse_L4 n s kf w1_L5 w2_L5 = some r → Wro 1 (some (.int r)) p l e sM m ([.ref (ax 0)] : List Value).toArray below meth c 4 ls [] := by
    intro kf
    induction kf with
    | zero =>
      intro w1_L5 w2_L5 ls hl h
      cases (show none = some r from h)
    | succ k_L5 ih_L5 =>
      intro w1_L5 w2_L5 ls hl h
      unfold F_X8_shelvesInUse_L4 at h
      refine lv_iload_n F.1 F.2.1 (dd D_X8_shelvesInUse 4 rfl) rfl (lv_at hl 2 rfl) ?_
      refine lv_aload_n F.1 F.2.1 (dd D_X8_shelvesInUse 5 rfl) rfl (lv_at hl 0 rfl) ?_
      refine getF F hK hP lf_X8_47 (0) (xp_0 cA ax s) rfl (dd D_X8_shelvesInUse 6 rfl) ?_
      refine alen F hK hP (45) 3 (xp_45 cA ax s) rfl (v := (8 : Int32)) kn_8 (dd D_X8_shelvesInUse 7 rfl) ?_
      refine x_icmp_ge (tgt := 40) F.1 F.2.1 (dd D_X8_shelvesInUse 8 rfl) rfl h (fun c6 h => ?_) (fun c6 h => ?_)
      · refine lv_iload_n F.1 F.2.1 (dd D_X8_shelvesInUse 22 rfl) rfl (lv_at hl 1 rfl) ?_
        exact ro_i (R := rmOf 1 0 0) F hr hlk (congrArg (Option.map Value.int) h) (dd D_X8_shelvesInUse 23 rfl)
      · refine lv_aload_n F.1 F.2.1 (dd D_X8_shelvesInUse 9 rfl) rfl (lv_at hl 0 rfl) ?_
        refine getF F hK hP lf_X8_47 (0) (xp_0 cA ax s) rfl (dd D_X8_shelvesInUse 10 rfl) ?_
        refine lv_iload_n F.1 F.2.1 (dd D_X8_shelvesInUse 11 rfl) rfl (lv_at hl 2 rfl) ?_
        refine aldS (g := fun j => ax (46+2*j)) F hK hP (45) (xp_45 cA ax s) 3 rfl (fun _ => rfl) h (dd D_X8_shelvesInUse 12 rfl) (fun z7 h => ?_)
        have hk8 : (Int32.toNatClampNeg w2_L5) < 8 := inb_lt z7
        refine lv_astore_n (lv' := [(3, .ref (ax (46+2*(Int32.toNatClampNeg w2_L5)))), (0, .ref (ax 0)), (1, .int w1_L5), (2, .int w2_L5)]) F.1 F.2.1 (dd D_X8_shelvesInUse 13 rfl) rfl hl (Nat.le_of_ble_eq_true rfl) rfl (fun ls hl => ?_)
        refine lv_aload_n F.1 F.2.1 (dd D_X8_shelvesInUse 14 rfl) rfl (lv_at hl 0 rfl) ?_
        refine lv_ifnull F.1 F.2.1 (dd D_X8_shelvesInUse 15 rfl) ?_
        refine lv_aload_n F.1 F.2.1 (dd D_X8_shelvesInUse 16 rfl) rfl (lv_at hl 0 rfl) ?_
        refine ro_go (st' := [.int (bI (F_X5_isBare (x_sh s (Int32.toNatClampNeg w2_L5))))]) (rV (rest := []) F (c_X5_isBare D cA (fun i => ax (46+2*(Int32.toNatClampNeg w2_L5)+i)) (x_sh s (Int32.toNatClampNeg w2_L5)) l) lk_X8_91 (Nat.le_of_ble_eq_true rfl) (preRO hK hS hAb (pg_sh hk8 hP)) (rcv_5 hK hP (q0 := (46+2*(Int32.toNatClampNeg w2_L5))) (xp_sh cA ax s (Int32.toNatClampNeg w2_L5) hk8)) rfl hl rfl (Nat.le_of_ble_eq_true rfl) (dd D_X8_shelvesInUse 17 rfl) ⟨Nat.le_of_ble_eq_true rfl, Nat.le_of_ble_eq_true rfl⟩) rfl ?_
        refine x_bif_ne (tgt := 34) F.1 F.2.1 (dd D_X8_shelvesInUse 18 rfl) rfl h (fun c9 h => ?_) (fun c9 h => ?_)
        · refine lv_iinc (v := (w2_L5 + (1 : Int32))) (lv' := [(2, .int (w2_L5 + (1 : Int32))), (3, .ref (ax (46+2*(Int32.toNatClampNeg w2_L5)))), (0, .ref (ax 0)), (1, .int w1_L5)]) F.1 F.2.1 (dd D_X8_shelvesInUse 20 rfl) hl (k := 3) rfl (congrArg (fun z => w2_L5 + z) ki_1) (Nat.le_of_ble_eq_true rfl) rfl (fun ls hl => ?_)
          refine lv_goto (tgt := 4) F.1 F.2.1 (dd D_X8_shelvesInUse 21 rfl) rfl ?_
          exact ih_L5 w1_L5 (w2_L5 + (1 : Int32)) ls (lv_sub hl [2, 3, 0] rfl) h
        · refine lv_iinc (v := (w1_L5 + (1 : Int32))) (lv' := [(1, .int (w1_L5 + (1 : Int32))), (3, .ref (ax (46+2*(Int32.toNatClampNeg w2_L5)))), (0, .ref (ax 0)), (2, .int w2_L5)]) F.1 F.2.1 (dd D_X8_shelvesInUse 19 rfl) hl (k := 2) rfl (congrArg (fun z => w1_L5 + z) ki_1) (Nat.le_of_ble_eq_true rfl) rfl (fun ls hl => ?_)
          refine lv_iinc (v := (w2_L5 + (1 : Int32))) (lv' := [(2, .int (w2_L5 + (1 : Int32))), (1, .int (w1_L5 + (1 : Int32))), (3, .ref (ax (46+2*(Int32.toNatClampNeg w2_L5)))), (0, .ref (ax 0))]) F.1 F.2.1 (dd D_X8_shelvesInUse 20 rfl) hl (k := 3) rfl (congrArg (fun z => w2_L5 + z) ki_1) (Nat.le_of_ble_eq_true rfl) rfl (fun ls hl => ?_)
          refine lv_goto (tgt := 4) F.1 F.2.1 (dd D_X8_shelvesInUse 21 rfl) rfl ?_
          exact ih_L5 (w1_L5 + (1 : Int32)) (w2_L5 + (1 : Int32)) ls (lv_sub hl [3, 1, 0] rfl) h
  exact L5 n (0 : Int32) (0 : Int32) ls (lv_sub hl [2, 1, 0] rfl) h
def F_X8_refusalsAt (n : Nat) (s : XS) (p1 : Int32) : Option Int32 := (if p1 < 0 then some ((-1 : Int32)) else (if (5 : Int32) ≤ p1 then some ((-1 : Int32)) else gd (inb p1 5) (some (((x_ref s) (Int32.toNatClampNeg p1))))))
set_option maxHeartbeats 4000000 in
set_option maxRecDepth 100000 in
theorem c_X8_refusalsAt (D : va_G) (cA : Nat → ClassId) (ax : Nat → Nat) (s : XS) (n : Nat) (p1 : Int32) (r : Int32) (h : F_X8_refusalsAt n s p1 = some r) : RO m_X8_refusalsAt 0 D cA [.ref (ax 0), .int p1] (xW cA ax s) (some (.int r)) := by
  refine RO.ofW gy_X8_refusalsAt.2.2 (Nat.le_of_ble_eq_true rfl) ?_
  intro l p e sM m below meth c F hr hlk hK hP hS hAb ls hl
  have hl : lv_has ls 2 [(0, .ref (ax 0)), (1, .int p1)] := hl
  unfold F_X8_refusalsAt at h
  refine lv_iload_n F.1 F.2.1 (dd D_X8_refusalsAt 0 rfl) rfl (lv_at hl 1 rfl) ?_
  refine x_if_lt (tgt := 22) F.1 F.2.1 (dd D_X8_refusalsAt 1 rfl) rfl h (fun c1 h => ?_) (fun c1 h => ?_)
  · refine lv_iconst (v := (-1 : Int32)) F.1 F.2.1 (dd D_X8_refusalsAt 12 rfl) ki_m1 ?_
    exact ro_i (R := rmOf 0 0 0) F hr hlk (congrArg (Option.map Value.int) h) (dd D_X8_refusalsAt 13 rfl)
  · refine lv_iload_n F.1 F.2.1 (dd D_X8_refusalsAt 2 rfl) rfl (lv_at hl 1 rfl) ?_
    refine lv_aload_n F.1 F.2.1 (dd D_X8_refusalsAt 3 rfl) rfl (lv_at hl 0 rfl) ?_
    refine getF F hK hP lf_X8_51 (0) (xp_0 cA ax s) rfl (dd D_X8_refusalsAt 4 rfl) ?_
    refine alen F hK hP (62) 0 (xp_62 cA ax s) rfl (v := (5 : Int32)) kn_5 (dd D_X8_refusalsAt 5 rfl) ?_
    refine x_icmp_ge (tgt := 22) F.1 F.2.1 (dd D_X8_refusalsAt 6 rfl) rfl h (fun c2 h => ?_) (fun c2 h => ?_)
    · refine lv_iconst (v := (-1 : Int32)) F.1 F.2.1 (dd D_X8_refusalsAt 12 rfl) ki_m1 ?_
      exact ro_i (R := rmOf 0 0 0) F hr hlk (congrArg (Option.map Value.int) h) (dd D_X8_refusalsAt 13 rfl)
    · refine lv_aload_n F.1 F.2.1 (dd D_X8_refusalsAt 7 rfl) rfl (lv_at hl 0 rfl) ?_
      refine getF F hK hP lf_X8_51 (0) (xp_0 cA ax s) rfl (dd D_X8_refusalsAt 8 rfl) ?_
      refine lv_iload_n F.1 F.2.1 (dd D_X8_refusalsAt 9 rfl) rfl (lv_at hl 1 rfl) ?_
      refine aldI F hK hP (62) (xp_62 cA ax s) h (dd D_X8_refusalsAt 10 rfl) (fun z3 h => ?_)
      refine lv_goto (tgt := 23) F.1 F.2.1 (dd D_X8_refusalsAt 11 rfl) rfl ?_
      exact ro_i (R := rmOf 0 0 0) F hr hlk (congrArg (Option.map Value.int) h) (dd D_X8_refusalsAt 13 rfl)
def F_X8_status (n : Nat) (s : XS) (p1 : Int32) : Option Int32 := (if p1 = (0 : Int32) then some ((F_X1_count (st_hill (x_now s)))) else (if p1 = (1 : Int32) then some ((F_X0_count 6 (st_stones (x_now s)))) else (if p1 = (2 : Int32) then some ((F_X0_count 8 (st_clouds (x_now s)))) else (if p1 = (3 : Int32) then some ((F_X6_askedOf (x_now s) (p1 - (3 : Int32)))) else (if p1 = (4 : Int32) then some ((F_X6_askedOf (x_now s) (p1 - (3 : Int32)))) else (if p1 = (5 : Int32) then some ((F_X6_askedOf (x_now s) (p1 - (3 : Int32)))) else (if p1 = (6 : Int32) then some ((F_X6_askedOf (x_now s) (p1 - (3 : Int32)))) else (if p1 = (7 : Int32) then some ((st_today (x_now s))) else (if p1 = (8 : Int32) then some ((st_looks (x_now s))) else (if p1 = (9 : Int32) then some ((F_X7_size s)) else (if p1 = (10 : Int32) then some ((st_seed (x_now s))) else (if p1 = (11 : Int32) then (((F_X8_shelvesInUse n s)).bind fun r2 => some (r2)) else (((F_X8_refusalsAt n s (p1 - (12 : Int32)))).bind fun r4 => some (r4))))))))))))))
set_option maxHeartbeats 4000000 in
set_option maxRecDepth 100000 in
theorem c_X8_status (D : va_G) (cA : Nat → ClassId) (ax : Nat → Nat) (s : XS) (n : Nat) (p1 : Int32) (r : Int32) (h : F_X8_status n s p1 = some r) : RO m_X8_status 2 D cA [.ref (ax 0), .int p1] (xW cA ax s) (some (.int r)) := by
  refine RO.ofW gy_X8_status.2.2 (Nat.le_of_ble_eq_true rfl) ?_
  intro l p e sM m below meth c F hr hlk hK hP hS hAb ls hl
  have hl : lv_has ls 2 [(0, .ref (ax 0)), (1, .int p1)] := hl
  unfold F_X8_status at h
  refine lv_iload_n F.1 F.2.1 (dd D_X8_status 0 rfl) rfl (lv_at hl 1 rfl) ?_
  refine x_ts (tgt := 64) F.1 F.2.1 (0 : Int32) (dd D_X8_status 1 rfl) h (by decide) (by decide) rfl rfl (fun c1_0 h => ?_) (fun c1_0 h => ?_)
  · refine lv_aload_n F.1 F.2.1 (dd D_X8_status 2 rfl) rfl (lv_at hl 0 rfl) ?_
    refine getF F hK hP lf_X8_10 (0) (xp_0 cA ax s) rfl (dd D_X8_status 3 rfl) ?_
    refine getF F hK hP lf_X8_147 (1) (xp_1 cA ax s) rfl (dd D_X8_status 4 rfl) ?_
    refine ro_go (st' := [.int (F_X1_count (st_hill (x_now s)))]) (rV (rest := []) F (c_X1_count D cA (fun i => ax (2+i)) (st_hill (x_now s)) l) lk_X8_160 (Nat.le_of_ble_eq_true rfl) (preRO hK hS hAb (pg_x_2 hP)) (rcv_1 hK hP (q0 := (2)) (xp_2 cA ax s)) rfl hl rfl (Nat.le_of_ble_eq_true rfl) (dd D_X8_status 5 rfl) ⟨Nat.le_of_ble_eq_true rfl, Nat.le_of_ble_eq_true rfl⟩) rfl ?_
    exact ro_i (R := rmOf 2 0 0) F hr hlk (congrArg (Option.map Value.int) h) (dd D_X8_status 6 rfl)
  refine x_ts (tgt := 75) F.1 F.2.1 (1 : Int32) (dd D_X8_status 1 rfl) h (by decide) (by decide) rfl rfl (fun c1_1 h => ?_) (fun c1_1 h => ?_)
  · refine lv_aload_n F.1 F.2.1 (dd D_X8_status 7 rfl) rfl (lv_at hl 0 rfl) ?_
    refine getF F hK hP lf_X8_10 (0) (xp_0 cA ax s) rfl (dd D_X8_status 8 rfl) ?_
    refine getF F hK hP lf_X8_163 (1) (xp_1 cA ax s) rfl (dd D_X8_status 9 rfl) ?_
    refine ro_go (st' := [.int (F_X0_count 6 (st_stones (x_now s)))]) (rV (rest := []) F (c_X0_count D cA 6 (fun i => ax (10+i)) (st_stones (x_now s)) l) lk_X8_172 (Nat.le_of_ble_eq_true rfl) (preRO hK hS hAb (pg_x_10 hP)) (rcv_0 hK hP (q0 := (10)) (xp_10 cA ax s)) rfl hl rfl (Nat.le_of_ble_eq_true rfl) (dd D_X8_status 10 rfl) ⟨Nat.le_of_ble_eq_true rfl, Nat.le_of_ble_eq_true rfl⟩) rfl ?_
    exact ro_i (R := rmOf 2 0 0) F hr hlk (congrArg (Option.map Value.int) h) (dd D_X8_status 11 rfl)
  refine x_ts (tgt := 86) F.1 F.2.1 (2 : Int32) (dd D_X8_status 1 rfl) h (by decide) (by decide) rfl rfl (fun c1_2 h => ?_) (fun c1_2 h => ?_)
  · refine lv_aload_n F.1 F.2.1 (dd D_X8_status 12 rfl) rfl (lv_at hl 0 rfl) ?_
    refine getF F hK hP lf_X8_10 (0) (xp_0 cA ax s) rfl (dd D_X8_status 13 rfl) ?_
    refine getF F hK hP lf_X8_173 (1) (xp_1 cA ax s) rfl (dd D_X8_status 14 rfl) ?_
    refine ro_go (st' := [.int (F_X0_count 8 (st_clouds (x_now s)))]) (rV (rest := []) F (c_X0_count D cA 8 (fun i => ax (12+i)) (st_clouds (x_now s)) l) lk_X8_172 (Nat.le_of_ble_eq_true rfl) (preRO hK hS hAb (pg_x_12 hP)) (rcv_0 hK hP (q0 := (12)) (xp_12 cA ax s)) rfl hl rfl (Nat.le_of_ble_eq_true rfl) (dd D_X8_status 15 rfl) ⟨Nat.le_of_ble_eq_true rfl, Nat.le_of_ble_eq_true rfl⟩) rfl ?_
    exact ro_i (R := rmOf 2 0 0) F hr hlk (congrArg (Option.map Value.int) h) (dd D_X8_status 16 rfl)
  refine x_ts (tgt := 97) F.1 F.2.1 (3 : Int32) (dd D_X8_status 1 rfl) h (by decide) (by decide) rfl rfl (fun c1_3 h => ?_) (fun c1_3 h => ?_)
  · refine lv_aload_n F.1 F.2.1 (dd D_X8_status 17 rfl) rfl (lv_at hl 0 rfl) ?_
    refine getF F hK hP lf_X8_10 (0) (xp_0 cA ax s) rfl (dd D_X8_status 18 rfl) ?_
    refine lv_iload_n F.1 F.2.1 (dd D_X8_status 19 rfl) rfl (lv_at hl 1 rfl) ?_
    refine lv_iconst (v := (3 : Int32)) F.1 F.2.1 (dd D_X8_status 20 rfl) ki_3 ?_
    refine lv_isub F.1 F.2.1 (dd D_X8_status 21 rfl) ?_
    refine ro_go (st' := [.int (F_X6_askedOf (x_now s) (p1 - (3 : Int32)))]) (rV (rest := []) F (c_X6_askedOf D cA (fun i => ax (1+i)) (x_now s) (p1 - (3 : Int32)) l) lk_X8_141 (Nat.le_of_ble_eq_true rfl) (preRO hK hS hAb (pg_x_1 hP)) (rcv_6 hK hP (q0 := (1)) (xp_1 cA ax s)) rfl hl rfl (Nat.le_of_ble_eq_true rfl) (dd D_X8_status 22 rfl) ⟨Nat.le_of_ble_eq_true rfl, Nat.le_of_ble_eq_true rfl⟩) rfl ?_
    exact ro_i (R := rmOf 2 0 0) F hr hlk (congrArg (Option.map Value.int) h) (dd D_X8_status 23 rfl)
  refine x_ts (tgt := 97) F.1 F.2.1 (4 : Int32) (dd D_X8_status 1 rfl) h (by decide) (by decide) rfl rfl (fun c1_4 h => ?_) (fun c1_4 h => ?_)
  · refine lv_aload_n F.1 F.2.1 (dd D_X8_status 17 rfl) rfl (lv_at hl 0 rfl) ?_
    refine getF F hK hP lf_X8_10 (0) (xp_0 cA ax s) rfl (dd D_X8_status 18 rfl) ?_
    refine lv_iload_n F.1 F.2.1 (dd D_X8_status 19 rfl) rfl (lv_at hl 1 rfl) ?_
    refine lv_iconst (v := (3 : Int32)) F.1 F.2.1 (dd D_X8_status 20 rfl) ki_3 ?_
    refine lv_isub F.1 F.2.1 (dd D_X8_status 21 rfl) ?_
    refine ro_go (st' := [.int (F_X6_askedOf (x_now s) (p1 - (3 : Int32)))]) (rV (rest := []) F (c_X6_askedOf D cA (fun i => ax (1+i)) (x_now s) (p1 - (3 : Int32)) l) lk_X8_141 (Nat.le_of_ble_eq_true rfl) (preRO hK hS hAb (pg_x_1 hP)) (rcv_6 hK hP (q0 := (1)) (xp_1 cA ax s)) rfl hl rfl (Nat.le_of_ble_eq_true rfl) (dd D_X8_status 22 rfl) ⟨Nat.le_of_ble_eq_true rfl, Nat.le_of_ble_eq_true rfl⟩) rfl ?_
    exact ro_i (R := rmOf 2 0 0) F hr hlk (congrArg (Option.map Value.int) h) (dd D_X8_status 23 rfl)
  refine x_ts (tgt := 97) F.1 F.2.1 (5 : Int32) (dd D_X8_status 1 rfl) h (by decide) (by decide) rfl rfl (fun c1_5 h => ?_) (fun c1_5 h => ?_)
  · refine lv_aload_n F.1 F.2.1 (dd D_X8_status 17 rfl) rfl (lv_at hl 0 rfl) ?_
    refine getF F hK hP lf_X8_10 (0) (xp_0 cA ax s) rfl (dd D_X8_status 18 rfl) ?_
    refine lv_iload_n F.1 F.2.1 (dd D_X8_status 19 rfl) rfl (lv_at hl 1 rfl) ?_
    refine lv_iconst (v := (3 : Int32)) F.1 F.2.1 (dd D_X8_status 20 rfl) ki_3 ?_
    refine lv_isub F.1 F.2.1 (dd D_X8_status 21 rfl) ?_
    refine ro_go (st' := [.int (F_X6_askedOf (x_now s) (p1 - (3 : Int32)))]) (rV (rest := []) F (c_X6_askedOf D cA (fun i => ax (1+i)) (x_now s) (p1 - (3 : Int32)) l) lk_X8_141 (Nat.le_of_ble_eq_true rfl) (preRO hK hS hAb (pg_x_1 hP)) (rcv_6 hK hP (q0 := (1)) (xp_1 cA ax s)) rfl hl rfl (Nat.le_of_ble_eq_true rfl) (dd D_X8_status 22 rfl) ⟨Nat.le_of_ble_eq_true rfl, Nat.le_of_ble_eq_true rfl⟩) rfl ?_
    exact ro_i (R := rmOf 2 0 0) F hr hlk (congrArg (Option.map Value.int) h) (dd D_X8_status 23 rfl)
  refine x_ts (tgt := 97) F.1 F.2.1 (6 : Int32) (dd D_X8_status 1 rfl) h (by decide) (by decide) rfl rfl (fun c1_6 h => ?_) (fun c1_6 h => ?_)
  · refine lv_aload_n F.1 F.2.1 (dd D_X8_status 17 rfl) rfl (lv_at hl 0 rfl) ?_
    refine getF F hK hP lf_X8_10 (0) (xp_0 cA ax s) rfl (dd D_X8_status 18 rfl) ?_
    refine lv_iload_n F.1 F.2.1 (dd D_X8_status 19 rfl) rfl (lv_at hl 1 rfl) ?_
    refine lv_iconst (v := (3 : Int32)) F.1 F.2.1 (dd D_X8_status 20 rfl) ki_3 ?_
    refine lv_isub F.1 F.2.1 (dd D_X8_status 21 rfl) ?_
    refine ro_go (st' := [.int (F_X6_askedOf (x_now s) (p1 - (3 : Int32)))]) (rV (rest := []) F (c_X6_askedOf D cA (fun i => ax (1+i)) (x_now s) (p1 - (3 : Int32)) l) lk_X8_141 (Nat.le_of_ble_eq_true rfl) (preRO hK hS hAb (pg_x_1 hP)) (rcv_6 hK hP (q0 := (1)) (xp_1 cA ax s)) rfl hl rfl (Nat.le_of_ble_eq_true rfl) (dd D_X8_status 22 rfl) ⟨Nat.le_of_ble_eq_true rfl, Nat.le_of_ble_eq_true rfl⟩) rfl ?_
    exact ro_i (R := rmOf 2 0 0) F hr hlk (congrArg (Option.map Value.int) h) (dd D_X8_status 23 rfl)
  refine x_ts (tgt := 108) F.1 F.2.1 (7 : Int32) (dd D_X8_status 1 rfl) h (by decide) (by decide) rfl rfl (fun c1_7 h => ?_) (fun c1_7 h => ?_)
  · refine lv_aload_n F.1 F.2.1 (dd D_X8_status 24 rfl) rfl (lv_at hl 0 rfl) ?_
    refine getF F hK hP lf_X8_10 (0) (xp_0 cA ax s) rfl (dd D_X8_status 25 rfl) ?_
    refine getF F hK hP lf_X8_347 (1) (xp_1 cA ax s) rfl (dd D_X8_status 26 rfl) ?_
    exact ro_i (R := rmOf 2 0 0) F hr hlk (congrArg (Option.map Value.int) h) (dd D_X8_status 27 rfl)
  refine x_ts (tgt := 116) F.1 F.2.1 (8 : Int32) (dd D_X8_status 1 rfl) h (by decide) (by decide) rfl rfl (fun c1_8 h => ?_) (fun c1_8 h => ?_)
  · refine lv_aload_n F.1 F.2.1 (dd D_X8_status 28 rfl) rfl (lv_at hl 0 rfl) ?_
    refine getF F hK hP lf_X8_10 (0) (xp_0 cA ax s) rfl (dd D_X8_status 29 rfl) ?_
    refine getF F hK hP lf_X8_353 (1) (xp_1 cA ax s) rfl (dd D_X8_status 30 rfl) ?_
    exact ro_i (R := rmOf 2 0 0) F hr hlk (congrArg (Option.map Value.int) h) (dd D_X8_status 31 rfl)
  refine x_ts (tgt := 124) F.1 F.2.1 (9 : Int32) (dd D_X8_status 1 rfl) h (by decide) (by decide) rfl rfl (fun c1_9 h => ?_) (fun c1_9 h => ?_)
  · refine lv_aload_n F.1 F.2.1 (dd D_X8_status 32 rfl) rfl (lv_at hl 0 rfl) ?_
    refine getF F hK hP lf_X8_34 (0) (xp_0 cA ax s) rfl (dd D_X8_status 33 rfl) ?_
    refine ro_go (st' := [.int (F_X7_size s)]) (rV (rest := []) F (c_X7_size D cA ax s l) lk_X8_185 (Nat.le_of_ble_eq_true rfl) (preRO hK hS hAb hP) (rcv_7 hK hP (q0 := (41)) (xp_41 cA ax s)) rfl hl rfl (Nat.le_of_ble_eq_true rfl) (dd D_X8_status 34 rfl) ⟨Nat.le_of_ble_eq_true rfl, Nat.le_of_ble_eq_true rfl⟩) rfl ?_
    exact ro_i (R := rmOf 2 0 0) F hr hlk (congrArg (Option.map Value.int) h) (dd D_X8_status 35 rfl)
  refine x_ts (tgt := 132) F.1 F.2.1 (10 : Int32) (dd D_X8_status 1 rfl) h (by decide) (by decide) rfl rfl (fun c1_10 h => ?_) (fun c1_10 h => ?_)
  · refine lv_aload_n F.1 F.2.1 (dd D_X8_status 36 rfl) rfl (lv_at hl 0 rfl) ?_
    refine getF F hK hP lf_X8_10 (0) (xp_0 cA ax s) rfl (dd D_X8_status 37 rfl) ?_
    refine getF F hK hP lf_X8_356 (1) (xp_1 cA ax s) rfl (dd D_X8_status 38 rfl) ?_
    exact ro_i (R := rmOf 2 0 0) F hr hlk (congrArg (Option.map Value.int) h) (dd D_X8_status 39 rfl)
  refine x_ts (tgt := 140) F.1 F.2.1 (11 : Int32) (dd D_X8_status 1 rfl) h (by decide) (by decide) rfl rfl (fun c1_11 h => ?_) (fun c1_11 h => ?_)
  · refine lv_aload_n F.1 F.2.1 (dd D_X8_status 40 rfl) rfl (lv_at hl 0 rfl) ?_
    obtain ⟨r2, e3, h⟩ := Option.bind_eq_some_iff.mp h
    refine ro_go (st' := [.int r2]) (rV (rest := []) F (c_X8_shelvesInUse D cA ax s n r2 e3 l) lk_X8_363 (Nat.le_of_ble_eq_true rfl) (preRO hK hS hAb hP) (rcv_8 hK hP (q0 := (0)) (xp_0 cA ax s)) rfl hl rfl (Nat.le_of_ble_eq_true rfl) (dd D_X8_status 41 rfl) ⟨Nat.le_of_ble_eq_true rfl, Nat.le_of_ble_eq_true rfl⟩) rfl ?_
    exact ro_i (R := rmOf 2 0 0) F hr hlk (congrArg (Option.map Value.int) h) (dd D_X8_status 42 rfl)
  refine lv_tableOut (tgt := 145) F.1 F.2.1 (dd D_X8_status 1 rfl) (ts_out (lo := 0) (vs := [(0 : Int32), (1 : Int32), (2 : Int32), (3 : Int32), (4 : Int32), (5 : Int32), (6 : Int32), (7 : Int32), (8 : Int32), (9 : Int32), (10 : Int32), (11 : Int32)]) tsv_0_12 (by intro v hv; simp only [List.mem_cons, List.not_mem_nil, or_false] at hv; rcases hv with rfl | rfl | rfl | rfl | rfl | rfl | rfl | rfl | rfl | rfl | rfl | rfl <;> assumption)) rfl ?_
  refine lv_aload_n F.1 F.2.1 (dd D_X8_status 43 rfl) rfl (lv_at hl 0 rfl) ?_
  refine lv_iload_n F.1 F.2.1 (dd D_X8_status 44 rfl) rfl (lv_at hl 1 rfl) ?_
  refine lv_bipush (v := (12 : Int32)) F.1 F.2.1 (dd D_X8_status 45 rfl) kb_12 ?_
  refine lv_isub F.1 F.2.1 (dd D_X8_status 46 rfl) ?_
  obtain ⟨r4, e5, h⟩ := Option.bind_eq_some_iff.mp h
  refine ro_go (st' := [.int r4]) (rV (rest := []) F (c_X8_refusalsAt D cA ax s n (p1 - (12 : Int32)) r4 e5 l) lk_X8_366 (Nat.le_of_ble_eq_true rfl) (preRO hK hS hAb hP) (rcv_8 hK hP (q0 := (0)) (xp_0 cA ax s)) rfl hl rfl (Nat.le_of_ble_eq_true rfl) (dd D_X8_status 47 rfl) ⟨Nat.le_of_ble_eq_true rfl, Nat.le_of_ble_eq_true rfl⟩) rfl ?_
  exact ro_i (R := rmOf 2 0 0) F hr hlk (congrArg (Option.map Value.int) h) (dd D_X8_status 48 rfl)

