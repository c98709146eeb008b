def F_X8_overs (n : Nat) (s : XS) (p1 : Int32) (p2 : Int32) (p3 : Int32) (p4 : Int32) : Option (Int32 × XS) := bf (F_X8_areDays p1 p2) (bf (F_X8_isIn p3 (0 : Int32) ((F_X1_count (st_hill (x_now s))) - (1 : Int32))) ((if (-1 : Int32) ≤ p4 then (((F_X2_pick n s (8 : Int32) p3 (0 : Int32) (0 : Int32) none p1 p2 p4)).bind fun r7 => (((F_X8_orStuck n s r7)).bind fun r9 => some (r9.1, r9.2))) else (((F_X8_refuse n s (-2 : Int32))).bind fun r11 => some (r11.1, r11.2)))) ((((F_X8_refuse n s (-2 : Int32))).bind fun r3 => some (r3.1, r3.2)))) ((((F_X8_refuse n s (-2 : Int32))).bind fun r1 => some (r1.1, r1.2)))
set_option maxHeartbeats 4000000 in
set_option maxRecDepth 100000 in
theorem c_X8_overs (D : va_G) (cA : Nat → ClassId) (ax : Nat → Nat) (s : XS) (n : Nat) (p1 : Int32) (p2 : Int32) (p3 : Int32) (p4 : Int32) (r : (Int32 × XS)) (h : F_X8_overs n s p1 p2 p3 p4 = some r) : RW m_X8_overs 6 1 5 D cA [.ref (ax 0), .int p1, .int p2, .int p3, .int p4] (xW cA ax s) (exq (some (.int r.1)) (xW cA ax r.2)) := by
  refine RW.ofW gy_X8_overs.2.2 (Nat.le_of_ble_eq_true rfl) ?_
  intro l p e sM m below meth c A H locs F hr hlk hnm hK hP hD hS hA hAb ls hl
  have hl : lv_has ls 5 [(0, .ref (ax 0)), (1, .int p1), (2, .int p2), (3, .int p3), (4, .int p4)] := hl
  unfold F_X8_overs at h
  refine lv_iload_n F.1 F.2.1 (dd D_X8_overs 0 rfl) rfl (lv_at hl 1 rfl) ?_
  refine lv_iload_n F.1 F.2.1 (dd D_X8_overs 1 rfl) rfl (lv_at hl 2 rfl) ?_
  refine ro_go (st' := [.int (bI (F_X8_areDays p1 p2))]) (rS (rest := []) F (c_X8_areDays D cA p1 p2 l) lk_X8_260 (Nat.le_of_ble_eq_true rfl) (preRO hK hS hAb (emP)) rfl hl rfl (Nat.le_of_ble_eq_true rfl) (dd D_X8_overs 2 rfl) ⟨Nat.le_of_ble_eq_true rfl, Nat.le_of_ble_eq_true rfl⟩) rfl ?_
  refine x_bif_eq (tgt := 34) F.1 F.2.1 (dd D_X8_overs 3 rfl) rfl h (fun c14 h => ?_) (fun c14 h => ?_)
  · refine lv_aload_n F.1 F.2.1 (dd D_X8_overs 17 rfl) rfl (lv_at hl 0 rfl) ?_
    refine lv_bipush (v := (-2 : Int32)) F.1 F.2.1 (dd D_X8_overs 18 rfl) kb_m2 ?_
    obtain ⟨r1, e2, h⟩ := Option.bind_eq_some_iff.mp h
    refine rwe_all (st' := [.int r1.1]) hD hS hA (rV (rest := []) F (c_X8_refuse D cA ax s n (-2 : Int32) r1 e2 l H.size) lk_X8_64 (Nat.le_of_ble_eq_true rfl) (preRW hK hS hAb hP hD) (rcv_8 hK hP (q0 := (0)) (xp_0 cA ax s)) rfl hl rfl (Nat.le_of_ble_eq_true rfl) (dd D_X8_overs 19 rfl) ⟨Nat.le_of_ble_eq_true rfl, Nat.le_of_ble_eq_true rfl⟩) rfl (fun H locs hP hD hS => ?_)
    obtain rfl := Option.some.inj h
    exact rw_i (R := rmOf 6 1 5) F hP hD hS hr hlk ⟨Nat.le_of_ble_eq_true rfl, Nat.le_of_ble_eq_true rfl⟩ ⟨rfl, rfl⟩ (dd D_X8_overs 20 rfl)
  · refine lv_iload_n F.1 F.2.1 (dd D_X8_overs 4 rfl) rfl (lv_at hl 3 rfl) ?_
    refine lv_iconst (v := (0 : Int32)) F.1 F.2.1 (dd D_X8_overs 5 rfl) ki_0 ?_
    refine lv_aload_n F.1 F.2.1 (dd D_X8_overs 6 rfl) rfl (lv_at hl 0 rfl) ?_
    refine getF F hK hP lf_X8_10 (0) (xp_0 cA ax s) rfl (dd D_X8_overs 7 rfl) ?_
    refine getF F hK hP lf_X8_147 (1) (xp_1 cA ax s) rfl (dd D_X8_overs 8 rfl) ?_
    refine ro_go (st' := [.int (F_X1_count (st_hill (x_now s))), .int (0 : Int32), .int p3]) (rV (rest := [.int (0 : Int32), .int p3]) F (c_X1_count D cA (fun i => ax (2+i)) (st_hill (x_now s)) l) lk_X8_160 (Nat.le_of_ble_eq_true rfl) (preRO hK hS hAb (pg_x_2 hP)) (rcv_1 hK hP (q0 := (2)) (xp_2 cA ax s)) rfl hl rfl (Nat.le_of_ble_eq_true rfl) (dd D_X8_overs 9 rfl) ⟨Nat.le_of_ble_eq_true rfl, Nat.le_of_ble_eq_true rfl⟩) rfl ?_
    refine lv_iconst (v := (1 : Int32)) F.1 F.2.1 (dd D_X8_overs 10 rfl) ki_1 ?_
    refine lv_isub F.1 F.2.1 (dd D_X8_overs 11 rfl) ?_
    refine ro_go (st' := [.int (bI (F_X8_isIn p3 (0 : Int32) ((F_X1_count (st_hill (x_now s))) - (1 : Int32))))]) (rS (rest := []) F (c_X8_isIn D cA p3 (0 : Int32) ((F_X1_count (st_hill (x_now s))) - (1 : Int32)) l) lk_X8_60 (Nat.le_of_ble_eq_true rfl) (preRO hK hS hAb (emP)) rfl hl rfl (Nat.le_of_ble_eq_true rfl) (dd D_X8_overs 12 rfl) ⟨Nat.le_of_ble_eq_true rfl, Nat.le_of_ble_eq_true rfl⟩) rfl ?_
    refine x_bif_eq (tgt := 34) F.1 F.2.1 (dd D_X8_overs 13 rfl) rfl h (fun c13 h => ?_) (fun c13 h => ?_)
    · refine lv_aload_n F.1 F.2.1 (dd D_X8_overs 17 rfl) rfl (lv_at hl 0 rfl) ?_
      refine lv_bipush (v := (-2 : Int32)) F.1 F.2.1 (dd D_X8_overs 18 rfl) kb_m2 ?_
      obtain ⟨r3, e4, h⟩ := Option.bind_eq_some_iff.mp h
      refine rwe_all (st' := [.int r3.1]) hD hS hA (rV (rest := []) F (c_X8_refuse D cA ax s n (-2 : Int32) r3 e4 l H.size) lk_X8_64 (Nat.le_of_ble_eq_true rfl) (preRW hK hS hAb hP hD) (rcv_8 hK hP (q0 := (0)) (xp_0 cA ax s)) rfl hl rfl (Nat.le_of_ble_eq_true rfl) (dd D_X8_overs 19 rfl) ⟨Nat.le_of_ble_eq_true rfl, Nat.le_of_ble_eq_true rfl⟩) rfl (fun H locs hP hD hS => ?_)
      obtain rfl := Option.some.inj h
      exact rw_i (R := rmOf 6 1 5) F hP hD hS hr hlk ⟨Nat.le_of_ble_eq_true rfl, Nat.le_of_ble_eq_true rfl⟩ ⟨rfl, rfl⟩ (dd D_X8_overs 20 rfl)
    · refine lv_iload F.1 F.2.1 (dd D_X8_overs 14 rfl) (lv_at hl 4 rfl) ?_
      refine lv_iconst (v := (-1 : Int32)) F.1 F.2.1 (dd D_X8_overs 15 rfl) ki_m1 ?_
      refine x_icmp_ge (tgt := 41) F.1 F.2.1 (dd D_X8_overs 16 rfl) rfl h (fun c5 h => ?_) (fun c5 h => ?_)
      · refine lv_aload_n F.1 F.2.1 (dd D_X8_overs 21 rfl) rfl (lv_at hl 0 rfl) ?_
        refine lv_aload_n F.1 F.2.1 (dd D_X8_overs 22 rfl) rfl (lv_at hl 0 rfl) ?_
        refine getF F hK hP lf_X8_27 (0) (xp_0 cA ax s) rfl (dd D_X8_overs 23 rfl) ?_
        refine lv_iload_n F.1 F.2.1 (dd D_X8_overs 24 rfl) rfl (lv_at hl 1 rfl) ?_
        refine lv_iload_n F.1 F.2.1 (dd D_X8_overs 25 rfl) rfl (lv_at hl 2 rfl) ?_
        refine lv_iload F.1 F.2.1 (dd D_X8_overs 26 rfl) (lv_at hl 4 rfl) ?_
        refine newO F hK hP hD hS hA ln_X8_132 (Nat.le_of_ble_eq_true rfl) (Nat.le_of_ble_eq_true rfl) (dd D_X8_overs 27 rfl) (fun q6 H hP hD hS => ?_)
        refine lv_dup F.1 F.2.1 (dd D_X8_overs 28 rfl) rfl ?_
        refine lv_bipush (v := (8 : Int32)) F.1 F.2.1 (dd D_X8_overs 29 rfl) kb_8 ?_
        refine lv_iload_n F.1 F.2.1 (dd D_X8_overs 30 rfl) rfl (lv_at hl 3 rfl) ?_
        refine lv_iconst (v := (0 : Int32)) F.1 F.2.1 (dd D_X8_overs 31 rfl) ki_0 ?_
        refine lv_iconst (v := (0 : Int32)) F.1 F.2.1 (dd D_X8_overs 32 rfl) ki_0 ?_
        refine rwe (V := none) (wc := [(q6, .inr (4, [.int (0 : Int32), .int (0 : Int32), .int (0 : Int32), .int (0 : Int32), .null]))]) (wc' := [(q6, .inr (4, [.int (8 : Int32), .int p3, .int (0 : Int32), .int (0 : Int32), .null]))]) (st' := [.ref (q6), .int p4, .int p2, .int p1, .ref (ax 40), .ref (ax 0)]) (W' := (xW cA ax s) ++ [(q6, .inr (4, [.int (8 : Int32), .int p3, .int (0 : Int32), .int (0 : Int32), .null]))]) hP hD hS hA [63] (jc_last (xp_len cA ax s)) (Nat_nd rfl) rfl (rI (rest := [.ref (q6), .int p4, .int p2, .int p1, .ref (ax 40), .ref (ax 0)]) F (c_X4_init__ D cA q6 (8 : Int32) p3 (0 : Int32) (0 : Int32) l H.size) lk_X8_263 (Nat.le_of_ble_eq_true rfl) (preRW hK hS hAb (selP hP (jc_last (xp_len cA ax s))) (selD hD (Nat_nd rfl) (jc_last (xp_len cA ax s)))) rfl hl rfl (Nat.le_of_ble_eq_true rfl) (dd D_X8_overs 33 rfl) ⟨Nat.le_of_ble_eq_true rfl, Nat.le_of_ble_eq_true rfl⟩) (js_last (xp_len cA ax s)) rfl (fun H locs hP hD hS => ?_)
        obtain ⟨r7, e8, h⟩ := Option.bind_eq_some_iff.mp h
        refine ro_go (st' := [.int r7, .ref (ax 0)]) (rV (rest := [.ref (ax 0)]) F (c_X2_pick D cA ax s q6 (8 : Int32) p3 (0 : Int32) (0 : Int32) none n p1 p2 p4 r7 e8 l) lk_X8_256 (Nat.le_of_ble_eq_true rfl) (preRO hK hS hAb hP) (rcv_2 hK hP (q0 := (40)) (gL (xp_40 cA ax s))) rfl hl rfl (Nat.le_of_ble_eq_true rfl) (dd D_X8_overs 34 rfl) ⟨Nat.le_of_ble_eq_true rfl, Nat.le_of_ble_eq_true rfl⟩) rfl ?_
        obtain ⟨r9, e10, h⟩ := Option.bind_eq_some_iff.mp h
        have hP := preP hP
        have hD := preD hD
        refine rwe_all (st' := [.int r9.1]) hD hS hA (rV (rest := []) F (c_X8_orStuck D cA ax s n r7 r9 e10 l H.size) lk_X8_266 (Nat.le_of_ble_eq_true rfl) (preRW hK hS hAb hP hD) (rcv_8 hK hP (q0 := (0)) (gL (xp_0 cA ax s))) rfl hl rfl (Nat.le_of_ble_eq_true rfl) (dd D_X8_overs 35 rfl) ⟨Nat.le_of_ble_eq_true rfl, Nat.le_of_ble_eq_true rfl⟩) rfl (fun H locs hP hD hS => ?_)
        obtain rfl := Option.some.inj h
        exact rw_i (R := rmOf 6 1 5) F hP hD hS hr hlk ⟨Nat.le_of_ble_eq_true rfl, Nat.le_of_ble_eq_true rfl⟩ ⟨rfl, rfl⟩ (dd D_X8_overs 36 rfl)
      · refine lv_aload_n F.1 F.2.1 (dd D_X8_overs 17 rfl) rfl (lv_at hl 0 rfl) ?_
        refine lv_bipush (v := (-2 : Int32)) F.1 F.2.1 (dd D_X8_overs 18 rfl) kb_m2 ?_
        obtain ⟨r11, e12, h⟩ := Option.bind_eq_some_iff.mp h
        refine rwe_all (st' := [.int r11.1]) hD hS hA (rV (rest := []) F (c_X8_refuse D cA ax s n (-2 : Int32) r11 e12 l H.size) lk_X8_64 (Nat.le_of_ble_eq_true rfl) (preRW hK hS hAb hP hD) (rcv_8 hK hP (q0 := (0)) (xp_0 cA ax s)) rfl hl rfl (Nat.le_of_ble_eq_true rfl) (dd D_X8_overs 19 rfl) ⟨Nat.le_of_ble_eq_true rfl, Nat.le_of_ble_eq_true rfl⟩) rfl (fun H locs hP hD hS => ?_)
        obtain rfl := Option.some.inj h
        exact rw_i (R := rmOf 6 1 5) F hP hD hS hr hlk ⟨Nat.le_of_ble_eq_true rfl, Nat.le_of_ble_eq_true rfl⟩ ⟨rfl, rfl⟩ (dd D_X8_overs 20 rfl)
def F_X8_lates_L65 (n : Nat) (u0 : XS) (v1 : Int32) (v2 : Int32) (v3 : Int32) (v4 : Int32) : Nat → Int32 → Int32 → Int32 → Int32 → Option (Int32 × XS)
  | 0, _, _, _, _ => none
  | kf + 1, w5, w6, w7, w8 => (if v4 < w8 then (if v3 = 0 then some (w5, u0) else (if v3 = (1 : Int32) then some (w6, u0) else some (w7, u0))) else (((F_X2_laterOf n u0 w8)).bind fun r7 => F_X8_lates_L65 n u0 v1 v2 v3 v4 kf (F_J9_min_7cf53 w5 r7) (F_J9_max_7cf53 w6 r7) (w7 + r7) (w8 + (1 : Int32))))
def F_X8_lates (n : Nat) (s : XS) (p1 : Int32) (p2 : Int32) (p3 : Int32) : Option (Int32 × XS) := bf (F_X8_areDays p1 p2) (bf (F_X8_isIn p3 (0 : Int32) (2 : Int32)) ((if p1 = (9999 : Int32) then (((F_X8_refuse n s (-5 : Int32))).bind fun r15 => some (r15.1, r15.2)) else F_X8_lates_L65 n s p1 p2 p3 (F_J9_min_7cf53 (F_X2_lastOf p1 p2) (9998 : Int32)) n (1439 : Int32) (0 : Int32) (0 : Int32) p1)) ((((F_X8_refuse n s (-2 : Int32))).bind fun r17 => some (r17.1, r17.2)))) ((((F_X8_refuse n s (-2 : Int32))).bind fun r1 => some (r1.1, r1.2)))
set_option maxHeartbeats 4000000 in
set_option maxRecDepth 100000 in
theorem c_X8_lates (D : va_G) (cA : Nat → ClassId) (ax : Nat → Nat) (s : XS) (n : Nat) (p1 : Int32) (p2 : Int32) (p3 : Int32) (r : (Int32 × XS)) (h : F_X8_lates n s p1 p2 p3 = some r) : RW m_X8_lates 4 0 0 D cA [.ref (ax 0), .int p1, .int p2, .int p3] (xW cA ax s) (exq (some (.int r.1)) (xW cA ax r.2)) := by
  refine RW.ofW gy_X8_lates.2.2 (Nat.le_of_ble_eq_true rfl) ?_
  intro l p e sM m below meth c A H locs F hr hlk hnm hK hP hD hS hA hAb ls hl
  have hl : lv_has ls 10 [(0, .ref (ax 0)), (1, .int p1), (2, .int p2), (3, .int p3)] := hl
  unfold F_X8_lates at h
  refine lv_iload_n F.1 F.2.1 (dd D_X8_lates 0 rfl) rfl (lv_at hl 1 rfl) ?_
  refine lv_iload_n F.1 F.2.1 (dd D_X8_lates 1 rfl) rfl (lv_at hl 2 rfl) ?_
  refine ro_go (st' := [.int (bI (F_X8_areDays p1 p2))]) (rS (rest := []) F (c_X8_areDays D cA p1 p2 l) lk_X8_260 (Nat.le_of_ble_eq_true rfl) (preRO hK hS hAb (emP)) rfl hl rfl (Nat.le_of_ble_eq_true rfl) (dd D_X8_lates 2 rfl) ⟨Nat.le_of_ble_eq_true rfl, Nat.le_of_ble_eq_true rfl⟩) rfl ?_
  refine x_bif_eq (tgt := 17) F.1 F.2.1 (dd D_X8_lates 3 rfl) rfl h (fun c20 h => ?_) (fun c20 h => ?_)
  · refine lv_aload_n F.1 F.2.1 (dd D_X8_lates 9 rfl) rfl (lv_at hl 0 rfl) ?_
    refine lv_bipush (v := (-2 : Int32)) F.1 F.2.1 (dd D_X8_lates 10 rfl) kb_m2 ?_
    obtain ⟨r1, e2, h⟩ := Option.bind_eq_some_iff.mp h
    refine rwe_all (st' := [.int r1.1]) hD hS hA (rV (rest := []) F (c_X8_refuse D cA ax s n (-2 : Int32) r1 e2 l H.size) lk_X8_64 (Nat.le_of_ble_eq_true rfl) (preRW hK hS hAb hP hD) (rcv_8 hK hP (q0 := (0)) (xp_0 cA ax s)) rfl hl rfl (Nat.le_of_ble_eq_true rfl) (dd D_X8_lates 11 rfl) ⟨Nat.le_of_ble_eq_true rfl, Nat.le_of_ble_eq_true rfl⟩) rfl (fun H locs hP hD hS => ?_)
    obtain rfl := Option.some.inj h
    exact rw_i (R := rmOf 4 0 0) F hP hD hS hr hlk ⟨Nat.le_of_ble_eq_true rfl, Nat.le_of_ble_eq_true rfl⟩ ⟨rfl, rfl⟩ (dd D_X8_lates 12 rfl)
  · refine lv_iload_n F.1 F.2.1 (dd D_X8_lates 4 rfl) rfl (lv_at hl 3 rfl) ?_
    refine lv_iconst (v := (0 : Int32)) F.1 F.2.1 (dd D_X8_lates 5 rfl) ki_0 ?_
    refine lv_iconst (v := (2 : Int32)) F.1 F.2.1 (dd D_X8_lates 6 rfl) ki_2 ?_
    refine ro_go (st' := [.int (bI (F_X8_isIn p3 (0 : Int32) (2 : Int32)))]) (rS (rest := []) F (c_X8_isIn D cA p3 (0 : Int32) (2 : Int32) l) lk_X8_60 (Nat.le_of_ble_eq_true rfl) (preRO hK hS hAb (emP)) rfl hl rfl (Nat.le_of_ble_eq_true rfl) (dd D_X8_lates 7 rfl) ⟨Nat.le_of_ble_eq_true rfl, Nat.le_of_ble_eq_true rfl⟩) rfl ?_
    refine x_bif_ne (tgt := 24) F.1 F.2.1 (dd D_X8_lates 8 rfl) rfl h (fun c19 h => ?_) (fun c19 h => ?_)
    · refine lv_iload_n F.1 F.2.1 (dd D_X8_lates 13 rfl) rfl (lv_at hl 1 rfl) ?_
      refine lv_sipush (v := (9999 : Int32)) F.1 F.2.1 (dd D_X8_lates 14 rfl) ks_9999 ?_
      refine x_icmp_ne (tgt := 38) F.1 F.2.1 (dd D_X8_lates 15 rfl) rfl h (fun c3 h => ?_) (fun c3 h => ?_)
      · refine lv_iload_n F.1 F.2.1 (dd D_X8_lates 20 rfl) rfl (lv_at hl 1 rfl) ?_
        refine lv_iload_n F.1 F.2.1 (dd D_X8_lates 21 rfl) rfl (lv_at hl 2 rfl) ?_
        refine ro_go (st' := [.int (F_X2_lastOf p1 p2)]) (rS (rest := []) F (c_X2_lastOf D cA p1 p2 l) lk_X8_272 (Nat.le_of_ble_eq_true rfl) (preRO hK hS hAb (emP)) rfl hl rfl (Nat.le_of_ble_eq_true rfl) (dd D_X8_lates 22 rfl) ⟨Nat.le_of_ble_eq_true rfl, Nat.le_of_ble_eq_true rfl⟩) rfl ?_
        refine lv_sipush (v := (9998 : Int32)) F.1 F.2.1 (dd D_X8_lates 23 rfl) ks_9998 ?_
        refine ro_go (st' := [.int (F_J9_min_7cf53 (F_X2_lastOf p1 p2) (9998 : Int32))]) (rS (rest := []) F (c_J9_min_7cf53 D cA (F_X2_lastOf p1 p2) (9998 : Int32) l) lk_X8_275 (Nat.le_of_ble_eq_true rfl) (preRO hK hS hAb (emP)) rfl hl rfl (Nat.le_of_ble_eq_true rfl) (dd D_X8_lates 24 rfl) ⟨Nat.le_of_ble_eq_true rfl, Nat.le_of_ble_eq_true rfl⟩) rfl ?_
        refine lv_istore (lv' := [(4, .int (F_J9_min_7cf53 (F_X2_lastOf p1 p2) (9998 : Int32))), (0, .ref (ax 0)), (1, .int p1), (2, .int p2), (3, .int p3)]) F.1 F.2.1 (dd D_X8_lates 25 rfl) hl (Nat.le_of_ble_eq_true rfl) rfl (fun ls hl => ?_)
        refine lv_sipush (v := (1439 : Int32)) F.1 F.2.1 (dd D_X8_lates 26 rfl) ks_1439 ?_
        refine lv_istore (lv' := [(5, .int (1439 : Int32)), (4, .int (F_J9_min_7cf53 (F_X2_lastOf p1 p2) (9998 : Int32))), (0, .ref (ax 0)), (1, .int p1), (2, .int p2), (3, .int p3)]) F.1 F.2.1 (dd D_X8_lates 27 rfl) hl (Nat.le_of_ble_eq_true rfl) rfl (fun ls hl => ?_)
        refine lv_iconst (v := (0 : Int32)) F.1 F.2.1 (dd D_X8_lates 28 rfl) ki_0 ?_
        refine lv_istore (lv' := [(6, .int (0 : Int32)), (5, .int (1439 : Int32)), (4, .int (F_J9_min_7cf53 (F_X2_lastOf p1 p2) (9998 : Int32))), (0, .ref (ax 0)), (1, .int p1), (2, .int p2), (3, .int p3)]) F.1 F.2.1 (dd D_X8_lates 29 rfl) hl (Nat.le_of_ble_eq_true rfl) rfl (fun ls hl => ?_)
        refine lv_iconst (v := (0 : Int32)) F.1 F.2.1 (dd D_X8_lates 30 rfl) ki_0 ?_
        refine lv_istore (lv' := [(7, .int (0 : Int32)), (6, .int (0 : Int32)), (5, .int (1439 : Int32)), (4, .int (F_J9_min_7cf53 (F_X2_lastOf p1 p2) (9998 : Int32))), (0, .ref (ax 0)), (1, .int p1), (2, .int p2), (3, .int p3)]) F.1 F.2.1 (dd D_X8_lates 31 rfl) hl (Nat.le_of_ble_eq_true rfl) rfl (fun ls hl => ?_)
        refine lv_iload_n F.1 F.2.1 (dd D_X8_lates 32 rfl) rfl (lv_at hl 5 rfl) ?_
        refine lv_istore (lv' := [(8, .int p1), (7, .int (0 : Int32)), (6, .int (0 : Int32)), (5, .int (1439 : Int32)), (4, .int (F_J9_min_7cf53 (F_X2_lastOf p1 p2) (9998 : Int32))), (0, .ref (ax 0)), (1, .int p1), (2, .int p2), (3, .int p3)]) F.1 F.2.1 (dd D_X8_lates 33 rfl) hl (Nat.le_of_ble_eq_true rfl) rfl (fun ls hl => ?_)
        have L9 : ∀ (kf : Nat) (w5_L9 : Int32) (w6_L9 : Int32) (w7_L9 : Int32) (w8_L9 : Int32) (H : Heap) (locs : List Loc) (ls : Array Slot), va_P D vwCl (xW cA ax s) H → va_D A (xW cA ax s) → va_S A sM.heap H locs → lv_has ls 10 [(0, .ref (ax 0)), (1, .int p1), (2, .int p2), (3, .int p3), (4, .int (F_J9_min_7cf53 (F_X2_lastOf p1 p2) (9998 : Int32))), (5, .int w5_L9), (6, .int w6_L9), (7, .int w7_L9), (8, .int w8_L9)] → F_X8_lates_L65 n s p1 p2 p3 (F_J9_min_7cf53 (F_X2_lastOf p1 p2) (9998 : Int32)) kf w5_L9 w6_L9 w7_L9 w8_L9 = some r → Wrw 4 0 0 D A (exq (some (.int r.1)) (xW cA ax r.2)) p l e sM m ([.ref (ax 0), .int p1, .int p2, .int p3] : List Value).toArray below meth c H locs 0 0 65 ls [] := by
          intro kf
          induction kf with
          | zero =>
            intro w5_L9 w6_L9 w7_L9 w8_L9 H locs ls hP hD hS hl h
            cases (show none = some r from h)
          | succ k_L9 ih_L9 =>
            intro w5_L9 w6_L9 w7_L9 w8_L9 H locs ls hP hD hS hl h
            unfold F_X8_lates_L65 at h
            refine lv_iload F.1 F.2.1 (dd D_X8_lates 34 rfl) (lv_at hl 8 rfl) ?_
            refine lv_iload F.1 F.2.1 (dd D_X8_lates 35 rfl) (lv_at hl 4 rfl) ?_
            refine x_icmp_gt (tgt := 114) F.1 F.2.1 (dd D_X8_lates 36 rfl) rfl h (fun c10 h => ?_) (fun c10 h => ?_)
            · refine lv_iload_n F.1 F.2.1 (dd D_X8_lates 56 rfl) rfl (lv_at hl 3 rfl) ?_
              refine x_if_ne (tgt := 121) F.1 F.2.1 (dd D_X8_lates 57 rfl) rfl h (fun c11 h => ?_) (fun c11 h => ?_)
              · refine lv_iload_n F.1 F.2.1 (dd D_X8_lates 60 rfl) rfl (lv_at hl 3 rfl) ?_
                refine lv_iconst (v := (1 : Int32)) F.1 F.2.1 (dd D_X8_lates 61 rfl) ki_1 ?_
                refine x_icmp_ne (tgt := 131) F.1 F.2.1 (dd D_X8_lates 62 rfl) rfl h (fun c12 h => ?_) (fun c12 h => ?_)
                · refine lv_iload F.1 F.2.1 (dd D_X8_lates 65 rfl) (lv_at hl 7 rfl) ?_
                  obtain rfl := Option.some.inj h
                  exact rw_i (R := rmOf 4 0 0) F hP hD hS hr hlk ⟨Nat.le_of_ble_eq_true rfl, Nat.le_of_ble_eq_true rfl⟩ ⟨rfl, rfl⟩ (dd D_X8_lates 66 rfl)
                · refine lv_iload F.1 F.2.1 (dd D_X8_lates 63 rfl) (lv_at hl 6 rfl) ?_
                  refine lv_goto (tgt := 133) F.1 F.2.1 (dd D_X8_lates 64 rfl) rfl ?_
                  obtain rfl := Option.some.inj h
                  exact rw_i (R := rmOf 4 0 0) F hP hD hS hr hlk ⟨Nat.le_of_ble_eq_true rfl, Nat.le_of_ble_eq_true rfl⟩ ⟨rfl, rfl⟩ (dd D_X8_lates 66 rfl)
              · refine lv_iload F.1 F.2.1 (dd D_X8_lates 58 rfl) (lv_at hl 5 rfl) ?_
                obtain rfl := Option.some.inj h
                exact rw_i (R := rmOf 4 0 0) F hP hD hS hr hlk ⟨Nat.le_of_ble_eq_true rfl, Nat.le_of_ble_eq_true rfl⟩ ⟨rfl, rfl⟩ (dd D_X8_lates 59 rfl)
            · refine lv_aload_n F.1 F.2.1 (dd D_X8_lates 37 rfl) rfl (lv_at hl 0 rfl) ?_
              refine getF F hK hP lf_X8_27 (0) (xp_0 cA ax s) rfl (dd D_X8_lates 38 rfl) ?_
              refine lv_iload F.1 F.2.1 (dd D_X8_lates 39 rfl) (lv_at hl 8 rfl) ?_
              obtain ⟨r13, e14, h⟩ := Option.bind_eq_some_iff.mp h
              refine ro_go (st' := [.int r13]) (rV (rest := []) F (c_X2_laterOf D cA ax s n w8_L9 r13 e14 l) lk_X8_231 (Nat.le_of_ble_eq_true rfl) (preRO hK hS hAb hP) (rcv_2 hK hP (q0 := (40)) (xp_40 cA ax s)) rfl hl rfl (Nat.le_of_ble_eq_true rfl) (dd D_X8_lates 40 rfl) ⟨Nat.le_of_ble_eq_true rfl, Nat.le_of_ble_eq_true rfl⟩) rfl ?_
              refine lv_istore (lv' := [(9, .int r13), (0, .ref (ax 0)), (1, .int p1), (2, .int p2), (3, .int p3), (4, .int (F_J9_min_7cf53 (F_X2_lastOf p1 p2) (9998 : Int32))), (5, .int w5_L9), (6, .int w6_L9), (7, .int w7_L9), (8, .int w8_L9)]) F.1 F.2.1 (dd D_X8_lates 41 rfl) hl (Nat.le_of_ble_eq_true rfl) rfl (fun ls hl => ?_)
              refine lv_iload F.1 F.2.1 (dd D_X8_lates 42 rfl) (lv_at hl 6 rfl) ?_
              refine lv_iload F.1 F.2.1 (dd D_X8_lates 43 rfl) (lv_at hl 0 rfl) ?_
              refine ro_go (st' := [.int (F_J9_min_7cf53 w5_L9 r13)]) (rS (rest := []) F (c_J9_min_7cf53 D cA w5_L9 r13 l) lk_X8_275 (Nat.le_of_ble_eq_true rfl) (preRO hK hS hAb (emP)) rfl hl rfl (Nat.le_of_ble_eq_true rfl) (dd D_X8_lates 44 rfl) ⟨Nat.le_of_ble_eq_true rfl, Nat.le_of_ble_eq_true rfl⟩) rfl ?_
              refine lv_istore (lv' := [(5, .int (F_J9_min_7cf53 w5_L9 r13)), (9, .int r13), (0, .ref (ax 0)), (1, .int p1), (2, .int p2), (3, .int p3), (4, .int (F_J9_min_7cf53 (F_X2_lastOf p1 p2) (9998 : Int32))), (6, .int w6_L9), (7, .int w7_L9), (8, .int w8_L9)]) F.1 F.2.1 (dd D_X8_lates 45 rfl) hl (Nat.le_of_ble_eq_true rfl) rfl (fun ls hl => ?_)
              refine lv_iload F.1 F.2.1 (dd D_X8_lates 46 rfl) (lv_at hl 7 rfl) ?_
              refine lv_iload F.1 F.2.1 (dd D_X8_lates 47 rfl) (lv_at hl 1 rfl) ?_
              refine ro_go (st' := [.int (F_J9_max_7cf53 w6_L9 r13)]) (rS (rest := []) F (c_J9_max_7cf53 D cA w6_L9 r13 l) lk_X8_280 (Nat.le_of_ble_eq_true rfl) (preRO hK hS hAb (emP)) rfl hl rfl (Nat.le_of_ble_eq_true rfl) (dd D_X8_lates 48 rfl) ⟨Nat.le_of_ble_eq_true rfl, Nat.le_of_ble_eq_true rfl⟩) rfl ?_
              refine lv_istore (lv' := [(6, .int (F_J9_max_7cf53 w6_L9 r13)), (5, .int (F_J9_min_7cf53 w5_L9 r13)), (9, .int r13), (0, .ref (ax 0)), (1, .int p1), (2, .int p2), (3, .int p3), (4, .int (F_J9_min_7cf53 (F_X2_lastOf p1 p2) (9998 : Int32))), (7, .int w7_L9), (8, .int w8_L9)]) F.1 F.2.1 (dd D_X8_lates 49 rfl) hl (Nat.le_of_ble_eq_true rfl) rfl (fun ls hl => ?_)
              refine lv_iload F.1 F.2.1 (dd D_X8_lates 50 rfl) (lv_at hl 8 rfl) ?_
              refine lv_iload F.1 F.2.1 (dd D_X8_lates 51 rfl) (lv_at hl 2 rfl) ?_
              refine lv_iadd F.1 F.2.1 (dd D_X8_lates 52 rfl) ?_
              refine lv_istore (lv' := [(7, .int (w7_L9 + r13)), (6, .int (F_J9_max_7cf53 w6_L9 r13)), (5, .int (F_J9_min_7cf53 w5_L9 r13)), (9, .int r13), (0, .ref (ax 0)), (1, .int p1), (2, .int p2), (3, .int p3), (4, .int (F_J9_min_7cf53 (F_X2_lastOf p1 p2) (9998 : Int32))), (8, .int w8_L9)]) F.1 F.2.1 (dd D_X8_lates 53 rfl) hl (Nat.le_of_ble_eq_true rfl) rfl (fun ls hl => ?_)
              refine lv_iinc (v := (w8_L9 + (1 : Int32))) (lv' := [(8, .int (w8_L9 + (1 : Int32))), (7, .int (w7_L9 + r13)), (6, .int (F_J9_max_7cf53 w6_L9 r13)), (5, .int (F_J9_min_7cf53 w5_L9 r13)), (9, .int r13), (0, .ref (ax 0)), (1, .int p1), (2, .int p2), (3, .int p3), (4, .int (F_J9_min_7cf53 (F_X2_lastOf p1 p2) (9998 : Int32)))]) F.1 F.2.1 (dd D_X8_lates 54 rfl) hl (k := 9) rfl (congrArg (fun z => w8_L9 + z) ki_1) (Nat.le_of_ble_eq_true rfl) rfl (fun ls hl => ?_)
              refine lv_goto (tgt := 65) F.1 F.2.1 (dd D_X8_lates 55 rfl) rfl ?_
              exact ih_L9 (F_J9_min_7cf53 w5_L9 r13) (F_J9_max_7cf53 w6_L9 r13) (w7_L9 + r13) (w8_L9 + (1 : Int32)) _ _ ls hP hD hS (lv_sub hl [5, 6, 7, 8, 9, 3, 2, 1, 0] rfl) h
        exact L9 n (1439 : Int32) (0 : Int32) (0 : Int32) p1 _ _ ls hP hD hS (lv_sub hl [5, 6, 7, 8, 4, 3, 2, 1, 0] rfl) h
      · refine lv_aload_n F.1 F.2.1 (dd D_X8_lates 16 rfl) rfl (lv_at hl 0 rfl) ?_
        refine lv_bipush (v := (-5 : Int32)) F.1 F.2.1 (dd D_X8_lates 17 rfl) kb_m5 ?_
        obtain ⟨r15, e16, h⟩ := Option.bind_eq_some_iff.mp h
        refine rwe_all (st' := [.int r15.1]) hD hS hA (rV (rest := []) F (c_X8_refuse D cA ax s n (-5 : Int32) r15 e16 l H.size) lk_X8_64 (Nat.le_of_ble_eq_true rfl) (preRW hK hS hAb hP hD) (rcv_8 hK hP (q0 := (0)) (xp_0 cA ax s)) rfl hl rfl (Nat.le_of_ble_eq_true rfl) (dd D_X8_lates 18 rfl) ⟨Nat.le_of_ble_eq_true rfl, Nat.le_of_ble_eq_true rfl⟩) rfl (fun H locs hP hD hS => ?_)
        obtain rfl := Option.some.inj h
        exact rw_i (R := rmOf 4 0 0) F hP hD hS hr hlk ⟨Nat.le_of_ble_eq_true rfl, Nat.le_of_ble_eq_true rfl⟩ ⟨rfl, rfl⟩ (dd D_X8_lates 19 rfl)
    · refine lv_aload_n F.1 F.2.1 (dd D_X8_lates 9 rfl) rfl (lv_at hl 0 rfl) ?_
      refine lv_bipush (v := (-2 : Int32)) F.1 F.2.1 (dd D_X8_lates 10 rfl) kb_m2 ?_
      obtain ⟨r17, e18, h⟩ := Option.bind_eq_some_iff.mp h
      refine rwe_all (st' := [.int r17.1]) hD hS hA (rV (rest := []) F (c_X8_refuse D cA ax s n (-2 : Int32) r17 e18 l H.size) lk_X8_64 (Nat.le_of_ble_eq_true rfl) (preRW hK hS hAb hP hD) (rcv_8 hK hP (q0 := (0)) (xp_0 cA ax s)) rfl hl rfl (Nat.le_of_ble_eq_true rfl) (dd D_X8_lates 11 rfl) ⟨Nat.le_of_ble_eq_true rfl, Nat.le_of_ble_eq_true rfl⟩) rfl (fun H locs hP hD hS => ?_)
      obtain rfl := Option.some.inj h
      exact rw_i (R := rmOf 4 0 0) F hP hD hS hr hlk ⟨Nat.le_of_ble_eq_true rfl, Nat.le_of_ble_eq_true rfl⟩ ⟨rfl, rfl⟩ (dd D_X8_lates 12 rfl)
def F_X8_date (n : Nat) (s : XS) (p1 : Int32) : Option (Int32 × XS) := bf (F_X8_isDay p1) ((if ((F_X2_ageOf s p1) / (100 : Int32)) ≤ p1 then some ((((F_X2_ageOf s p1) / (100 : Int32)) + (1 : Int32)), s) else (((F_X8_refuse n s (-5 : Int32))).bind fun r2 => some (r2.1, r2.2)))) ((((F_X8_refuse n s (-2 : Int32))).bind fun r4 => some (r4.1, r4.2)))
set_option maxHeartbeats 4000000 in
set_option maxRecDepth 100000 in
theorem c_X8_date (D : va_G) (cA : Nat → ClassId) (ax : Nat → Nat) (s : XS) (n : Nat) (p1 : Int32) (r : (Int32 × XS)) (h : F_X8_date n s p1 = some r) : RW m_X8_date 2 0 0 D cA [.ref (ax 0), .int p1] (xW cA ax s) (exq (some (.int r.1)) (xW cA ax r.2)) := by
  refine RW.ofW gy_X8_date.2.2 (Nat.le_of_ble_eq_true rfl) ?_
  intro l p e sM m below meth c A H locs F hr hlk hnm hK hP hD hS hA hAb ls hl
  have hl : lv_has ls 3 [(0, .ref (ax 0)), (1, .int p1)] := hl
  unfold F_X8_date at h
  refine lv_iload_n F.1 F.2.1 (dd D_X8_date 0 rfl) rfl (lv_at hl 1 rfl) ?_
  refine ro_go (st' := [.int (bI (F_X8_isDay p1))]) (rS (rest := []) F (c_X8_isDay D cA p1 l) lk_X8_113 (Nat.le_of_ble_eq_true rfl) (preRO hK hS hAb (emP)) rfl hl rfl (Nat.le_of_ble_eq_true rfl) (dd D_X8_date 1 rfl) ⟨Nat.le_of_ble_eq_true rfl, Nat.le_of_ble_eq_true rfl⟩) rfl ?_
  refine x_bif_ne (tgt := 14) F.1 F.2.1 (dd D_X8_date 2 rfl) rfl h (fun c6 h => ?_) (fun c6 h => ?_)
  · refine lv_aload_n F.1 F.2.1 (dd D_X8_date 7 rfl) rfl (lv_at hl 0 rfl) ?_
    refine getF F hK hP lf_X8_27 (0) (xp_0 cA ax s) rfl (dd D_X8_date 8 rfl) ?_
    refine lv_iload_n F.1 F.2.1 (dd D_X8_date 9 rfl) rfl (lv_at hl 1 rfl) ?_
    refine ro_go (st' := [.int (F_X2_ageOf s p1)]) (rV (rest := []) F (c_X2_ageOf D cA ax s p1 l) lk_X8_210 (Nat.le_of_ble_eq_true rfl) (preRO hK hS hAb hP) (rcv_2 hK hP (q0 := (40)) (xp_40 cA ax s)) rfl hl rfl (Nat.le_of_ble_eq_true rfl) (dd D_X8_date 10 rfl) ⟨Nat.le_of_ble_eq_true rfl, Nat.le_of_ble_eq_true rfl⟩) rfl ?_
    refine lv_bipush (v := (100 : Int32)) F.1 F.2.1 (dd D_X8_date 11 rfl) kb_100 ?_
    refine lv_idiv F.1 F.2.1 (dd D_X8_date 12 rfl) kd_100 ?_
    refine lv_istore_n (lv' := [(2, .int ((F_X2_ageOf s p1) / (100 : Int32))), (0, .ref (ax 0)), (1, .int p1)]) F.1 F.2.1 (dd D_X8_date 13 rfl) rfl hl (Nat.le_of_ble_eq_true rfl) rfl (fun ls hl => ?_)
    refine lv_iload_n F.1 F.2.1 (dd D_X8_date 14 rfl) rfl (lv_at hl 0 rfl) ?_
    refine lv_iload_n F.1 F.2.1 (dd D_X8_date 15 rfl) rfl (lv_at hl 2 rfl) ?_
    refine x_icmp_le (tgt := 40) F.1 F.2.1 (dd D_X8_date 16 rfl) rfl h (fun c1 h => ?_) (fun c1 h => ?_)
    · refine lv_iload_n F.1 F.2.1 (dd D_X8_date 21 rfl) rfl (lv_at hl 0 rfl) ?_
      refine lv_iconst (v := (1 : Int32)) F.1 F.2.1 (dd D_X8_date 22 rfl) ki_1 ?_
      refine lv_iadd F.1 F.2.1 (dd D_X8_date 23 rfl) ?_
      obtain rfl := Option.some.inj h
      exact rw_i (R := rmOf 2 0 0) F hP hD hS hr hlk ⟨Nat.le_of_ble_eq_true rfl, Nat.le_of_ble_eq_true rfl⟩ ⟨rfl, rfl⟩ (dd D_X8_date 24 rfl)
    · refine lv_aload_n F.1 F.2.1 (dd D_X8_date 17 rfl) rfl (lv_at hl 1 rfl) ?_
      refine lv_bipush (v := (-5 : Int32)) F.1 F.2.1 (dd D_X8_date 18 rfl) kb_m5 ?_
      obtain ⟨r2, e3, h⟩ := Option.bind_eq_some_iff.mp h
      refine rwe_all (st' := [.int r2.1]) hD hS hA (rV (rest := []) F (c_X8_refuse D cA ax s n (-5 : Int32) r2 e3 l H.size) lk_X8_64 (Nat.le_of_ble_eq_true rfl) (preRW hK hS hAb hP hD) (rcv_8 hK hP (q0 := (0)) (xp_0 cA ax s)) rfl hl rfl (Nat.le_of_ble_eq_true rfl) (dd D_X8_date 19 rfl) ⟨Nat.le_of_ble_eq_true rfl, Nat.le_of_ble_eq_true rfl⟩) rfl (fun H locs hP hD hS => ?_)
      refine lv_goto (tgt := 43) F.1 F.2.1 (dd D_X8_date 20 rfl) rfl ?_
      obtain rfl := Option.some.inj h
      exact rw_i (R := rmOf 2 0 0) F hP hD hS hr hlk ⟨Nat.le_of_ble_eq_true rfl, Nat.le_of_ble_eq_true rfl⟩ ⟨rfl, rfl⟩ (dd D_X8_date 24 rfl)
  · refine lv_aload_n F.1 F.2.1 (dd D_X8_date 3 rfl) rfl (lv_at hl 0 rfl) ?_
    refine lv_bipush (v := (-2 : Int32)) F.1 F.2.1 (dd D_X8_date 4 rfl) kb_m2 ?_
    obtain ⟨r4, e5, h⟩ := Option.bind_eq_some_iff.mp h
    refine rwe_all (st' := [.int r4.1]) hD hS hA (rV (rest := []) F (c_X8_refuse D cA ax s n (-2 : Int32) r4 e5 l H.size) lk_X8_64 (Nat.le_of_ble_eq_true rfl) (preRW hK hS hAb hP hD) (rcv_8 hK hP (q0 := (0)) (xp_0 cA ax s)) rfl hl rfl (Nat.le_of_ble_eq_true rfl) (dd D_X8_date 5 rfl) ⟨Nat.le_of_ble_eq_true rfl, Nat.le_of_ble_eq_true rfl⟩) rfl (fun H locs hP hD hS => ?_)
    obtain rfl := Option.some.inj h
    exact rw_i (R := rmOf 2 0 0) F hP hD hS hr hlk ⟨Nat.le_of_ble_eq_true rfl, Nat.le_of_ble_eq_true rfl⟩ ⟨rfl, rfl⟩ (dd D_X8_date 6 rfl)
def F_X8_months (n : Nat) (s : XS) (p1 : Int32) : Option (Int32 × XS) := bf (F_X8_isDay p1) (some ((F_X2_newDaysTill s p1), s)) ((((F_X8_refuse n s (-2 : Int32))).bind fun r1 => some (r1.1, r1.2)))
set_option maxHeartbeats 4000000 in
set_option maxRecDepth 100000 in
theorem c_X8_months (D : va_G) (cA : Nat → ClassId) (ax : Nat → Nat) (s : XS) (n : Nat) (p1 : Int32) (r : (Int32 × XS)) (h : F_X8_months n s p1 = some r) : RW m_X8_months 2 0 0 D cA [.ref (ax 0), .int p1] (xW cA ax s) (exq (some (.int r.1)) (xW cA ax r.2)) := by
  refine RW.ofW gy_X8_months.2.2 (Nat.le_of_ble_eq_true rfl) ?_
  intro l p e sM m below meth c A H locs F hr hlk hnm hK hP hD hS hA hAb ls hl
  have hl : lv_has ls 2 [(0, .ref (ax 0)), (1, .int p1)] := hl
  unfold F_X8_months at h
  refine lv_iload_n F.1 F.2.1 (dd D_X8_months 0 rfl) rfl (lv_at hl 1 rfl) ?_
  refine ro_go (st' := [.int (bI (F_X8_isDay p1))]) (rS (rest := []) F (c_X8_isDay D cA p1 l) lk_X8_113 (Nat.le_of_ble_eq_true rfl) (preRO hK hS hAb (emP)) rfl hl rfl (Nat.le_of_ble_eq_true rfl) (dd D_X8_months 1 rfl) ⟨Nat.le_of_ble_eq_true rfl, Nat.le_of_ble_eq_true rfl⟩) rfl ?_
  refine x_bif_eq (tgt := 18) F.1 F.2.1 (dd D_X8_months 2 rfl) rfl h (fun c3 h => ?_) (fun c3 h => ?_)
  · refine lv_aload_n F.1 F.2.1 (dd D_X8_months 8 rfl) rfl (lv_at hl 0 rfl) ?_
    refine lv_bipush (v := (-2 : Int32)) F.1 F.2.1 (dd D_X8_months 9 rfl) kb_m2 ?_
    obtain ⟨r1, e2, h⟩ := Option.bind_eq_some_iff.mp h
    refine rwe_all (st' := [.int r1.1]) hD hS hA (rV (rest := []) F (c_X8_refuse D cA ax s n (-2 : Int32) r1 e2 l H.size) lk_X8_64 (Nat.le_of_ble_eq_true rfl) (preRW hK hS hAb hP hD) (rcv_8 hK hP (q0 := (0)) (xp_0 cA ax s)) rfl hl rfl (Nat.le_of_ble_eq_true rfl) (dd D_X8_months 10 rfl) ⟨Nat.le_of_ble_eq_true rfl, Nat.le_of_ble_eq_true rfl⟩) rfl (fun H locs hP hD hS => ?_)
    obtain rfl := Option.some.inj h
    exact rw_i (R := rmOf 2 0 0) F hP hD hS hr hlk ⟨Nat.le_of_ble_eq_true rfl, Nat.le_of_ble_eq_true rfl⟩ ⟨rfl, rfl⟩ (dd D_X8_months 11 rfl)
  · refine lv_aload_n F.1 F.2.1 (dd D_X8_months 3 rfl) rfl (lv_at hl 0 rfl) ?_
    refine getF F hK hP lf_X8_27 (0) (xp_0 cA ax s) rfl (dd D_X8_months 4 rfl) ?_
    refine lv_iload_n F.1 F.2.1 (dd D_X8_months 5 rfl) rfl (lv_at hl 1 rfl) ?_
    refine ro_go (st' := [.int (F_X2_newDaysTill s p1)]) (rV (rest := []) F (c_X2_newDaysTill D cA ax s p1 l) lk_X8_283 (Nat.le_of_ble_eq_true rfl) (preRO hK hS hAb hP) (rcv_2 hK hP (q0 := (40)) (xp_40 cA ax s)) rfl hl rfl (Nat.le_of_ble_eq_true rfl) (dd D_X8_months 6 rfl) ⟨Nat.le_of_ble_eq_true rfl, Nat.le_of_ble_eq_true rfl⟩) rfl ?_
    refine lv_goto (tgt := 24) F.1 F.2.1 (dd D_X8_months 7 rfl) rfl ?_
    obtain rfl := Option.some.inj h
    exact rw_i (R := rmOf 2 0 0) F hP hD hS hr hlk ⟨Nat.le_of_ble_eq_true rfl, Nat.le_of_ble_eq_true rfl⟩ ⟨rfl, rfl⟩ (dd D_X8_months 11 rfl)
def F_X8_eclipse (n : Nat) (s : XS) (p1 : Int32) : Option (Int32 × XS) := bf (F_X8_isDay p1) ((((F_X2_pick n s (9 : Int32) (0 : Int32) (0 : Int32) (0 : Int32) none p1 (1000 : Int32) (0 : Int32))).bind fun r4 => some (r4, s))) ((((F_X8_refuse n s (-2 : Int32))).bind fun r1 => some (r1.1, r1.2)))
set_option maxHeartbeats 4000000 in
set_option maxRecDepth 100000 in
theorem c_X8_eclipse (D : va_G) (cA : Nat → ClassId) (ax : Nat → Nat) (s : XS) (n : Nat) (p1 : Int32) (r : (Int32 × XS)) (h : F_X8_eclipse n s p1 = some r) : RW m_X8_eclipse 6 1 5 D cA [.ref (ax 0), .int p1] (xW cA ax s) (exq (some (.int r.1)) (xW cA ax r.2)) := by
  refine RW.ofW gy_X8_eclipse.2.2 (Nat.le_of_ble_eq_true rfl) ?_
  intro l p e sM m below meth c A H locs F hr hlk hnm hK hP hD hS hA hAb ls hl
  have hl : lv_has ls 2 [(0, .ref (ax 0)), (1, .int p1)] := hl
  unfold F_X8_eclipse at h
  refine lv_iload_n F.1 F.2.1 (dd D_X8_eclipse 0 rfl) rfl (lv_at hl 1 rfl) ?_
  refine ro_go (st' := [.int (bI (F_X8_isDay p1))]) (rS (rest := []) F (c_X8_isDay D cA p1 l) lk_X8_113 (Nat.le_of_ble_eq_true rfl) (preRO hK hS hAb (emP)) rfl hl rfl (Nat.le_of_ble_eq_true rfl) (dd D_X8_eclipse 1 rfl) ⟨Nat.le_of_ble_eq_true rfl, Nat.le_of_ble_eq_true rfl⟩) rfl ?_
  refine x_bif_eq (tgt := 31) F.1 F.2.1 (dd D_X8_eclipse 2 rfl) rfl h (fun c6 h => ?_) (fun c6 h => ?_)
  · refine lv_aload_n F.1 F.2.1 (dd D_X8_eclipse 14 rfl) rfl (lv_at hl 0 rfl) ?_
    refine lv_bipush (v := (-2 : Int32)) F.1 F.2.1 (dd D_X8_eclipse 15 rfl) kb_m2 ?_
    obtain ⟨r1, e2, h⟩ := Option.bind_eq_some_iff.mp h
    refine rwe_all (st' := [.int r1.1]) hD hS hA (rV (rest := []) F (c_X8_refuse D cA ax s n (-2 : Int32) r1 e2 l H.size) lk_X8_64 (Nat.le_of_ble_eq_true rfl) (preRW hK hS hAb hP hD) (rcv_8 hK hP (q0 := (0)) (xp_0 cA ax s)) rfl hl rfl (Nat.le_of_ble_eq_true rfl) (dd D_X8_eclipse 16 rfl) ⟨Nat.le_of_ble_eq_true rfl, Nat.le_of_ble_eq_true rfl⟩) rfl (fun H locs hP hD hS => ?_)
    obtain rfl := Option.some.inj h
    exact rw_i (R := rmOf 6 1 5) F hP hD hS hr hlk ⟨Nat.le_of_ble_eq_true rfl, Nat.le_of_ble_eq_true rfl⟩ ⟨rfl, rfl⟩ (dd D_X8_eclipse 17 rfl)
  · refine lv_aload_n F.1 F.2.1 (dd D_X8_eclipse 3 rfl) rfl (lv_at hl 0 rfl) ?_
    refine getF F hK hP lf_X8_27 (0) (xp_0 cA ax s) rfl (dd D_X8_eclipse 4 rfl) ?_
    refine lv_iload_n F.1 F.2.1 (dd D_X8_eclipse 5 rfl) rfl (lv_at hl 1 rfl) ?_
    refine lv_sipush (v := (1000 : Int32)) F.1 F.2.1 (dd D_X8_eclipse 6 rfl) ks_1000 ?_
    refine lv_iconst (v := (0 : Int32)) F.1 F.2.1 (dd D_X8_eclipse 7 rfl) ki_0 ?_
    refine newO F hK hP hD hS hA ln_X8_132 (Nat.le_of_ble_eq_true rfl) (Nat.le_of_ble_eq_true rfl) (dd D_X8_eclipse 8 rfl) (fun q3 H hP hD hS => ?_)
    refine lv_dup F.1 F.2.1 (dd D_X8_eclipse 9 rfl) rfl ?_
    refine lv_bipush (v := (9 : Int32)) F.1 F.2.1 (dd D_X8_eclipse 10 rfl) kb_9 ?_
    refine rwe (V := none) (wc := [(q3, .inr (4, [.int (0 : Int32), .int (0 : Int32), .int (0 : Int32), .int (0 : Int32), .null]))]) (wc' := [(q3, .inr (4, [.int (9 : Int32), .int (0 : Int32), .int (0 : Int32), .int (0 : Int32), .null]))]) (st' := [.ref (q3), .int (0 : Int32), .int (1000 : Int32), .int p1, .ref (ax 40)]) (W' := (xW cA ax s) ++ [(q3, .inr (4, [.int (9 : Int32), .int (0 : Int32), .int (0 : Int32), .int (0 : Int32), .null]))]) hP hD hS hA [63] (jc_last (xp_len cA ax s)) (Nat_nd rfl) rfl (rI (rest := [.ref (q3), .int (0 : Int32), .int (1000 : Int32), .int p1, .ref (ax 40)]) F (c_X4_init_ D cA q3 (9 : Int32) l H.size) lk_X8_134 (Nat.le_of_ble_eq_true rfl) (preRW hK hS hAb (selP hP (jc_last (xp_len cA ax s))) (selD hD (Nat_nd rfl) (jc_last (xp_len cA ax s)))) rfl hl rfl (Nat.le_of_ble_eq_true rfl) (dd D_X8_eclipse 11 rfl) ⟨Nat.le_of_ble_eq_true rfl, Nat.le_of_ble_eq_true rfl⟩) (js_last (xp_len cA ax s)) rfl (fun H locs hP hD hS => ?_)
    obtain ⟨r4, e5, h⟩ := Option.bind_eq_some_iff.mp h
    refine ro_go (st' := [.int r4]) (rV (rest := []) F (c_X2_pick D cA ax s q3 (9 : Int32) (0 : Int32) (0 : Int32) (0 : Int32) none n p1 (1000 : Int32) (0 : Int32) r4 e5 l) lk_X8_256 (Nat.le_of_ble_eq_true rfl) (preRO hK hS hAb hP) (rcv_2 hK hP (q0 := (40)) (gL (xp_40 cA ax s))) rfl hl rfl (Nat.le_of_ble_eq_true rfl) (dd D_X8_eclipse 12 rfl) ⟨Nat.le_of_ble_eq_true rfl, Nat.le_of_ble_eq_true rfl⟩) rfl ?_
    refine lv_goto (tgt := 37) F.1 F.2.1 (dd D_X8_eclipse 13 rfl) rfl ?_
    have hP := preP hP
    have hD := preD hD
    obtain rfl := Option.some.inj h
    exact rw_i (R := rmOf 6 1 5) F hP hD hS hr hlk ⟨Nat.le_of_ble_eq_true rfl, Nat.le_of_ble_eq_true rfl⟩ ⟨rfl, rfl⟩ (dd D_X8_eclipse 17 rfl)
def F_X8_sees (n : Nat) (s : XS) (p1 : Int32) (p2 : Int32) (p3 : Int32) : Option (Int32 × XS) := bf (F_X8_isDay p1) (bf (F_X8_isIn p2 (0 : Int32) (1439 : Int32)) (bf (F_X8_isIn p3 (0 : Int32) (1 : Int32)) ((if p3 = 0 then (((F_X8_orStuck n s (F_X2_heightAt s p1 p2))).bind fun r8 => some (r8.1, r8.2)) else (((F_X8_orStuck n s (F_X2_degreeAt s p1 p2))).bind fun r6 => some (r6.1, r6.2)))) ((((F_X8_refuse n s (-2 : Int32))).bind fun r10 => some (r10.1, r10.2)))) ((((F_X8_refuse n s (-2 : Int32))).bind fun r3 => some (r3.1, r3.2)))) ((((F_X8_refuse n s (-2 : Int32))).bind fun r1 => some (r1.1, r1.2)))
set_option maxHeartbeats 4000000 in
set_option maxRecDepth 100000 in
theorem c_X8_sees (D : va_G) (cA : Nat → ClassId) (ax : Nat → Nat) (s : XS) (n : Nat) (p1 : Int32) (p2 : Int32) (p3 : Int32) (r : (Int32 × XS)) (h : F_X8_sees n s p1 p2 p3 = some r) : RW m_X8_sees 4 0 0 D cA [.ref (ax 0), .int p1, .int p2, .int p3] (xW cA ax s) (exq (some (.int r.1)) (xW cA ax r.2)) := by
  refine RW.ofW gy_X8_sees.2.2 (Nat.le_of_ble_eq_true rfl) ?_
  intro l p e sM m below meth c A H locs F hr hlk hnm hK hP hD hS hA hAb ls hl
  have hl : lv_has ls 4 [(0, .ref (ax 0)), (1, .int p1), (2, .int p2), (3, .int p3)] := hl
  unfold F_X8_sees at h
  refine lv_iload_n F.1 F.2.1 (dd D_X8_sees 0 rfl) rfl (lv_at hl 1 rfl) ?_
  refine ro_go (st' := [.int (bI (F_X8_isDay p1))]) (rS (rest := []) F (c_X8_isDay D cA p1 l) lk_X8_113 (Nat.le_of_ble_eq_true rfl) (preRO hK hS hAb (emP)) rfl hl rfl (Nat.le_of_ble_eq_true rfl) (dd D_X8_sees 1 rfl) ⟨Nat.le_of_ble_eq_true rfl, Nat.le_of_ble_eq_true rfl⟩) rfl ?_
  refine x_bif_eq (tgt := 27) F.1 F.2.1 (dd D_X8_sees 2 rfl) rfl h (fun c14 h => ?_) (fun c14 h => ?_)
  · refine lv_aload_n F.1 F.2.1 (dd D_X8_sees 13 rfl) rfl (lv_at hl 0 rfl) ?_
    refine lv_bipush (v := (-2 : Int32)) F.1 F.2.1 (dd D_X8_sees 14 rfl) kb_m2 ?_
    obtain ⟨r1, e2, h⟩ := Option.bind_eq_some_iff.mp h
    refine rwe_all (st' := [.int r1.1]) hD hS hA (rV (rest := []) F (c_X8_refuse D cA ax s n (-2 : Int32) r1 e2 l H.size) lk_X8_64 (Nat.le_of_ble_eq_true rfl) (preRW hK hS hAb hP hD) (rcv_8 hK hP (q0 := (0)) (xp_0 cA ax s)) rfl hl rfl (Nat.le_of_ble_eq_true rfl) (dd D_X8_sees 15 rfl) ⟨Nat.le_of_ble_eq_true rfl, Nat.le_of_ble_eq_true rfl⟩) rfl (fun H locs hP hD hS => ?_)
    obtain rfl := Option.some.inj h
    exact rw_i (R := rmOf 4 0 0) F hP hD hS hr hlk ⟨Nat.le_of_ble_eq_true rfl, Nat.le_of_ble_eq_true rfl⟩ ⟨rfl, rfl⟩ (dd D_X8_sees 16 rfl)
  · refine lv_iload_n F.1 F.2.1 (dd D_X8_sees 3 rfl) rfl (lv_at hl 2 rfl) ?_
    refine lv_iconst (v := (0 : Int32)) F.1 F.2.1 (dd D_X8_sees 4 rfl) ki_0 ?_
    refine lv_sipush (v := (1439 : Int32)) F.1 F.2.1 (dd D_X8_sees 5 rfl) ks_1439 ?_
    refine ro_go (st' := [.int (bI (F_X8_isIn p2 (0 : Int32) (1439 : Int32)))]) (rS (rest := []) F (c_X8_isIn D cA p2 (0 : Int32) (1439 : Int32) l) lk_X8_60 (Nat.le_of_ble_eq_true rfl) (preRO hK hS hAb (emP)) rfl hl rfl (Nat.le_of_ble_eq_true rfl) (dd D_X8_sees 6 rfl) ⟨Nat.le_of_ble_eq_true rfl, Nat.le_of_ble_eq_true rfl⟩) rfl ?_
    refine x_bif_eq (tgt := 27) F.1 F.2.1 (dd D_X8_sees 7 rfl) rfl h (fun c13 h => ?_) (fun c13 h => ?_)
    · refine lv_aload_n F.1 F.2.1 (dd D_X8_sees 13 rfl) rfl (lv_at hl 0 rfl) ?_
      refine lv_bipush (v := (-2 : Int32)) F.1 F.2.1 (dd D_X8_sees 14 rfl) kb_m2 ?_
      obtain ⟨r3, e4, h⟩ := Option.bind_eq_some_iff.mp h
      refine rwe_all (st' := [.int r3.1]) hD hS hA (rV (rest := []) F (c_X8_refuse D cA ax s n (-2 : Int32) r3 e4 l H.size) lk_X8_64 (Nat.le_of_ble_eq_true rfl) (preRW hK hS hAb hP hD) (rcv_8 hK hP (q0 := (0)) (xp_0 cA ax s)) rfl hl rfl (Nat.le_of_ble_eq_true rfl) (dd D_X8_sees 15 rfl) ⟨Nat.le_of_ble_eq_true rfl, Nat.le_of_ble_eq_true rfl⟩) rfl (fun H locs hP hD hS => ?_)
      obtain rfl := Option.some.inj h
      exact rw_i (R := rmOf 4 0 0) F hP hD hS hr hlk ⟨Nat.le_of_ble_eq_true rfl, Nat.le_of_ble_eq_true rfl⟩ ⟨rfl, rfl⟩ (dd D_X8_sees 16 rfl)
    · refine lv_iload_n F.1 F.2.1 (dd D_X8_sees 8 rfl) rfl (lv_at hl 3 rfl) ?_
      refine lv_iconst (v := (0 : Int32)) F.1 F.2.1 (dd D_X8_sees 9 rfl) ki_0 ?_
      refine lv_iconst (v := (1 : Int32)) F.1 F.2.1 (dd D_X8_sees 10 rfl) ki_1 ?_
      refine ro_go (st' := [.int (bI (F_X8_isIn p3 (0 : Int32) (1 : Int32)))]) (rS (rest := []) F (c_X8_isIn D cA p3 (0 : Int32) (1 : Int32) l) lk_X8_60 (Nat.le_of_ble_eq_true rfl) (preRO hK hS hAb (emP)) rfl hl rfl (Nat.le_of_ble_eq_true rfl) (dd D_X8_sees 11 rfl) ⟨Nat.le_of_ble_eq_true rfl, Nat.le_of_ble_eq_true rfl⟩) rfl ?_
      refine x_bif_ne (tgt := 34) F.1 F.2.1 (dd D_X8_sees 12 rfl) rfl h (fun c12 h => ?_) (fun c12 h => ?_)
      · refine lv_aload_n F.1 F.2.1 (dd D_X8_sees 17 rfl) rfl (lv_at hl 0 rfl) ?_
        refine lv_iload_n F.1 F.2.1 (dd D_X8_sees 18 rfl) rfl (lv_at hl 3 rfl) ?_
        refine x_if_ne (tgt := 51) F.1 F.2.1 (dd D_X8_sees 19 rfl) rfl h (fun c5 h => ?_) (fun c5 h => ?_)
        · refine lv_aload_n F.1 F.2.1 (dd D_X8_sees 26 rfl) rfl (lv_at hl 0 rfl) ?_
          refine getF F hK hP lf_X8_27 (0) (xp_0 cA ax s) rfl (dd D_X8_sees 27 rfl) ?_
          refine lv_iload_n F.1 F.2.1 (dd D_X8_sees 28 rfl) rfl (lv_at hl 1 rfl) ?_
          refine lv_iload_n F.1 F.2.1 (dd D_X8_sees 29 rfl) rfl (lv_at hl 2 rfl) ?_
          refine ro_go (st' := [.int (F_X2_degreeAt s p1 p2), .ref (ax 0)]) (rV (rest := [.ref (ax 0)]) F (c_X2_degreeAt D cA ax s p1 p2 l) lk_X8_289 (Nat.le_of_ble_eq_true rfl) (preRO hK hS hAb hP) (rcv_2 hK hP (q0 := (40)) (xp_40 cA ax s)) rfl hl rfl (Nat.le_of_ble_eq_true rfl) (dd D_X8_sees 30 rfl) ⟨Nat.le_of_ble_eq_true rfl, Nat.le_of_ble_eq_true rfl⟩) rfl ?_
          obtain ⟨r6, e7, h⟩ := Option.bind_eq_some_iff.mp h
          refine rwe_all (st' := [.int r6.1]) hD hS hA (rV (rest := []) F (c_X8_orStuck D cA ax s n (F_X2_degreeAt s p1 p2) r6 e7 l H.size) lk_X8_266 (Nat.le_of_ble_eq_true rfl) (preRW hK hS hAb hP hD) (rcv_8 hK hP (q0 := (0)) (xp_0 cA ax s)) rfl hl rfl (Nat.le_of_ble_eq_true rfl) (dd D_X8_sees 31 rfl) ⟨Nat.le_of_ble_eq_true rfl, Nat.le_of_ble_eq_true rfl⟩) rfl (fun H locs hP hD hS => ?_)
          obtain rfl := Option.some.inj h
          exact rw_i (R := rmOf 4 0 0) F hP hD hS hr hlk ⟨Nat.le_of_ble_eq_true rfl, Nat.le_of_ble_eq_true rfl⟩ ⟨rfl, rfl⟩ (dd D_X8_sees 32 rfl)
        · refine lv_aload_n F.1 F.2.1 (dd D_X8_sees 20 rfl) rfl (lv_at hl 0 rfl) ?_
          refine getF F hK hP lf_X8_27 (0) (xp_0 cA ax s) rfl (dd D_X8_sees 21 rfl) ?_
          refine lv_iload_n F.1 F.2.1 (dd D_X8_sees 22 rfl) rfl (lv_at hl 1 rfl) ?_
          refine lv_iload_n F.1 F.2.1 (dd D_X8_sees 23 rfl) rfl (lv_at hl 2 rfl) ?_
          refine ro_go (st' := [.int (F_X2_heightAt s p1 p2), .ref (ax 0)]) (rV (rest := [.ref (ax 0)]) F (c_X2_heightAt D cA ax s p1 p2 l) lk_X8_286 (Nat.le_of_ble_eq_true rfl) (preRO hK hS hAb hP) (rcv_2 hK hP (q0 := (40)) (xp_40 cA ax s)) rfl hl rfl (Nat.le_of_ble_eq_true rfl) (dd D_X8_sees 24 rfl) ⟨Nat.le_of_ble_eq_true rfl, Nat.le_of_ble_eq_true rfl⟩) rfl ?_
          refine lv_goto (tgt := 60) F.1 F.2.1 (dd D_X8_sees 25 rfl) rfl ?_
          obtain ⟨r8, e9, h⟩ := Option.bind_eq_some_iff.mp h
          refine rwe_all (st' := [.int r8.1]) hD hS hA (rV (rest := []) F (c_X8_orStuck D cA ax s n (F_X2_heightAt s p1 p2) r8 e9 l H.size) lk_X8_266 (Nat.le_of_ble_eq_true rfl) (preRW hK hS hAb hP hD) (rcv_8 hK hP (q0 := (0)) (xp_0 cA ax s)) rfl hl rfl (Nat.le_of_ble_eq_true rfl) (dd D_X8_sees 31 rfl) ⟨Nat.le_of_ble_eq_true rfl, Nat.le_of_ble_eq_true rfl⟩) rfl (fun H locs hP hD hS => ?_)
          obtain rfl := Option.some.inj h
          exact rw_i (R := rmOf 4 0 0) F hP hD hS hr hlk ⟨Nat.le_of_ble_eq_true rfl, Nat.le_of_ble_eq_true rfl⟩ ⟨rfl, rfl⟩ (dd D_X8_sees 32 rfl)
      · refine lv_aload_n F.1 F.2.1 (dd D_X8_sees 13 rfl) rfl (lv_at hl 0 rfl) ?_
        refine lv_bipush (v := (-2 : Int32)) F.1 F.2.1 (dd D_X8_sees 14 rfl) kb_m2 ?_
        obtain ⟨r10, e11, h⟩ := Option.bind_eq_some_iff.mp h
        refine rwe_all (st' := [.int r10.1]) hD hS hA (rV (rest := []) F (c_X8_refuse D cA ax s n (-2 : Int32) r10 e11 l H.size) lk_X8_64 (Nat.le_of_ble_eq_true rfl) (preRW hK hS hAb hP hD) (rcv_8 hK hP (q0 := (0)) (xp_0 cA ax s)) rfl hl rfl (Nat.le_of_ble_eq_true rfl) (dd D_X8_sees 15 rfl) ⟨Nat.le_of_ble_eq_true rfl, Nat.le_of_ble_eq_true rfl⟩) rfl (fun H locs hP hD hS => ?_)
        obtain rfl := Option.some.inj h
        exact rw_i (R := rmOf 4 0 0) F hP hD hS hr hlk ⟨Nat.le_of_ble_eq_true rfl, Nat.le_of_ble_eq_true rfl⟩ ⟨rfl, rfl⟩ (dd D_X8_sees 16 rfl)
def F_X8_picture (n : Nat) (s : XS) (p1 : Int32) (p2 : Int32) (p3 : Int32) : Option (Int32 × XS) := (((F_X8_shelfAt n s p1)).bind fun r1 => oM r1 ((((F_X8_refuse n s (-2 : Int32))).bind fun r5 => some (r5.1, r5.2))) (fun k3 => gd (decide (k3 < 8)) (bf (F_X8_isDay p2) (bf (F_X8_isIn p3 (0 : Int32) (1 : Int32)) ((if (F_X5_refusalAsRow (x_sh s k3) (8 : Int32)) = 0 then (((F_X5_at n (x_sh s k3) (6 : Int32))).bind fun r10 => (((F_X5_at n (x_sh s k3) (7 : Int32))).bind fun r12 => (if (lg_cmp r12 (1 : Int64)) < 0 then (((F_X8_refuse n s (-2 : Int32))).bind fun r15 => some (r15.1, r15.2)) else (if 0 < (lg_cmp r12 (1000 : Int64)) then (((F_X8_refuse n s (-2 : Int32))).bind fun r18 => some (r18.1, r18.2)) else (if (lg_cmp r10 (0 : Int64)) < 0 then (((F_X8_refuse n s (-2 : Int32))).bind fun r21 => some (r21.1, r21.2)) else (if (lg_cmp r10 (1439 : Int64)) ≤ 0 then (if p3 = 0 then (((F_X2_pick n s (11 : Int32) (0 : Int32) (0 : Int32) (0 : Int32) (some k3) p2 (Int64.toInt32 r12) (-1 : Int32))).bind fun r31 => (((F_X8_orStuck n s r31)).bind fun r33 => some (r33.1, r33.2))) else (((F_X2_pick n s (11 : Int32) (0 : Int32) (0 : Int32) (0 : Int32) (some k3) p2 (Int64.toInt32 r12) (0 : Int32))).bind fun r26 => (((F_X8_orStuck n s r26)).bind fun r28 => some (r28.1, r28.2)))) else (((F_X8_refuse n s (-2 : Int32))).bind fun r35 => some (r35.1, r35.2)))))))) else (((F_X8_refuse n s (F_X5_refusalAsRow (x_sh s k3) (8 : Int32)))).bind fun r37 => some (r37.1, r37.2)))) ((((F_X8_refuse n s (-2 : Int32))).bind fun r39 => some (r39.1, r39.2)))) ((((F_X8_refuse n s (-2 : Int32))).bind fun r7 => some (r7.1, r7.2))))))
set_option maxHeartbeats 4000000 in
set_option maxRecDepth 100000 in
theorem c_X8_picture (D : va_G) (cA : Nat → ClassId) (ax : Nat → Nat) (s : XS) (n : Nat) (p1 : Int32) (p2 : Int32) (p3 : Int32) (r : (Int32 × XS)) (h : F_X8_picture n s p1 p2 p3 = some r) : RW m_X8_picture 6 1 5 D cA [.ref (ax 0), .int p1, .int p2, .int p3] (xW cA ax s) (exq (some (.int r.1)) (xW cA ax r.2)) := by
  refine RW.ofW gy_X8_picture.2.2 (Nat.le_of_ble_eq_true rfl) ?_
  intro l p e sM m below meth c A H locs F hr hlk hnm hK hP hD hS hA hAb ls hl
  have hl : lv_has ls 10 [(0, .ref (ax 0)), (1, .int p1), (2, .int p2), (3, .int p3)] := hl
  unfold F_X8_picture at h
  refine lv_aload_n F.1 F.2.1 (dd D_X8_picture 0 rfl) rfl (lv_at hl 0 rfl) ?_
  refine lv_iload_n F.1 F.2.1 (dd D_X8_picture 1 rfl) rfl (lv_at hl 1 rfl) ?_
  obtain ⟨r1, e2, h⟩ := Option.bind_eq_some_iff.mp h
  refine ro_go (st' := [va_rf (Option.map (fun j => ax (46+2*j)) r1)]) (rV (rest := []) F (c_X8_shelfAt D cA ax s n p1 r1 e2 l) lk_X8_56 (Nat.le_of_ble_eq_true rfl) (preRO hK hS hAb hP) (rcv_8 hK hP (q0 := (0)) (xp_0 cA ax s)) rfl hl rfl (Nat.le_of_ble_eq_true rfl) (dd D_X8_picture 2 rfl) ⟨Nat.le_of_ble_eq_true rfl, Nat.le_of_ble_eq_true rfl⟩) rfl ?_
  cases r1 with
  | none =>
    dsimp only [oM] at h
    refine lv_astoreN (lv' := [(4, .null), (0, .ref (ax 0)), (1, .int p1), (2, .int p2), (3, .int p3)]) F.1 F.2.1 (dd D_X8_picture 3 rfl) hl (Nat.le_of_ble_eq_true rfl) rfl (fun ls hl => ?_)
    refine lv_aloadN F.1 F.2.1 (dd D_X8_picture 4 rfl) (lv_at hl 0 rfl) ?_
    refine lv_ifnullN (tgt := 28) F.1 F.2.1 (dd D_X8_picture 5 rfl) rfl ?_
    refine lv_aload_n F.1 F.2.1 (dd D_X8_picture 14 rfl) rfl (lv_at hl 1 rfl) ?_
    refine lv_bipush (v := (-2 : Int32)) F.1 F.2.1 (dd D_X8_picture 15 rfl) kb_m2 ?_
    obtain ⟨r5, e6, h⟩ := Option.bind_eq_some_iff.mp h
    refine rwe_all (st' := [.int r5.1]) hD hS hA (rV (rest := []) F (c_X8_refuse D cA ax s n (-2 : Int32) r5 e6 l H.size) lk_X8_64 (Nat.le_of_ble_eq_true rfl) (preRW hK hS hAb hP hD) (rcv_8 hK hP (q0 := (0)) (xp_0 cA ax s)) rfl hl rfl (Nat.le_of_ble_eq_true rfl) (dd D_X8_picture 16 rfl) ⟨Nat.le_of_ble_eq_true rfl, Nat.le_of_ble_eq_true rfl⟩) rfl (fun H locs hP hD hS => ?_)
    obtain rfl := Option.some.inj h
    exact rw_i (R := rmOf 6 1 5) F hP hD hS hr hlk ⟨Nat.le_of_ble_eq_true rfl, Nat.le_of_ble_eq_true rfl⟩ ⟨rfl, rfl⟩ (dd D_X8_picture 17 rfl)
  | some k3 =>
    dsimp only [oM] at h
    obtain ⟨hk4, h⟩ := gd_some (b := decide (k3 < 8)) h
    have hk4 := of_decide_eq_true hk4
    refine lv_astore (lv' := [(4, .ref (ax (46+2*k3))), (0, .ref (ax 0)), (1, .int p1), (2, .int p2), (3, .int p3)]) F.1 F.2.1 (dd D_X8_picture 3 rfl) hl (Nat.le_of_ble_eq_true rfl) rfl (fun ls hl => ?_)
    refine lv_aload F.1 F.2.1 (dd D_X8_picture 4 rfl) (lv_at hl 0 rfl) ?_
    refine lv_ifnull F.1 F.2.1 (dd D_X8_picture 5 rfl) ?_
    refine lv_iload_n F.1 F.2.1 (dd D_X8_picture 6 rfl) rfl (lv_at hl 3 rfl) ?_
    refine ro_go (st' := [.int (bI (F_X8_isDay p2))]) (rS (rest := []) F (c_X8_isDay D cA p2 l) lk_X8_113 (Nat.le_of_ble_eq_true rfl) (preRO hK hS hAb (emP)) rfl hl rfl (Nat.le_of_ble_eq_true rfl) (dd D_X8_picture 7 rfl) ⟨Nat.le_of_ble_eq_true rfl, Nat.le_of_ble_eq_true rfl⟩) rfl ?_
    refine x_bif_eq (tgt := 28) F.1 F.2.1 (dd D_X8_picture 8 rfl) rfl h (fun c42 h => ?_) (fun c42 h => ?_)
    · refine lv_aload_n F.1 F.2.1 (dd D_X8_picture 14 rfl) rfl (lv_at hl 1 rfl) ?_
      refine lv_bipush (v := (-2 : Int32)) F.1 F.2.1 (dd D_X8_picture 15 rfl) kb_m2 ?_
      obtain ⟨r7, e8, h⟩ := Option.bind_eq_some_iff.mp h
      refine rwe_all (st' := [.int r7.1]) hD hS hA (rV (rest := []) F (c_X8_refuse D cA ax s n (-2 : Int32) r7 e8 l H.size) lk_X8_64 (Nat.le_of_ble_eq_true rfl) (preRW hK hS hAb hP hD) (rcv_8 hK hP (q0 := (0)) (xp_0 cA ax s)) rfl hl rfl (Nat.le_of_ble_eq_true rfl) (dd D_X8_picture 16 rfl) ⟨Nat.le_of_ble_eq_true rfl, Nat.le_of_ble_eq_true rfl⟩) rfl (fun H locs hP hD hS => ?_)
      obtain rfl := Option.some.inj h
      exact rw_i (R := rmOf 6 1 5) F hP hD hS hr hlk ⟨Nat.le_of_ble_eq_true rfl, Nat.le_of_ble_eq_true rfl⟩ ⟨rfl, rfl⟩ (dd D_X8_picture 17 rfl)
    · refine lv_iload_n F.1 F.2.1 (dd D_X8_picture 9 rfl) rfl (lv_at hl 4 rfl) ?_
      refine lv_iconst (v := (0 : Int32)) F.1 F.2.1 (dd D_X8_picture 10 rfl) ki_0 ?_
      refine lv_iconst (v := (1 : Int32)) F.1 F.2.1 (dd D_X8_picture 11 rfl) ki_1 ?_
      refine ro_go (st' := [.int (bI (F_X8_isIn p3 (0 : Int32) (1 : Int32)))]) (rS (rest := []) F (c_X8_isIn D cA p3 (0 : Int32) (1 : Int32) l) lk_X8_60 (Nat.le_of_ble_eq_true rfl) (preRO hK hS hAb (emP)) rfl hl rfl (Nat.le_of_ble_eq_true rfl) (dd D_X8_picture 12 rfl) ⟨Nat.le_of_ble_eq_true rfl, Nat.le_of_ble_eq_true rfl⟩) rfl ?_
      refine x_bif_ne (tgt := 35) F.1 F.2.1 (dd D_X8_picture 13 rfl) rfl h (fun c41 h => ?_) (fun c41 h => ?_)
      · refine lv_aload F.1 F.2.1 (dd D_X8_picture 18 rfl) (lv_at hl 0 rfl) ?_
        refine lv_bipush (v := (8 : Int32)) F.1 F.2.1 (dd D_X8_picture 19 rfl) kb_8 ?_
        refine ro_go (st' := [.int (F_X5_refusalAsRow (x_sh s k3) (8 : Int32))]) (rV (rest := []) F (c_X5_refusalAsRow D cA (fun i => ax (46+2*k3+i)) (x_sh s k3) (8 : Int32) l) lk_X8_72 (Nat.le_of_ble_eq_true rfl) (preRO hK hS hAb (pg_sh hk4 hP)) (rcv_5 hK hP (q0 := (46+2*k3)) (xp_sh cA ax s k3 hk4)) rfl hl rfl (Nat.le_of_ble_eq_true rfl) (dd D_X8_picture 20 rfl) ⟨Nat.le_of_ble_eq_true rfl, Nat.le_of_ble_eq_true rfl⟩) rfl ?_
        refine lv_istore (lv' := [(5, .int (F_X5_refusalAsRow (x_sh s k3) (8 : Int32))), (4, .ref (ax (46+2*k3))), (0, .ref (ax 0)), (1, .int p1), (2, .int p2), (3, .int p3)]) F.1 F.2.1 (dd D_X8_picture 21 rfl) hl (Nat.le_of_ble_eq_true rfl) rfl (fun ls hl => ?_)
        refine lv_iload F.1 F.2.1 (dd D_X8_picture 22 rfl) (lv_at hl 0 rfl) ?_
        refine x_if_eq (tgt := 56) F.1 F.2.1 (dd D_X8_picture 23 rfl) rfl h (fun c9 h => ?_) (fun c9 h => ?_)
        · refine lv_aload F.1 F.2.1 (dd D_X8_picture 28 rfl) (lv_at hl 1 rfl) ?_
          refine lv_bipush (v := (6 : Int32)) F.1 F.2.1 (dd D_X8_picture 29 rfl) kb_6 ?_
          obtain ⟨r10, e11, h⟩ := Option.bind_eq_some_iff.mp h
          refine ro_go (st' := [.long r10]) (rV (rest := []) F (c_X5_at D cA (fun i => ax (46+2*k3+i)) (x_sh s k3) n (6 : Int32) r10 e11 l) lk_X8_101 (Nat.le_of_ble_eq_true rfl) (preRO hK hS hAb (pg_sh hk4 hP)) (rcv_5 hK hP (q0 := (46+2*k3)) (xp_sh cA ax s k3 hk4)) rfl hl rfl (Nat.le_of_ble_eq_true rfl) (dd D_X8_picture 30 rfl) ⟨Nat.le_of_ble_eq_true rfl, Nat.le_of_ble_eq_true rfl⟩) rfl ?_
          refine lv_lstore (lv' := [(6, .long r10), (5, .int (F_X5_refusalAsRow (x_sh s k3) (8 : Int32))), (4, .ref (ax (46+2*k3))), (0, .ref (ax 0)), (1, .int p1), (2, .int p2), (3, .int p3)]) F.1 F.2.1 (dd D_X8_picture 31 rfl) hl (Nat.le_of_ble_eq_true rfl) rfl (fun ls hl => ?_)
          refine lv_aload F.1 F.2.1 (dd D_X8_picture 32 rfl) (lv_at hl 2 rfl) ?_
          refine lv_bipush (v := (7 : Int32)) F.1 F.2.1 (dd D_X8_picture 33 rfl) kb_7 ?_
          obtain ⟨r12, e13, h⟩ := Option.bind_eq_some_iff.mp h
          refine ro_go (st' := [.long r12]) (rV (rest := []) F (c_X5_at D cA (fun i => ax (46+2*k3+i)) (x_sh s k3) n (7 : Int32) r12 e13 l) lk_X8_101 (Nat.le_of_ble_eq_true rfl) (preRO hK hS hAb (pg_sh hk4 hP)) (rcv_5 hK hP (q0 := (46+2*k3)) (xp_sh cA ax s k3 hk4)) rfl hl rfl (Nat.le_of_ble_eq_true rfl) (dd D_X8_picture 34 rfl) ⟨Nat.le_of_ble_eq_true rfl, Nat.le_of_ble_eq_true rfl⟩) rfl ?_
          refine lv_lstore (lv' := [(8, .long r12), (6, .long r10), (5, .int (F_X5_refusalAsRow (x_sh s k3) (8 : Int32))), (4, .ref (ax (46+2*k3))), (0, .ref (ax 0)), (1, .int p1), (2, .int p2), (3, .int p3)]) F.1 F.2.1 (dd D_X8_picture 35 rfl) hl (Nat.le_of_ble_eq_true rfl) rfl (fun ls hl => ?_)
          refine lv_lload F.1 F.2.1 (dd D_X8_picture 36 rfl) (lv_at hl 0 rfl) ?_
          refine lv_lconst (v := (1 : Int64)) F.1 F.2.1 (dd D_X8_picture 37 rfl) kl_1 ?_
          refine W.lcmp F.1 F.2.1 (dd D_X8_picture 38 rfl) ?_
          refine x_if_lt (tgt := 106) F.1 F.2.1 (dd D_X8_picture 39 rfl) rfl h (fun c14 h => ?_) (fun c14 h => ?_)
          · refine lv_aload_n F.1 F.2.1 (dd D_X8_picture 52 rfl) rfl (lv_at hl 4 rfl) ?_
            refine lv_bipush (v := (-2 : Int32)) F.1 F.2.1 (dd D_X8_picture 53 rfl) kb_m2 ?_
            obtain ⟨r15, e16, h⟩ := Option.bind_eq_some_iff.mp h
            refine rwe_all (st' := [.int r15.1]) hD hS hA (rV (rest := []) F (c_X8_refuse D cA ax s n (-2 : Int32) r15 e16 l H.size) lk_X8_64 (Nat.le_of_ble_eq_true rfl) (preRW hK hS hAb hP hD) (rcv_8 hK hP (q0 := (0)) (xp_0 cA ax s)) rfl hl rfl (Nat.le_of_ble_eq_true rfl) (dd D_X8_picture 54 rfl) ⟨Nat.le_of_ble_eq_true rfl, Nat.le_of_ble_eq_true rfl⟩) rfl (fun H locs hP hD hS => ?_)
            obtain rfl := Option.some.inj h
            exact rw_i (R := rmOf 6 1 5) F hP hD hS hr hlk ⟨Nat.le_of_ble_eq_true rfl, Nat.le_of_ble_eq_true rfl⟩ ⟨rfl, rfl⟩ (dd D_X8_picture 55 rfl)
          · refine lv_lload F.1 F.2.1 (dd D_X8_picture 40 rfl) (lv_at hl 0 rfl) ?_
            refine lv_ldc2 (own := RX8) (v := (1000 : Int64)) F.1 F.2.1 F.2.2.2.1 (F.2.2.2.2 _ (kL_X8_292)) (dd D_X8_picture 41 rfl) ?_
            refine W.lcmp F.1 F.2.1 (dd D_X8_picture 42 rfl) ?_
            refine x_if_gt (tgt := 106) F.1 F.2.1 (dd D_X8_picture 43 rfl) rfl h (fun c17 h => ?_) (fun c17 h => ?_)
            · refine lv_aload_n F.1 F.2.1 (dd D_X8_picture 52 rfl) rfl (lv_at hl 4 rfl) ?_
              refine lv_bipush (v := (-2 : Int32)) F.1 F.2.1 (dd D_X8_picture 53 rfl) kb_m2 ?_
              obtain ⟨r18, e19, h⟩ := Option.bind_eq_some_iff.mp h
              refine rwe_all (st' := [.int r18.1]) hD hS hA (rV (rest := []) F (c_X8_refuse D cA ax s n (-2 : Int32) r18 e19 l H.size) lk_X8_64 (Nat.le_of_ble_eq_true rfl) (preRW hK hS hAb hP hD) (rcv_8 hK hP (q0 := (0)) (xp_0 cA ax s)) rfl hl rfl (Nat.le_of_ble_eq_true rfl) (dd D_X8_picture 54 rfl) ⟨Nat.le_of_ble_eq_true rfl, Nat.le_of_ble_eq_true rfl⟩) rfl (fun H locs hP hD hS => ?_)
              obtain rfl := Option.some.inj h
              exact rw_i (R := rmOf 6 1 5) F hP hD hS hr hlk ⟨Nat.le_of_ble_eq_true rfl, Nat.le_of_ble_eq_true rfl⟩ ⟨rfl, rfl⟩ (dd D_X8_picture 55 rfl)
            · refine lv_lload F.1 F.2.1 (dd D_X8_picture 44 rfl) (lv_at hl 1 rfl) ?_
              refine lv_lconst (v := (0 : Int64)) F.1 F.2.1 (dd D_X8_picture 45 rfl) kl_0 ?_
              refine W.lcmp F.1 F.2.1 (dd D_X8_picture 46 rfl) ?_
              refine x_if_lt (tgt := 106) F.1 F.2.1 (dd D_X8_picture 47 rfl) rfl h (fun c20 h => ?_) (fun c20 h => ?_)
              · refine lv_aload_n F.1 F.2.1 (dd D_X8_picture 52 rfl) rfl (lv_at hl 4 rfl) ?_
                refine lv_bipush (v := (-2 : Int32)) F.1 F.2.1 (dd D_X8_picture 53 rfl) kb_m2 ?_
                obtain ⟨r21, e22, h⟩ := Option.bind_eq_some_iff.mp h
                refine rwe_all (st' := [.int r21.1]) hD hS hA (rV (rest := []) F (c_X8_refuse D cA ax s n (-2 : Int32) r21 e22 l H.size) lk_X8_64 (Nat.le_of_ble_eq_true rfl) (preRW hK hS hAb hP hD) (rcv_8 hK hP (q0 := (0)) (xp_0 cA ax s)) rfl hl rfl (Nat.le_of_ble_eq_true rfl) (dd D_X8_picture 54 rfl) ⟨Nat.le_of_ble_eq_true rfl, Nat.le_of_ble_eq_true rfl⟩) rfl (fun H locs hP hD hS => ?_)
                obtain rfl := Option.some.inj h
                exact rw_i (R := rmOf 6 1 5) F hP hD hS hr hlk ⟨Nat.le_of_ble_eq_true rfl, Nat.le_of_ble_eq_true rfl⟩ ⟨rfl, rfl⟩ (dd D_X8_picture 55 rfl)
              · refine lv_lload F.1 F.2.1 (dd D_X8_picture 48 rfl) (lv_at hl 1 rfl) ?_
                refine lv_ldc2 (own := RX8) (v := (1439 : Int64)) F.1 F.2.1 F.2.2.2.1 (F.2.2.2.2 _ (kL_X8_294)) (dd D_X8_picture 49 rfl) ?_
                refine W.lcmp F.1 F.2.1 (dd D_X8_picture 50 rfl) ?_
                refine x_if_le (tgt := 113) F.1 F.2.1 (dd D_X8_picture 51 rfl) rfl h (fun c23 h => ?_) (fun c23 h => ?_)
                · refine lv_aload_n F.1 F.2.1 (dd D_X8_picture 56 rfl) rfl (lv_at hl 4 rfl) ?_
                  refine lv_aload_n F.1 F.2.1 (dd D_X8_picture 57 rfl) rfl (lv_at hl 4 rfl) ?_
                  refine getF F hK hP lf_X8_27 (0) (xp_0 cA ax s) rfl (dd D_X8_picture 58 rfl) ?_
                  refine lv_iload_n F.1 F.2.1 (dd D_X8_picture 59 rfl) rfl (lv_at hl 6 rfl) ?_
                  refine lv_lload F.1 F.2.1 (dd D_X8_picture 60 rfl) (lv_at hl 0 rfl) ?_
                  refine lv_l2i (v := (Int64.toInt32 r12)) F.1 F.2.1 (dd D_X8_picture 61 rfl) rfl ?_
                  refine lv_iload_n F.1 F.2.1 (dd D_X8_picture 62 rfl) rfl (lv_at hl 7 rfl) ?_
                  refine x_if_ne (tgt := 130) F.1 F.2.1 (dd D_X8_picture 63 rfl) rfl h (fun c24 h => ?_) (fun c24 h => ?_)
                  · refine lv_iconst (v := (0 : Int32)) F.1 F.2.1 (dd D_X8_picture 66 rfl) ki_0 ?_
                    refine newO F hK hP hD hS hA ln_X8_132 (Nat.le_of_ble_eq_true rfl) (Nat.le_of_ble_eq_true rfl) (dd D_X8_picture 67 rfl) (fun q25 H hP hD hS => ?_)
                    refine lv_dup F.1 F.2.1 (dd D_X8_picture 68 rfl) rfl ?_
                    refine lv_aload F.1 F.2.1 (dd D_X8_picture 69 rfl) (lv_at hl 3 rfl) ?_
                    refine rwe (V := none) (wc := [(q25, .inr (4, [.int (0 : Int32), .int (0 : Int32), .int (0 : Int32), .int (0 : Int32), .null]))]) (wc' := [(q25, .inr (4, [.int (11 : Int32), .int (0 : Int32), .int (0 : Int32), .int (0 : Int32), .ref (ax (46+2*k3))]))]) (st' := [.ref (q25), .int (0 : Int32), .int (Int64.toInt32 r12), .int p2, .ref (ax 40), .ref (ax 0)]) (W' := (xW cA ax s) ++ [(q25, .inr (4, [.int (11 : Int32), .int (0 : Int32), .int (0 : Int32), .int (0 : Int32), .ref (ax (46+2*k3))]))]) hP hD hS hA [63] (jc_last (xp_len cA ax s)) (Nat_nd rfl) rfl (rI (rest := [.ref (q25), .int (0 : Int32), .int (Int64.toInt32 r12), .int p2, .ref (ax 40), .ref (ax 0)]) F (c_X4_init___ D cA q25 (ax (46+2*k3)) l H.size) lk_X8_296 (Nat.le_of_ble_eq_true rfl) (preRW hK hS hAb (selP hP (jc_last (xp_len cA ax s))) (selD hD (Nat_nd rfl) (jc_last (xp_len cA ax s)))) rfl hl rfl (Nat.le_of_ble_eq_true rfl) (dd D_X8_picture 70 rfl) ⟨Nat.le_of_ble_eq_true rfl, Nat.le_of_ble_eq_true rfl⟩) (js_last (xp_len cA ax s)) rfl (fun H locs hP hD hS => ?_)
                    obtain ⟨r26, e27, h⟩ := Option.bind_eq_some_iff.mp h
                    refine ro_go (st' := [.int r26, .ref (ax 0)]) (rV (rest := [.ref (ax 0)]) F (c_X2_pick D cA ax s q25 (11 : Int32) (0 : Int32) (0 : Int32) (0 : Int32) (some k3) n p2 (Int64.toInt32 r12) (0 : Int32) r26 e27 l) lk_X8_256 (Nat.le_of_ble_eq_true rfl) (preRO hK hS hAb hP) (rcv_2 hK hP (q0 := (40)) (gL (xp_40 cA ax s))) rfl hl rfl (Nat.le_of_ble_eq_true rfl) (dd D_X8_picture 71 rfl) ⟨Nat.le_of_ble_eq_true rfl, Nat.le_of_ble_eq_true rfl⟩) rfl ?_
                    obtain ⟨r28, e29, h⟩ := Option.bind_eq_some_iff.mp h
                    have hP := preP hP
                    have hD := preD hD
                    refine rwe_all (st' := [.int r28.1]) hD hS hA (rV (rest := []) F (c_X8_orStuck D cA ax s n r26 r28 e29 l H.size) lk_X8_266 (Nat.le_of_ble_eq_true rfl) (preRW hK hS hAb hP hD) (rcv_8 hK hP (q0 := (0)) (gL (xp_0 cA ax s))) rfl hl rfl (Nat.le_of_ble_eq_true rfl) (dd D_X8_picture 72 rfl) ⟨Nat.le_of_ble_eq_true rfl, Nat.le_of_ble_eq_true rfl⟩) rfl (fun H locs hP hD hS => ?_)
                    obtain rfl := Option.some.inj h
                    exact rw_i (R := rmOf 6 1 5) F hP hD hS hr hlk ⟨Nat.le_of_ble_eq_true rfl, Nat.le_of_ble_eq_true rfl⟩ ⟨rfl, rfl⟩ (dd D_X8_picture 73 rfl)
                  · refine lv_iconst (v := (-1 : Int32)) F.1 F.2.1 (dd D_X8_picture 64 rfl) ki_m1 ?_
                    refine lv_goto (tgt := 131) F.1 F.2.1 (dd D_X8_picture 65 rfl) rfl ?_
                    refine newO F hK hP hD hS hA ln_X8_132 (Nat.le_of_ble_eq_true rfl) (Nat.le_of_ble_eq_true rfl) (dd D_X8_picture 67 rfl) (fun q30 H hP hD hS => ?_)
                    refine lv_dup F.1 F.2.1 (dd D_X8_picture 68 rfl) rfl ?_
                    refine lv_aload F.1 F.2.1 (dd D_X8_picture 69 rfl) (lv_at hl 3 rfl) ?_
                    refine rwe (V := none) (wc := [(q30, .inr (4, [.int (0 : Int32), .int (0 : Int32), .int (0 : Int32), .int (0 : Int32), .null]))]) (wc' := [(q30, .inr (4, [.int (11 : Int32), .int (0 : Int32), .int (0 : Int32), .int (0 : Int32), .ref (ax (46+2*k3))]))]) (st' := [.ref (q30), .int (-1 : Int32), .int (Int64.toInt32 r12), .int p2, .ref (ax 40), .ref (ax 0)]) (W' := (xW cA ax s) ++ [(q30, .inr (4, [.int (11 : Int32), .int (0 : Int32), .int (0 : Int32), .int (0 : Int32), .ref (ax (46+2*k3))]))]) hP hD hS hA [63] (jc_last (xp_len cA ax s)) (Nat_nd rfl) rfl (rI (rest := [.ref (q30), .int (-1 : Int32), .int (Int64.toInt32 r12), .int p2, .ref (ax 40), .ref (ax 0)]) F (c_X4_init___ D cA q30 (ax (46+2*k3)) l H.size) lk_X8_296 (Nat.le_of_ble_eq_true rfl) (preRW hK hS hAb (selP hP (jc_last (xp_len cA ax s))) (selD hD (Nat_nd rfl) (jc_last (xp_len cA ax s)))) rfl hl rfl (Nat.le_of_ble_eq_true rfl) (dd D_X8_picture 70 rfl) ⟨Nat.le_of_ble_eq_true rfl, Nat.le_of_ble_eq_true rfl⟩) (js_last (xp_len cA ax s)) rfl (fun H locs hP hD hS => ?_)
                    obtain ⟨r31, e32, h⟩ := Option.bind_eq_some_iff.mp h
                    refine ro_go (st' := [.int r31, .ref (ax 0)]) (rV (rest := [.ref (ax 0)]) F (c_X2_pick D cA ax s q30 (11 : Int32) (0 : Int32) (0 : Int32) (0 : Int32) (some k3) n p2 (Int64.toInt32 r12) (-1 : Int32) r31 e32 l) lk_X8_256 (Nat.le_of_ble_eq_true rfl) (preRO hK hS hAb hP) (rcv_2 hK hP (q0 := (40)) (gL (xp_40 cA ax s))) rfl hl rfl (Nat.le_of_ble_eq_true rfl) (dd D_X8_picture 71 rfl) ⟨Nat.le_of_ble_eq_true rfl, Nat.le_of_ble_eq_true rfl⟩) rfl ?_
                    obtain ⟨r33, e34, h⟩ := Option.bind_eq_some_iff.mp h
                    have hP := preP hP
                    have hD := preD hD
                    refine rwe_all (st' := [.int r33.1]) hD hS hA (rV (rest := []) F (c_X8_orStuck D cA ax s n r31 r33 e34 l H.size) lk_X8_266 (Nat.le_of_ble_eq_true rfl) (preRW hK hS hAb hP hD) (rcv_8 hK hP (q0 := (0)) (gL (xp_0 cA ax s))) rfl hl rfl (Nat.le_of_ble_eq_true rfl) (dd D_X8_picture 72 rfl) ⟨Nat.le_of_ble_eq_true rfl, Nat.le_of_ble_eq_true rfl⟩) rfl (fun H locs hP hD hS => ?_)
                    obtain rfl := Option.some.inj h
                    exact rw_i (R := rmOf 6 1 5) F hP hD hS hr hlk ⟨Nat.le_of_ble_eq_true rfl, Nat.le_of_ble_eq_true rfl⟩ ⟨rfl, rfl⟩ (dd D_X8_picture 73 rfl)
                · refine lv_aload_n F.1 F.2.1 (dd D_X8_picture 52 rfl) rfl (lv_at hl 4 rfl) ?_
                  refine lv_bipush (v := (-2 : Int32)) F.1 F.2.1 (dd D_X8_picture 53 rfl) kb_m2 ?_
                  obtain ⟨r35, e36, h⟩ := Option.bind_eq_some_iff.mp h
                  refine rwe_all (st' := [.int r35.1]) hD hS hA (rV (rest := []) F (c_X8_refuse D cA ax s n (-2 : Int32) r35 e36 l H.size) lk_X8_64 (Nat.le_of_ble_eq_true rfl) (preRW hK hS hAb hP hD) (rcv_8 hK hP (q0 := (0)) (xp_0 cA ax s)) rfl hl rfl (Nat.le_of_ble_eq_true rfl) (dd D_X8_picture 54 rfl) ⟨Nat.le_of_ble_eq_true rfl, Nat.le_of_ble_eq_true rfl⟩) rfl (fun H locs hP hD hS => ?_)
                  obtain rfl := Option.some.inj h
                  exact rw_i (R := rmOf 6 1 5) F hP hD hS hr hlk ⟨Nat.le_of_ble_eq_true rfl, Nat.le_of_ble_eq_true rfl⟩ ⟨rfl, rfl⟩ (dd D_X8_picture 55 rfl)
        · refine lv_aload_n F.1 F.2.1 (dd D_X8_picture 24 rfl) rfl (lv_at hl 2 rfl) ?_
          refine lv_iload F.1 F.2.1 (dd D_X8_picture 25 rfl) (lv_at hl 0 rfl) ?_
          obtain ⟨r37, e38, h⟩ := Option.bind_eq_some_iff.mp h
          refine rwe_all (st' := [.int r37.1]) hD hS hA (rV (rest := []) F (c_X8_refuse D cA ax s n (F_X5_refusalAsRow (x_sh s k3) (8 : Int32)) r37 e38 l H.size) lk_X8_64 (Nat.le_of_ble_eq_true rfl) (preRW hK hS hAb hP hD) (rcv_8 hK hP (q0 := (0)) (xp_0 cA ax s)) rfl hl rfl (Nat.le_of_ble_eq_true rfl) (dd D_X8_picture 26 rfl) ⟨Nat.le_of_ble_eq_true rfl, Nat.le_of_ble_eq_true rfl⟩) rfl (fun H locs hP hD hS => ?_)
          obtain rfl := Option.some.inj h
          exact rw_i (R := rmOf 6 1 5) F hP hD hS hr hlk ⟨Nat.le_of_ble_eq_true rfl, Nat.le_of_ble_eq_true rfl⟩ ⟨rfl, rfl⟩ (dd D_X8_picture 27 rfl)
      · refine lv_aload_n F.1 F.2.1 (dd D_X8_picture 14 rfl) rfl (lv_at hl 1 rfl) ?_
        refine lv_bipush (v := (-2 : Int32)) F.1 F.2.1 (dd D_X8_picture 15 rfl) kb_m2 ?_
        obtain ⟨r39, e40, h⟩ := Option.bind_eq_some_iff.mp h
        refine rwe_all (st' := [.int r39.1]) hD hS hA (rV (rest := []) F (c_X8_refuse D cA ax s n (-2 : Int32) r39 e40 l H.size) lk_X8_64 (Nat.le_of_ble_eq_true rfl) (preRW hK hS hAb hP hD) (rcv_8 hK hP (q0 := (0)) (xp_0 cA ax s)) rfl hl rfl (Nat.le_of_ble_eq_true rfl) (dd D_X8_picture 16 rfl) ⟨Nat.le_of_ble_eq_true rfl, Nat.le_of_ble_eq_true rfl⟩) rfl (fun H locs hP hD hS => ?_)
        obtain rfl := Option.some.inj h
        exact rw_i (R := rmOf 6 1 5) F hP hD hS hr hlk ⟨Nat.le_of_ble_eq_true rfl, Nat.le_of_ble_eq_true rfl⟩ ⟨rfl, rfl⟩ (dd D_X8_picture 17 rfl)
def F_X8_seen (n : Nat) (s : XS) (p1 : Int32) (p2 : Int32) : Option (Int32 × XS) := bf (F_X8_isDay p1) (bf (F_X8_isIn p2 (0 : Int32) (50 : Int32)) ((((F_X2_pick n s (10 : Int32) p2 (0 : Int32) (0 : Int32) none p1 (1000 : Int32) (0 : Int32))).bind fun r4 => some (r4, s))) ((((F_X8_refuse n s (-2 : Int32))).bind fun r6 => some (r6.1, r6.2)))) ((((F_X8_refuse n s (-2 : Int32))).bind fun r1 => some (r1.1, r1.2)))
set_option maxHeartbeats 4000000 in
set_option maxRecDepth 100000 in
theorem c_X8_seen (D : va_G) (cA : Nat → ClassId) (ax : Nat → Nat) (s : XS) (n : Nat) (p1 : Int32) (p2 : Int32) (r : (Int32 × XS)) (h : F_X8_seen n s p1 p2 = some r) : RW m_X8_seen 6 1 5 D cA [.ref (ax 0), .int p1, .int p2] (xW cA ax s) (exq (some (.int r.1)) (xW cA ax r.2)) := by
  refine RW.ofW gy_X8_seen.2.2 (Nat.le_of_ble_eq_true rfl) ?_
  intro l p e sM m below meth c A H locs F hr hlk hnm hK hP hD hS hA hAb ls hl
  have hl : lv_has ls 3 [(0, .ref (ax 0)), (1, .int p1), (2, .int p2)] := hl
  unfold F_X8_seen at h
  refine lv_iload_n F.1 F.2.1 (dd D_X8_seen 0 rfl) rfl (lv_at hl 1 rfl) ?_
  refine ro_go (st' := [.int (bI (F_X8_isDay p1))]) (rS (rest := []) F (c_X8_isDay D cA p1 l) lk_X8_113 (Nat.le_of_ble_eq_true rfl) (preRO hK hS hAb (emP)) rfl hl rfl (Nat.le_of_ble_eq_true rfl) (dd D_X8_seen 1 rfl) ⟨Nat.le_of_ble_eq_true rfl, Nat.le_of_ble_eq_true rfl⟩) rfl ?_
  refine x_bif_eq (tgt := 17) F.1 F.2.1 (dd D_X8_seen 2 rfl) rfl h (fun c9 h => ?_) (fun c9 h => ?_)
  · refine lv_aload_n F.1 F.2.1 (dd D_X8_seen 8 rfl) rfl (lv_at hl 0 rfl) ?_
    refine lv_bipush (v := (-2 : Int32)) F.1 F.2.1 (dd D_X8_seen 9 rfl) kb_m2 ?_
    obtain ⟨r1, e2, h⟩ := Option.bind_eq_some_iff.mp h
    refine rwe_all (st' := [.int r1.1]) hD hS hA (rV (rest := []) F (c_X8_refuse D cA ax s n (-2 : Int32) r1 e2 l H.size) lk_X8_64 (Nat.le_of_ble_eq_true rfl) (preRW hK hS hAb hP hD) (rcv_8 hK hP (q0 := (0)) (xp_0 cA ax s)) rfl hl rfl (Nat.le_of_ble_eq_true rfl) (dd D_X8_seen 10 rfl) ⟨Nat.le_of_ble_eq_true rfl, Nat.le_of_ble_eq_true rfl⟩) rfl (fun H locs hP hD hS => ?_)
    obtain rfl := Option.some.inj h
    exact rw_i (R := rmOf 6 1 5) F hP hD hS hr hlk ⟨Nat.le_of_ble_eq_true rfl, Nat.le_of_ble_eq_true rfl⟩ ⟨rfl, rfl⟩ (dd D_X8_seen 11 rfl)
  · refine lv_iload_n F.1 F.2.1 (dd D_X8_seen 3 rfl) rfl (lv_at hl 2 rfl) ?_
    refine lv_iconst (v := (0 : Int32)) F.1 F.2.1 (dd D_X8_seen 4 rfl) ki_0 ?_
    refine lv_bipush (v := (50 : Int32)) F.1 F.2.1 (dd D_X8_seen 5 rfl) kb_50 ?_
    refine ro_go (st' := [.int (bI (F_X8_isIn p2 (0 : Int32) (50 : Int32)))]) (rS (rest := []) F (c_X8_isIn D cA p2 (0 : Int32) (50 : Int32) l) lk_X8_60 (Nat.le_of_ble_eq_true rfl) (preRO hK hS hAb (emP)) rfl hl rfl (Nat.le_of_ble_eq_true rfl) (dd D_X8_seen 6 rfl) ⟨Nat.le_of_ble_eq_true rfl, Nat.le_of_ble_eq_true rfl⟩) rfl ?_
    refine x_bif_ne (tgt := 24) F.1 F.2.1 (dd D_X8_seen 7 rfl) rfl h (fun c8 h => ?_) (fun c8 h => ?_)
    · refine lv_aload_n F.1 F.2.1 (dd D_X8_seen 12 rfl) rfl (lv_at hl 0 rfl) ?_
      refine getF F hK hP lf_X8_27 (0) (xp_0 cA ax s) rfl (dd D_X8_seen 13 rfl) ?_
      refine lv_iload_n F.1 F.2.1 (dd D_X8_seen 14 rfl) rfl (lv_at hl 1 rfl) ?_
      refine lv_sipush (v := (1000 : Int32)) F.1 F.2.1 (dd D_X8_seen 15 rfl) ks_1000 ?_
      refine lv_iconst (v := (0 : Int32)) F.1 F.2.1 (dd D_X8_seen 16 rfl) ki_0 ?_
      refine newO F hK hP hD hS hA ln_X8_132 (Nat.le_of_ble_eq_true rfl) (Nat.le_of_ble_eq_true rfl) (dd D_X8_seen 17 rfl) (fun q3 H hP hD hS => ?_)
      refine lv_dup F.1 F.2.1 (dd D_X8_seen 18 rfl) rfl ?_
      refine lv_bipush (v := (10 : Int32)) F.1 F.2.1 (dd D_X8_seen 19 rfl) kb_10 ?_
      refine lv_iload_n F.1 F.2.1 (dd D_X8_seen 20 rfl) rfl (lv_at hl 2 rfl) ?_
      refine lv_iconst (v := (0 : Int32)) F.1 F.2.1 (dd D_X8_seen 21 rfl) ki_0 ?_
      refine lv_iconst (v := (0 : Int32)) F.1 F.2.1 (dd D_X8_seen 22 rfl) ki_0 ?_
      refine rwe (V := none) (wc := [(q3, .inr (4, [.int (0 : Int32), .int (0 : Int32), .int (0 : Int32), .int (0 : Int32), .null]))]) (wc' := [(q3, .inr (4, [.int (10 : Int32), .int p2, .int (0 : Int32), .int (0 : Int32), .null]))]) (st' := [.ref (q3), .int (0 : Int32), .int (1000 : Int32), .int p1, .ref (ax 40)]) (W' := (xW cA ax s) ++ [(q3, .inr (4, [.int (10 : Int32), .int p2, .int (0 : Int32), .int (0 : Int32), .null]))]) hP hD hS hA [63] (jc_last (xp_len cA ax s)) (Nat_nd rfl) rfl (rI (rest := [.ref (q3), .int (0 : Int32), .int (1000 : Int32), .int p1, .ref (ax 40)]) F (c_X4_init__ D cA q3 (10 : Int32) p2 (0 : Int32) (0 : Int32) l H.size) lk_X8_263 (Nat.le_of_ble_eq_true rfl) (preRW hK hS hAb (selP hP (jc_last (xp_len cA ax s))) (selD hD (Nat_nd rfl) (jc_last (xp_len cA ax s)))) rfl hl rfl (Nat.le_of_ble_eq_true rfl) (dd D_X8_seen 23 rfl) ⟨Nat.le_of_ble_eq_true rfl, Nat.le_of_ble_eq_true rfl⟩) (js_last (xp_len cA ax s)) rfl (fun H locs hP hD hS => ?_)
      obtain ⟨r4, e5, h⟩ := Option.bind_eq_some_iff.mp h
      refine ro_go (st' := [.int r4]) (rV (rest := []) F (c_X2_pick D cA ax s q3 (10 : Int32) p2 (0 : Int32) (0 : Int32) none n p1 (1000 : Int32) (0 : Int32) r4 e5 l) lk_X8_256 (Nat.le_of_ble_eq_true rfl) (preRO hK hS hAb hP) (rcv_2 hK hP (q0 := (40)) (gL (xp_40 cA ax s))) rfl hl rfl (Nat.le_of_ble_eq_true rfl) (dd D_X8_seen 24 rfl) ⟨Nat.le_of_ble_eq_true rfl, Nat.le_of_ble_eq_true rfl⟩) rfl ?_
      have hP := preP hP
      have hD := preD hD
      obtain rfl := Option.some.inj h
      exact rw_i (R := rmOf 6 1 5) F hP hD hS hr hlk ⟨Nat.le_of_ble_eq_true rfl, Nat.le_of_ble_eq_true rfl⟩ ⟨rfl, rfl⟩ (dd D_X8_seen 25 rfl)
    · refine lv_aload_n F.1 F.2.1 (dd D_X8_seen 8 rfl) rfl (lv_at hl 0 rfl) ?_
      refine lv_bipush (v := (-2 : Int32)) F.1 F.2.1 (dd D_X8_seen 9 rfl) kb_m2 ?_
      obtain ⟨r6, e7, h⟩ := Option.bind_eq_some_iff.mp h
      refine rwe_all (st' := [.int r6.1]) hD hS hA (rV (rest := []) F (c_X8_refuse D cA ax s n (-2 : Int32) r6 e7 l H.size) lk_X8_64 (Nat.le_of_ble_eq_true rfl) (preRW hK hS hAb hP hD) (rcv_8 hK hP (q0 := (0)) (xp_0 cA ax s)) rfl hl rfl (Nat.le_of_ble_eq_true rfl) (dd D_X8_seen 10 rfl) ⟨Nat.le_of_ble_eq_true rfl, Nat.le_of_ble_eq_true rfl⟩) rfl (fun H locs hP hD hS => ?_)
      obtain rfl := Option.some.inj h
      exact rw_i (R := rmOf 6 1 5) F hP hD hS hr hlk ⟨Nat.le_of_ble_eq_true rfl, Nat.le_of_ble_eq_true rfl⟩ ⟨rfl, rfl⟩ (dd D_X8_seen 11 rfl)
def F_X8_toldByMost_L8 (n : Nat) (u0 : XS) (ky0 : Nat) (v2 : Int32) : Nat → Int32 → Int32 → Int32 → Option Int32
  | 0, _, _, _ => none
  | kf + 1, w3, w4, w5 => (if v2 ≤ w5 then some (w4) else (((F_X5_at n (x_sh u0 ky0) w5)).bind fun r2 => bf (F_X2_couldBegin u0 r2) ((((F_X5_timesOf n (x_sh u0 ky0) r2 v2)).bind fun r4 => (if r4 ≤ w3 then F_X8_toldByMost_L8 n u0 ky0 v2 kf w3 w4 (w5 + (1 : Int32)) else F_X8_toldByMost_L8 n u0 ky0 v2 kf r4 (Int64.toInt32 r2) (w5 + (1 : Int32))))) (F_X8_toldByMost_L8 n u0 ky0 v2 kf w3 w4 (w5 + (1 : Int32)))))
def F_X8_toldByMost (n : Nat) (s : XS) (k : Nat) (p2 : Int32) : Option Int32 := F_X8_toldByMost_L8 n s k p2 n (0 : Int32) (-1 : Int32) (0 : Int32)
set_option maxHeartbeats 4000000 in
set_option maxRecDepth 100000 in
theorem c_X8_toldByMost (D : va_G) (cA : Nat → ClassId) (ax : Nat → Nat) (s : XS) (k : Nat) (hk : k < 8) (n : Nat) (p2 : Int32) (r : Int32) (h : F_X8_toldByMost n s k p2 = some r) : RO m_X8_toldByMost 2 D cA [.ref (ax 0), .ref (ax (46+2*k)), .int p2] (xW cA ax s) (some (.int r)) := by
  refine RO.ofW gy_X8_toldByMost.2.2 (Nat.le_of_ble_eq_true rfl) ?_
  intro l p e sM m below meth c F hr hlk hK hP hS hAb ls hl
  have hl : lv_has ls 9 [(0, .ref (ax 0)), (1, .ref (ax (46+2*k))), (2, .int p2)] := hl
  unfold F_X8_toldByMost at h
  refine lv_iconst (v := (0 : Int32)) F.1 F.2.1 (dd D_X8_toldByMost 0 rfl) ki_0 ?_
  refine lv_istore_n (lv' := [(3, .int (0 : Int32)), (0, .ref (ax 0)), (1, .ref (ax (46+2*k))), (2, .int p2)]) F.1 F.2.1 (dd D_X8_toldByMost 1 rfl) rfl hl (Nat.le_of_ble_eq_true rfl) rfl (fun ls hl => ?_)
  refine lv_iconst (v := (-1 : Int32)) F.1 F.2.1 (dd D_X8_toldByMost 2 rfl) ki_m1 ?_
  refine lv_istore (lv' := [(4, .int (-1 : Int32)), (3, .int (0 : Int32)), (0, .ref (ax 0)), (1, .ref (ax (46+2*k))), (2, .int p2)]) F.1 F.2.1 (dd D_X8_toldByMost 3 rfl) hl (Nat.le_of_ble_eq_true rfl) rfl (fun ls hl => ?_)
  refine lv_iconst (v := (0 : Int32)) F.1 F.2.1 (dd D_X8_toldByMost 4 rfl) ki_0 ?_
  refine lv_istore (lv' := [(5, .int (0 : Int32)), (4, .int (-1 : Int32)), (3, .int (0 : Int32)), (0, .ref (ax 0)), (1, .ref (ax (46+2*k))), (2, .int p2)]) F.1 F.2.1 (dd D_X8_toldByMost 5 rfl) hl (Nat.le_of_ble_eq_true rfl) rfl (fun ls hl => ?_)
  have L8 : ∀ (kf : Nat) (w3_L8 : Int32) (w4_L8 : Int32) (w5_L8 : Int32) (ls : Array Slot), lv_has ls 9 [(0, .ref (ax 0)), (1, .ref (ax (46+2*k))), (2, .int p2), (3, .int w3_L8), (4, .int w4_L8), (5, .int w5_L8)] → F_X8_toldByMost_L8 n s k p2 kf w3_L8 w4_L8 w5_L8 = some r → Wro 2 (some (.int r)) p l e sM m ([.ref (ax 0), .ref (ax (46+2*k)), .int p2] : List Value).toArray below meth c 8 ls [] := by
    intro kf
    induction kf with
    | zero =>
      intro w3_L8 w4_L8 w5_L8 ls hl h
      cases (show none = some r from h)
    | succ k_L8 ih_L8 =>
      intro w3_L8 w4_L8 w5_L8 ls hl h
      unfold F_X8_toldByMost_L8 at h
      refine lv_iload F.1 F.2.1 (dd D_X8_toldByMost 6 rfl) (lv_at hl 5 rfl) ?_
      refine lv_iload_n F.1 F.2.1 (dd D_X8_toldByMost 7 rfl) rfl (lv_at hl 2 rfl) ?_
      refine x_icmp_ge (tgt := 63) F.1 F.2.1 (dd D_X8_toldByMost 8 rfl) rfl h (fun c9 h => ?_) (fun c9 h => ?_)
      · refine lv_iload F.1 F.2.1 (dd D_X8_toldByMost 33 rfl) (lv_at hl 4 rfl) ?_
        exact ro_i (R := rmOf 2 0 0) F hr hlk (congrArg (Option.map Value.int) h) (dd D_X8_toldByMost 34 rfl)
      · refine lv_aload_n F.1 F.2.1 (dd D_X8_toldByMost 9 rfl) rfl (lv_at hl 1 rfl) ?_
        refine lv_iload F.1 F.2.1 (dd D_X8_toldByMost 10 rfl) (lv_at hl 5 rfl) ?_
        obtain ⟨r10, e11, h⟩ := Option.bind_eq_some_iff.mp h
        refine ro_go (st' := [.long r10]) (rV (rest := []) F (c_X5_at D cA (fun i => ax (46+2*k+i)) (x_sh s k) n w5_L8 r10 e11 l) lk_X8_101 (Nat.le_of_ble_eq_true rfl) (preRO hK hS hAb (pg_sh hk hP)) (rcv_5 hK hP (q0 := (46+2*k)) (xp_sh cA ax s k hk)) rfl hl rfl (Nat.le_of_ble_eq_true rfl) (dd D_X8_toldByMost 11 rfl) ⟨Nat.le_of_ble_eq_true rfl, Nat.le_of_ble_eq_true rfl⟩) rfl ?_
        refine lv_lstore (lv' := [(6, .long r10), (0, .ref (ax 0)), (1, .ref (ax (46+2*k))), (2, .int p2), (3, .int w3_L8), (4, .int w4_L8), (5, .int w5_L8)]) F.1 F.2.1 (dd D_X8_toldByMost 12 rfl) hl (Nat.le_of_ble_eq_true rfl) rfl (fun ls hl => ?_)
        refine lv_aload_n F.1 F.2.1 (dd D_X8_toldByMost 13 rfl) rfl (lv_at hl 1 rfl) ?_
        refine getF F hK hP lf_X8_27 (0) (xp_0 cA ax s) rfl (dd D_X8_toldByMost 14 rfl) ?_
        refine lv_lload F.1 F.2.1 (dd D_X8_toldByMost 15 rfl) (lv_at hl 0 rfl) ?_
        refine ro_go (st' := [.int (bI (F_X2_couldBegin s r10))]) (rV (rest := []) F (c_X2_couldBegin D cA ax s r10 l) lk_X8_303 (Nat.le_of_ble_eq_true rfl) (preRO hK hS hAb hP) (rcv_2 hK hP (q0 := (40)) (xp_40 cA ax s)) rfl hl rfl (Nat.le_of_ble_eq_true rfl) (dd D_X8_toldByMost 16 rfl) ⟨Nat.le_of_ble_eq_true rfl, Nat.le_of_ble_eq_true rfl⟩) rfl ?_
        refine x_bif_eq (tgt := 57) F.1 F.2.1 (dd D_X8_toldByMost 17 rfl) rfl h (fun c15 h => ?_) (fun c15 h => ?_)
        · refine lv_iinc (v := (w5_L8 + (1 : Int32))) (lv' := [(5, .int (w5_L8 + (1 : Int32))), (6, .long r10), (0, .ref (ax 0)), (1, .ref (ax (46+2*k))), (2, .int p2), (3, .int w3_L8), (4, .int w4_L8)]) F.1 F.2.1 (dd D_X8_toldByMost 31 rfl) hl (k := 6) rfl (congrArg (fun z => w5_L8 + z) ki_1) (Nat.le_of_ble_eq_true rfl) rfl (fun ls hl => ?_)
          refine lv_goto (tgt := 8) F.1 F.2.1 (dd D_X8_toldByMost 32 rfl) rfl ?_
          exact ih_L8 w3_L8 w4_L8 (w5_L8 + (1 : Int32)) ls (lv_sub hl [2, 3, 4, 5, 6, 0] rfl) h
        · refine lv_aload_n F.1 F.2.1 (dd D_X8_toldByMost 18 rfl) rfl (lv_at hl 2 rfl) ?_
          refine lv_lload F.1 F.2.1 (dd D_X8_toldByMost 19 rfl) (lv_at hl 0 rfl) ?_
          refine lv_iload_n F.1 F.2.1 (dd D_X8_toldByMost 20 rfl) rfl (lv_at hl 3 rfl) ?_
          obtain ⟨r12, e13, h⟩ := Option.bind_eq_some_iff.mp h
          refine ro_go (st' := [.int r12]) (rV (rest := []) F (c_X5_timesOf D cA (fun i => ax (46+2*k+i)) (x_sh s k) n r10 p2 r12 e13 l) lk_X8_370 (Nat.le_of_ble_eq_true rfl) (preRO hK hS hAb (pg_sh hk hP)) (rcv_5 hK hP (q0 := (46+2*k)) (xp_sh cA ax s k hk)) rfl hl rfl (Nat.le_of_ble_eq_true rfl) (dd D_X8_toldByMost 21 rfl) ⟨Nat.le_of_ble_eq_true rfl, Nat.le_of_ble_eq_true rfl⟩) rfl ?_
          refine lv_istore (lv' := [(8, .int r12), (6, .long r10), (0, .ref (ax 0)), (1, .ref (ax (46+2*k))), (2, .int p2), (3, .int w3_L8), (4, .int w4_L8), (5, .int w5_L8)]) F.1 F.2.1 (dd D_X8_toldByMost 22 rfl) hl (Nat.le_of_ble_eq_true rfl) rfl (fun ls hl => ?_)
          refine lv_iload F.1 F.2.1 (dd D_X8_toldByMost 23 rfl) (lv_at hl 0 rfl) ?_
          refine lv_iload_n F.1 F.2.1 (dd D_X8_toldByMost 24 rfl) rfl (lv_at hl 5 rfl) ?_
          refine x_icmp_le (tgt := 57) F.1 F.2.1 (dd D_X8_toldByMost 25 rfl) rfl h (fun c14 h => ?_) (fun c14 h => ?_)
          · refine lv_iinc (v := (w5_L8 + (1 : Int32))) (lv' := [(5, .int (w5_L8 + (1 : Int32))), (8, .int r12), (6, .long r10), (0, .ref (ax 0)), (1, .ref (ax (46+2*k))), (2, .int p2), (3, .int w3_L8), (4, .int w4_L8)]) F.1 F.2.1 (dd D_X8_toldByMost 31 rfl) hl (k := 7) rfl (congrArg (fun z => w5_L8 + z) ki_1) (Nat.le_of_ble_eq_true rfl) rfl (fun ls hl => ?_)
            refine lv_goto (tgt := 8) F.1 F.2.1 (dd D_X8_toldByMost 32 rfl) rfl ?_
            exact ih_L8 w3_L8 w4_L8 (w5_L8 + (1 : Int32)) ls (lv_sub hl [3, 4, 5, 6, 7, 0] rfl) h
          · refine lv_iload F.1 F.2.1 (dd D_X8_toldByMost 26 rfl) (lv_at hl 0 rfl) ?_
            refine lv_istore_n (lv' := [(3, .int r12), (8, .int r12), (6, .long r10), (0, .ref (ax 0)), (1, .ref (ax (46+2*k))), (2, .int p2), (4, .int w4_L8), (5, .int w5_L8)]) F.1 F.2.1 (dd D_X8_toldByMost 27 rfl) rfl hl (Nat.le_of_ble_eq_true rfl) rfl (fun ls hl => ?_)
            refine lv_lload F.1 F.2.1 (dd D_X8_toldByMost 28 rfl) (lv_at hl 2 rfl) ?_
            refine lv_l2i (v := (Int64.toInt32 r10)) F.1 F.2.1 (dd D_X8_toldByMost 29 rfl) rfl ?_
            refine lv_istore (lv' := [(4, .int (Int64.toInt32 r10)), (3, .int r12), (8, .int r12), (6, .long r10), (0, .ref (ax 0)), (1, .ref (ax (46+2*k))), (2, .int p2), (5, .int w5_L8)]) F.1 F.2.1 (dd D_X8_toldByMost 30 rfl) hl (Nat.le_of_ble_eq_true rfl) rfl (fun ls hl => ?_)
            refine lv_iinc (v := (w5_L8 + (1 : Int32))) (lv' := [(5, .int (w5_L8 + (1 : Int32))), (4, .int (Int64.toInt32 r10)), (3, .int r12), (8, .int r12), (6, .long r10), (0, .ref (ax 0)), (1, .ref (ax (46+2*k))), (2, .int p2)]) F.1 F.2.1 (dd D_X8_toldByMost 31 rfl) hl (k := 7) rfl (congrArg (fun z => w5_L8 + z) ki_1) (Nat.le_of_ble_eq_true rfl) rfl (fun ls hl => ?_)
            refine lv_goto (tgt := 8) F.1 F.2.1 (dd D_X8_toldByMost 32 rfl) rfl ?_
            exact ih_L8 r12 (Int64.toInt32 r10) (w5_L8 + (1 : Int32)) ls (lv_sub hl [5, 6, 7, 2, 1, 0] rfl) h
  exact L8 n (0 : Int32) (-1 : Int32) (0 : Int32) ls (lv_sub hl [3, 4, 5, 2, 1, 0] rfl) h
