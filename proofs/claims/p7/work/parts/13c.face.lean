def F_X8_refuseFarBelow (n : Nat) (s : XS) (p1 : Int32) : Option (Int32 × XS) := (((F_X8_refuse n s p1)).bind fun r1 => some (((-1000000 : Int32) + r1.1), r1.2))
set_option maxHeartbeats 4000000 in
set_option maxRecDepth 100000 in
theorem c_X8_refuseFarBelow (D : va_G) (cA : Nat → ClassId) (ax : Nat → Nat) (s : XS) (n : Nat) (p1 : Int32) (r : (Int32 × XS)) (h : F_X8_refuseFarBelow n s p1 = some r) : RW m_X8_refuseFarBelow 1 0 0 D cA [.ref (ax 0), .int p1] (xW cA ax s) (exq (some (.int r.1)) (xW cA ax r.2)) := by
  refine RW.ofW gy_X8_refuseFarBelow.2.2 (Nat.le_of_ble_eq_true rfl) ?_
  intro l p e sM m below meth c A H locs F hr hlk hnm hK hP hD hS hA hAb ls hl
  have hl : lv_has ls 2 [(0, .ref (ax 0)), (1, .int p1)] := hl
  unfold F_X8_refuseFarBelow at h
  refine lv_ldcw (own := RX8) (v := (-1000000 : Int32)) F.1 F.2.1 F.2.2.2.1 (F.2.2.2.2 _ (w_809)) (dd D_X8_refuseFarBelow 0 rfl) ?_
  refine lv_aload_n F.1 F.2.1 (dd D_X8_refuseFarBelow 1 rfl) rfl (lv_at hl 0 rfl) ?_
  refine lv_iload_n F.1 F.2.1 (dd D_X8_refuseFarBelow 2 rfl) rfl (lv_at hl 1 rfl) ?_
  obtain ⟨r1, e2, h⟩ := Option.bind_eq_some_iff.mp h
  refine rwe_all (st' := [.int r1.1, .int (-1000000 : Int32)]) hD hS hA (rV (rest := [.int (-1000000 : Int32)]) F (c_X8_refuse D cA ax s n p1 r1 e2 l H.size) lk_X8_64 (Nat.le_of_ble_eq_true rfl) (preRW hK hS hAb hP hD) (rcv_8 hK hP (q0 := (0)) (xp_0 cA ax s)) rfl hl rfl (Nat.le_of_ble_eq_true rfl) (dd D_X8_refuseFarBelow 3 rfl) ⟨Nat.le_of_ble_eq_true rfl, Nat.le_of_ble_eq_true rfl⟩) rfl (fun H locs hP hD hS => ?_)
  refine lv_iadd F.1 F.2.1 (dd D_X8_refuseFarBelow 4 rfl) ?_
  obtain rfl := Option.some.inj h
  exact rw_i (R := rmOf 1 0 0) F hP hD hS hr hlk ⟨Nat.le_of_ble_eq_true rfl, Nat.le_of_ble_eq_true rfl⟩ ⟨rfl, rfl⟩ (dd D_X8_refuseFarBelow 5 rfl)
def F_X8_slant (n : Nat) (s : XS) (p1 : Int32) : Option (Int32 × XS) := bf (F_X8_isDay p1) (some ((F_X2_slantOf s p1), s)) ((((F_X8_refuseFarBelow n s (-2 : Int32))).bind fun r1 => some (r1.1, r1.2)))
set_option maxHeartbeats 4000000 in
set_option maxRecDepth 100000 in
theorem c_X8_slant (D : va_G) (cA : Nat → ClassId) (ax : Nat → Nat) (s : XS) (n : Nat) (p1 : Int32) (r : (Int32 × XS)) (h : F_X8_slant n s p1 = some r) : RW m_X8_slant 2 0 0 D cA [.ref (ax 0), .int p1] (xW cA ax s) (exq (some (.int r.1)) (xW cA ax r.2)) := by
  refine RW.ofW gy_X8_slant.2.2 (Nat.le_of_ble_eq_true rfl) ?_
  intro l p e sM m below meth c A H locs F hr hlk hnm hK hP hD hS hA hAb ls hl
  have hl : lv_has ls 2 [(0, .ref (ax 0)), (1, .int p1)] := hl
  unfold F_X8_slant at h
  refine lv_iload_n F.1 F.2.1 (dd D_X8_slant 0 rfl) rfl (lv_at hl 1 rfl) ?_
  refine ro_go (st' := [.int (bI (F_X8_isDay p1))]) (rS (rest := []) F (c_X8_isDay D cA p1 l) lk_X8_113 (Nat.le_of_ble_eq_true rfl) (preRO hK hS hAb (emP)) rfl hl rfl (Nat.le_of_ble_eq_true rfl) (dd D_X8_slant 1 rfl) ⟨Nat.le_of_ble_eq_true rfl, Nat.le_of_ble_eq_true rfl⟩) rfl ?_
  refine x_bif_eq (tgt := 18) F.1 F.2.1 (dd D_X8_slant 2 rfl) rfl h (fun c3 h => ?_) (fun c3 h => ?_)
  · refine lv_aload_n F.1 F.2.1 (dd D_X8_slant 8 rfl) rfl (lv_at hl 0 rfl) ?_
    refine lv_bipush (v := (-2 : Int32)) F.1 F.2.1 (dd D_X8_slant 9 rfl) kb_m2 ?_
    obtain ⟨r1, e2, h⟩ := Option.bind_eq_some_iff.mp h
    refine rwe_all (st' := [.int r1.1]) hD hS hA (rV (rest := []) F (c_X8_refuseFarBelow D cA ax s n (-2 : Int32) r1 e2 l H.size) lk_X8_240 (Nat.le_of_ble_eq_true rfl) (preRW hK hS hAb hP hD) (rcv_8 hK hP (q0 := (0)) (xp_0 cA ax s)) rfl hl rfl (Nat.le_of_ble_eq_true rfl) (dd D_X8_slant 10 rfl) ⟨Nat.le_of_ble_eq_true rfl, Nat.le_of_ble_eq_true rfl⟩) rfl (fun H locs hP hD hS => ?_)
    obtain rfl := Option.some.inj h
    exact rw_i (R := rmOf 2 0 0) F hP hD hS hr hlk ⟨Nat.le_of_ble_eq_true rfl, Nat.le_of_ble_eq_true rfl⟩ ⟨rfl, rfl⟩ (dd D_X8_slant 11 rfl)
  · refine lv_aload_n F.1 F.2.1 (dd D_X8_slant 3 rfl) rfl (lv_at hl 0 rfl) ?_
    refine getF F hK hP lf_X8_27 (0) (xp_0 cA ax s) rfl (dd D_X8_slant 4 rfl) ?_
    refine lv_iload_n F.1 F.2.1 (dd D_X8_slant 5 rfl) rfl (lv_at hl 1 rfl) ?_
    refine ro_go (st' := [.int (F_X2_slantOf s p1)]) (rV (rest := []) F (c_X2_slantOf D cA ax s p1 l) lk_X8_237 (Nat.le_of_ble_eq_true rfl) (preRO hK hS hAb hP) (rcv_2 hK hP (q0 := (40)) (xp_40 cA ax s)) rfl hl rfl (Nat.le_of_ble_eq_true rfl) (dd D_X8_slant 6 rfl) ⟨Nat.le_of_ble_eq_true rfl, Nat.le_of_ble_eq_true rfl⟩) rfl ?_
    refine lv_goto (tgt := 24) F.1 F.2.1 (dd D_X8_slant 7 rfl) rfl ?_
    obtain rfl := Option.some.inj h
    exact rw_i (R := rmOf 2 0 0) F hP hD hS hr hlk ⟨Nat.le_of_ble_eq_true rfl, Nat.le_of_ble_eq_true rfl⟩ ⟨rfl, rfl⟩ (dd D_X8_slant 11 rfl)
def F_X8_behind (n : Nat) (s : XS) (p1 : Int32) : Option (Int32 × XS) := bf (F_X8_isDay p1) ((((F_X2_behindOf n s p1)).bind fun r3 => some (r3, s))) ((((F_X8_refuse n s (-2 : Int32))).bind fun r1 => some (r1.1, r1.2)))
set_option maxHeartbeats 4000000 in
set_option maxRecDepth 100000 in
theorem c_X8_behind (D : va_G) (cA : Nat → ClassId) (ax : Nat → Nat) (s : XS) (n : Nat) (p1 : Int32) (r : (Int32 × XS)) (h : F_X8_behind n s p1 = some r) : RW m_X8_behind 4 0 0 D cA [.ref (ax 0), .int p1] (xW cA ax s) (exq (some (.int r.1)) (xW cA ax r.2)) := by
  refine RW.ofW gy_X8_behind.2.2 (Nat.le_of_ble_eq_true rfl) ?_
  intro l p e sM m below meth c A H locs F hr hlk hnm hK hP hD hS hA hAb ls hl
  have hl : lv_has ls 2 [(0, .ref (ax 0)), (1, .int p1)] := hl
  unfold F_X8_behind at h
  refine lv_iload_n F.1 F.2.1 (dd D_X8_behind 0 rfl) rfl (lv_at hl 1 rfl) ?_
  refine ro_go (st' := [.int (bI (F_X8_isDay p1))]) (rS (rest := []) F (c_X8_isDay D cA p1 l) lk_X8_113 (Nat.le_of_ble_eq_true rfl) (preRO hK hS hAb (emP)) rfl hl rfl (Nat.le_of_ble_eq_true rfl) (dd D_X8_behind 1 rfl) ⟨Nat.le_of_ble_eq_true rfl, Nat.le_of_ble_eq_true rfl⟩) rfl ?_
  refine x_bif_eq (tgt := 18) F.1 F.2.1 (dd D_X8_behind 2 rfl) rfl h (fun c5 h => ?_) (fun c5 h => ?_)
  · refine lv_aload_n F.1 F.2.1 (dd D_X8_behind 8 rfl) rfl (lv_at hl 0 rfl) ?_
    refine lv_bipush (v := (-2 : Int32)) F.1 F.2.1 (dd D_X8_behind 9 rfl) kb_m2 ?_
    obtain ⟨r1, e2, h⟩ := Option.bind_eq_some_iff.mp h
    refine rwe_all (st' := [.int r1.1]) hD hS hA (rV (rest := []) F (c_X8_refuse D cA ax s n (-2 : Int32) r1 e2 l H.size) lk_X8_64 (Nat.le_of_ble_eq_true rfl) (preRW hK hS hAb hP hD) (rcv_8 hK hP (q0 := (0)) (xp_0 cA ax s)) rfl hl rfl (Nat.le_of_ble_eq_true rfl) (dd D_X8_behind 10 rfl) ⟨Nat.le_of_ble_eq_true rfl, Nat.le_of_ble_eq_true rfl⟩) rfl (fun H locs hP hD hS => ?_)
    obtain rfl := Option.some.inj h
    exact rw_i (R := rmOf 4 0 0) F hP hD hS hr hlk ⟨Nat.le_of_ble_eq_true rfl, Nat.le_of_ble_eq_true rfl⟩ ⟨rfl, rfl⟩ (dd D_X8_behind 11 rfl)
  · refine lv_aload_n F.1 F.2.1 (dd D_X8_behind 3 rfl) rfl (lv_at hl 0 rfl) ?_
    refine getF F hK hP lf_X8_27 (0) (xp_0 cA ax s) rfl (dd D_X8_behind 4 rfl) ?_
    refine lv_iload_n F.1 F.2.1 (dd D_X8_behind 5 rfl) rfl (lv_at hl 1 rfl) ?_
    obtain ⟨r3, e4, h⟩ := Option.bind_eq_some_iff.mp h
    refine ro_go (st' := [.int r3]) (rV (rest := []) F (c_X2_behindOf D cA ax s n p1 r3 e4 l) lk_X8_243 (Nat.le_of_ble_eq_true rfl) (preRO hK hS hAb hP) (rcv_2 hK hP (q0 := (40)) (xp_40 cA ax s)) rfl hl rfl (Nat.le_of_ble_eq_true rfl) (dd D_X8_behind 6 rfl) ⟨Nat.le_of_ble_eq_true rfl, Nat.le_of_ble_eq_true rfl⟩) rfl ?_
    refine lv_goto (tgt := 24) F.1 F.2.1 (dd D_X8_behind 7 rfl) rfl ?_
    obtain rfl := Option.some.inj h
    exact rw_i (R := rmOf 4 0 0) F hP hD hS hr hlk ⟨Nat.le_of_ble_eq_true rfl, Nat.le_of_ble_eq_true rfl⟩ ⟨rfl, rfl⟩ (dd D_X8_behind 11 rfl)
def F_X8_is (n : Nat) (s : XS) (p1 : Int32) (p2 : Int32) : Option (Int32 × XS) := bf (F_X8_isDay p1) (bf (F_X8_isKind p2) ((((F_X2_fits n s p2 (0 : Int32) (0 : Int32) (0 : Int32) none p1)).bind fun r4 => bf r4 (some ((1 : Int32), s)) (some ((0 : Int32), s)))) ((((F_X8_refuse n s (-2 : Int32))).bind fun r7 => some (r7.1, r7.2)))) ((((F_X8_refuse n s (-2 : Int32))).bind fun r1 => some (r1.1, r1.2)))
set_option maxHeartbeats 4000000 in
set_option maxRecDepth 100000 in
theorem c_X8_is (D : va_G) (cA : Nat → ClassId) (ax : Nat → Nat) (s : XS) (n : Nat) (p1 : Int32) (p2 : Int32) (r : (Int32 × XS)) (h : F_X8_is n s p1 p2 = some r) : RW m_X8_is 5 1 5 D cA [.ref (ax 0), .int p1, .int p2] (xW cA ax s) (exq (some (.int r.1)) (xW cA ax r.2)) := by
  refine RW.ofW gy_X8_is.2.2 (Nat.le_of_ble_eq_true rfl) ?_
  intro l p e sM m below meth c A H locs F hr hlk hnm hK hP hD hS hA hAb ls hl
  have hl : lv_has ls 3 [(0, .ref (ax 0)), (1, .int p1), (2, .int p2)] := hl
  unfold F_X8_is at h
  refine lv_iload_n F.1 F.2.1 (dd D_X8_is 0 rfl) rfl (lv_at hl 1 rfl) ?_
  refine ro_go (st' := [.int (bI (F_X8_isDay p1))]) (rS (rest := []) F (c_X8_isDay D cA p1 l) lk_X8_113 (Nat.le_of_ble_eq_true rfl) (preRO hK hS hAb (emP)) rfl hl rfl (Nat.le_of_ble_eq_true rfl) (dd D_X8_is 1 rfl) ⟨Nat.le_of_ble_eq_true rfl, Nat.le_of_ble_eq_true rfl⟩) rfl ?_
  refine x_bif_eq (tgt := 14) F.1 F.2.1 (dd D_X8_is 2 rfl) rfl h (fun c10 h => ?_) (fun c10 h => ?_)
  · refine lv_aload_n F.1 F.2.1 (dd D_X8_is 6 rfl) rfl (lv_at hl 0 rfl) ?_
    refine lv_bipush (v := (-2 : Int32)) F.1 F.2.1 (dd D_X8_is 7 rfl) kb_m2 ?_
    obtain ⟨r1, e2, h⟩ := Option.bind_eq_some_iff.mp h
    refine rwe_all (st' := [.int r1.1]) hD hS hA (rV (rest := []) F (c_X8_refuse D cA ax s n (-2 : Int32) r1 e2 l H.size) lk_X8_64 (Nat.le_of_ble_eq_true rfl) (preRW hK hS hAb hP hD) (rcv_8 hK hP (q0 := (0)) (xp_0 cA ax s)) rfl hl rfl (Nat.le_of_ble_eq_true rfl) (dd D_X8_is 8 rfl) ⟨Nat.le_of_ble_eq_true rfl, Nat.le_of_ble_eq_true rfl⟩) rfl (fun H locs hP hD hS => ?_)
    obtain rfl := Option.some.inj h
    exact rw_i (R := rmOf 5 1 5) F hP hD hS hr hlk ⟨Nat.le_of_ble_eq_true rfl, Nat.le_of_ble_eq_true rfl⟩ ⟨rfl, rfl⟩ (dd D_X8_is 9 rfl)
  · refine lv_iload_n F.1 F.2.1 (dd D_X8_is 3 rfl) rfl (lv_at hl 2 rfl) ?_
    refine ro_go (st' := [.int (bI (F_X8_isKind p2))]) (rS (rest := []) F (c_X8_isKind D cA p2 l) lk_X8_109 (Nat.le_of_ble_eq_true rfl) (preRO hK hS hAb (emP)) rfl hl rfl (Nat.le_of_ble_eq_true rfl) (dd D_X8_is 4 rfl) ⟨Nat.le_of_ble_eq_true rfl, Nat.le_of_ble_eq_true rfl⟩) rfl ?_
    refine x_bif_ne (tgt := 21) F.1 F.2.1 (dd D_X8_is 5 rfl) rfl h (fun c9 h => ?_) (fun c9 h => ?_)
    · refine lv_aload_n F.1 F.2.1 (dd D_X8_is 10 rfl) rfl (lv_at hl 0 rfl) ?_
      refine getF F hK hP lf_X8_27 (0) (xp_0 cA ax s) rfl (dd D_X8_is 11 rfl) ?_
      refine newO F hK hP hD hS hA ln_X8_132 (Nat.le_of_ble_eq_true rfl) (Nat.le_of_ble_eq_true rfl) (dd D_X8_is 12 rfl) (fun q3 H hP hD hS => ?_)
      refine lv_dup F.1 F.2.1 (dd D_X8_is 13 rfl) rfl ?_
      refine lv_iload_n F.1 F.2.1 (dd D_X8_is 14 rfl) rfl (lv_at hl 2 rfl) ?_
      refine rwe (V := none) (wc := [(q3, .inr (4, [.int (0 : Int32), .int (0 : Int32), .int (0 : Int32), .int (0 : Int32), .null]))]) (wc' := [(q3, .inr (4, [.int p2, .int (0 : Int32), .int (0 : Int32), .int (0 : Int32), .null]))]) (st' := [.ref (q3), .ref (ax 40)]) (W' := (xW cA ax s) ++ [(q3, .inr (4, [.int p2, .int (0 : Int32), .int (0 : Int32), .int (0 : Int32), .null]))]) hP hD hS hA [63] (jc_last (xp_len cA ax s)) (Nat_nd rfl) rfl (rI (rest := [.ref (q3), .ref (ax 40)]) F (c_X4_init_ D cA q3 p2 l H.size) lk_X8_134 (Nat.le_of_ble_eq_true rfl) (preRW hK hS hAb (selP hP (jc_last (xp_len cA ax s))) (selD hD (Nat_nd rfl) (jc_last (xp_len cA ax s)))) rfl hl rfl (Nat.le_of_ble_eq_true rfl) (dd D_X8_is 15 rfl) ⟨Nat.le_of_ble_eq_true rfl, Nat.le_of_ble_eq_true rfl⟩) (js_last (xp_len cA ax s)) rfl (fun H locs hP hD hS => ?_)
      refine lv_iload_n F.1 F.2.1 (dd D_X8_is 16 rfl) rfl (lv_at hl 1 rfl) ?_
      obtain ⟨r4, e5, h⟩ := Option.bind_eq_some_iff.mp h
      refine ro_go (st' := [.int (bI r4)]) (rV (rest := []) F (c_X2_fits D cA ax s q3 p2 (0 : Int32) (0 : Int32) (0 : Int32) none n p1 r4 e5 l) lk_X8_137 (Nat.le_of_ble_eq_true rfl) (preRO hK hS hAb hP) (rcv_2 hK hP (q0 := (40)) (gL (xp_40 cA ax s))) rfl hl rfl (Nat.le_of_ble_eq_true rfl) (dd D_X8_is 17 rfl) ⟨Nat.le_of_ble_eq_true rfl, Nat.le_of_ble_eq_true rfl⟩) rfl ?_
      refine x_bif_eq (tgt := 44) F.1 F.2.1 (dd D_X8_is 18 rfl) rfl h (fun c6 h => ?_) (fun c6 h => ?_)
      · refine lv_iconst (v := (0 : Int32)) F.1 F.2.1 (dd D_X8_is 21 rfl) ki_0 ?_
        have hP := preP hP
        have hD := preD hD
        obtain rfl := Option.some.inj h
        exact rw_i (R := rmOf 5 1 5) F hP hD hS hr hlk ⟨Nat.le_of_ble_eq_true rfl, Nat.le_of_ble_eq_true rfl⟩ ⟨rfl, rfl⟩ (dd D_X8_is 22 rfl)
      · refine lv_iconst (v := (1 : Int32)) F.1 F.2.1 (dd D_X8_is 19 rfl) ki_1 ?_
        refine lv_goto (tgt := 45) F.1 F.2.1 (dd D_X8_is 20 rfl) rfl ?_
        have hP := preP hP
        have hD := preD hD
        obtain rfl := Option.some.inj h
        exact rw_i (R := rmOf 5 1 5) F hP hD hS hr hlk ⟨Nat.le_of_ble_eq_true rfl, Nat.le_of_ble_eq_true rfl⟩ ⟨rfl, rfl⟩ (dd D_X8_is 22 rfl)
    · refine lv_aload_n F.1 F.2.1 (dd D_X8_is 6 rfl) rfl (lv_at hl 0 rfl) ?_
      refine lv_bipush (v := (-2 : Int32)) F.1 F.2.1 (dd D_X8_is 7 rfl) kb_m2 ?_
      obtain ⟨r7, e8, h⟩ := Option.bind_eq_some_iff.mp h
      refine rwe_all (st' := [.int r7.1]) hD hS hA (rV (rest := []) F (c_X8_refuse D cA ax s n (-2 : Int32) r7 e8 l H.size) lk_X8_64 (Nat.le_of_ble_eq_true rfl) (preRW hK hS hAb hP hD) (rcv_8 hK hP (q0 := (0)) (xp_0 cA ax s)) rfl hl rfl (Nat.le_of_ble_eq_true rfl) (dd D_X8_is 8 rfl) ⟨Nat.le_of_ble_eq_true rfl, Nat.le_of_ble_eq_true rfl⟩) rfl (fun H locs hP hD hS => ?_)
      obtain rfl := Option.some.inj h
      exact rw_i (R := rmOf 5 1 5) F hP hD hS hr hlk ⟨Nat.le_of_ble_eq_true rfl, Nat.le_of_ble_eq_true rfl⟩ ⟨rfl, rfl⟩ (dd D_X8_is 9 rfl)
def F_X8_shines (n : Nat) (s : XS) (p1 : Int32) (p2 : Int32) (p3 : Int32) : Option (Int32 × XS) := bf (F_X8_isDay p1) (bf (F_X8_areMinutes p2 p3) ((((F_X2_shinesOf n s p1 p2 p3)).bind fun r3 => some (r3, s))) ((((F_X8_refuse n s (-2 : Int32))).bind fun r5 => some (r5.1, r5.2)))) ((((F_X8_refuse n s (-2 : Int32))).bind fun r1 => some (r1.1, r1.2)))
set_option maxHeartbeats 4000000 in
set_option maxRecDepth 100000 in
theorem c_X8_shines (D : va_G) (cA : Nat → ClassId) (ax : Nat → Nat) (s : XS) (n : Nat) (p1 : Int32) (p2 : Int32) (p3 : Int32) (r : (Int32 × XS)) (h : F_X8_shines n s p1 p2 p3 = some r) : RW m_X8_shines 4 0 0 D cA [.ref (ax 0), .int p1, .int p2, .int p3] (xW cA ax s) (exq (some (.int r.1)) (xW cA ax r.2)) := by
  refine RW.ofW gy_X8_shines.2.2 (Nat.le_of_ble_eq_true rfl) ?_
  intro l p e sM m below meth c A H locs F hr hlk hnm hK hP hD hS hA hAb ls hl
  have hl : lv_has ls 4 [(0, .ref (ax 0)), (1, .int p1), (2, .int p2), (3, .int p3)] := hl
  unfold F_X8_shines at h
  refine lv_iload_n F.1 F.2.1 (dd D_X8_shines 0 rfl) rfl (lv_at hl 1 rfl) ?_
  refine ro_go (st' := [.int (bI (F_X8_isDay p1))]) (rS (rest := []) F (c_X8_isDay D cA p1 l) lk_X8_113 (Nat.le_of_ble_eq_true rfl) (preRO hK hS hAb (emP)) rfl hl rfl (Nat.le_of_ble_eq_true rfl) (dd D_X8_shines 1 rfl) ⟨Nat.le_of_ble_eq_true rfl, Nat.le_of_ble_eq_true rfl⟩) rfl ?_
  refine x_bif_eq (tgt := 15) F.1 F.2.1 (dd D_X8_shines 2 rfl) rfl h (fun c8 h => ?_) (fun c8 h => ?_)
  · refine lv_aload_n F.1 F.2.1 (dd D_X8_shines 7 rfl) rfl (lv_at hl 0 rfl) ?_
    refine lv_bipush (v := (-2 : Int32)) F.1 F.2.1 (dd D_X8_shines 8 rfl) kb_m2 ?_
    obtain ⟨r1, e2, h⟩ := Option.bind_eq_some_iff.mp h
    refine rwe_all (st' := [.int r1.1]) hD hS hA (rV (rest := []) F (c_X8_refuse D cA ax s n (-2 : Int32) r1 e2 l H.size) lk_X8_64 (Nat.le_of_ble_eq_true rfl) (preRW hK hS hAb hP hD) (rcv_8 hK hP (q0 := (0)) (xp_0 cA ax s)) rfl hl rfl (Nat.le_of_ble_eq_true rfl) (dd D_X8_shines 9 rfl) ⟨Nat.le_of_ble_eq_true rfl, Nat.le_of_ble_eq_true rfl⟩) rfl (fun H locs hP hD hS => ?_)
    obtain rfl := Option.some.inj h
    exact rw_i (R := rmOf 4 0 0) F hP hD hS hr hlk ⟨Nat.le_of_ble_eq_true rfl, Nat.le_of_ble_eq_true rfl⟩ ⟨rfl, rfl⟩ (dd D_X8_shines 10 rfl)
  · refine lv_iload_n F.1 F.2.1 (dd D_X8_shines 3 rfl) rfl (lv_at hl 2 rfl) ?_
    refine lv_iload_n F.1 F.2.1 (dd D_X8_shines 4 rfl) rfl (lv_at hl 3 rfl) ?_
    refine ro_go (st' := [.int (bI (F_X8_areMinutes p2 p3))]) (rS (rest := []) F (c_X8_areMinutes D cA p2 p3 l) lk_X8_246 (Nat.le_of_ble_eq_true rfl) (preRO hK hS hAb (emP)) rfl hl rfl (Nat.le_of_ble_eq_true rfl) (dd D_X8_shines 5 rfl) ⟨Nat.le_of_ble_eq_true rfl, Nat.le_of_ble_eq_true rfl⟩) rfl ?_
    refine x_bif_ne (tgt := 22) F.1 F.2.1 (dd D_X8_shines 6 rfl) rfl h (fun c7 h => ?_) (fun c7 h => ?_)
    · refine lv_aload_n F.1 F.2.1 (dd D_X8_shines 11 rfl) rfl (lv_at hl 0 rfl) ?_
      refine getF F hK hP lf_X8_27 (0) (xp_0 cA ax s) rfl (dd D_X8_shines 12 rfl) ?_
      refine lv_iload_n F.1 F.2.1 (dd D_X8_shines 13 rfl) rfl (lv_at hl 1 rfl) ?_
      refine lv_iload_n F.1 F.2.1 (dd D_X8_shines 14 rfl) rfl (lv_at hl 2 rfl) ?_
      refine lv_iload_n F.1 F.2.1 (dd D_X8_shines 15 rfl) rfl (lv_at hl 3 rfl) ?_
      obtain ⟨r3, e4, h⟩ := Option.bind_eq_some_iff.mp h
      refine ro_go (st' := [.int r3]) (rV (rest := []) F (c_X2_shinesOf D cA ax s n p1 p2 p3 r3 e4 l) lk_X8_249 (Nat.le_of_ble_eq_true rfl) (preRO hK hS hAb hP) (rcv_2 hK hP (q0 := (40)) (xp_40 cA ax s)) rfl hl rfl (Nat.le_of_ble_eq_true rfl) (dd D_X8_shines 16 rfl) ⟨Nat.le_of_ble_eq_true rfl, Nat.le_of_ble_eq_true rfl⟩) rfl ?_
      obtain rfl := Option.some.inj h
      exact rw_i (R := rmOf 4 0 0) F hP hD hS hr hlk ⟨Nat.le_of_ble_eq_true rfl, Nat.le_of_ble_eq_true rfl⟩ ⟨rfl, rfl⟩ (dd D_X8_shines 17 rfl)
    · refine lv_aload_n F.1 F.2.1 (dd D_X8_shines 7 rfl) rfl (lv_at hl 0 rfl) ?_
      refine lv_bipush (v := (-2 : Int32)) F.1 F.2.1 (dd D_X8_shines 8 rfl) kb_m2 ?_
      obtain ⟨r5, e6, h⟩ := Option.bind_eq_some_iff.mp h
      refine rwe_all (st' := [.int r5.1]) hD hS hA (rV (rest := []) F (c_X8_refuse D cA ax s n (-2 : Int32) r5 e6 l H.size) lk_X8_64 (Nat.le_of_ble_eq_true rfl) (preRW hK hS hAb hP hD) (rcv_8 hK hP (q0 := (0)) (xp_0 cA ax s)) rfl hl rfl (Nat.le_of_ble_eq_true rfl) (dd D_X8_shines 9 rfl) ⟨Nat.le_of_ble_eq_true rfl, Nat.le_of_ble_eq_true rfl⟩) rfl (fun H locs hP hD hS => ?_)
      obtain rfl := Option.some.inj h
      exact rw_i (R := rmOf 4 0 0) F hP hD hS hr hlk ⟨Nat.le_of_ble_eq_true rfl, Nat.le_of_ble_eq_true rfl⟩ ⟨rfl, rfl⟩ (dd D_X8_shines 10 rfl)
def F_X8_light (n : Nat) (s : XS) (p1 : Int32) (p2 : Int32) (p3 : Int32) : Option (Int32 × XS) := bf (F_X8_isDay p1) (bf (F_X8_areMinutes p2 p3) ((((F_X2_lightOf n s p1 p2 p3)).bind fun r3 => some (r3, s))) ((((F_X8_refuse n s (-2 : Int32))).bind fun r5 => some (r5.1, r5.2)))) ((((F_X8_refuse n s (-2 : Int32))).bind fun r1 => some (r1.1, r1.2)))
set_option maxHeartbeats 4000000 in
set_option maxRecDepth 100000 in
theorem c_X8_light (D : va_G) (cA : Nat → ClassId) (ax : Nat → Nat) (s : XS) (n : Nat) (p1 : Int32) (p2 : Int32) (p3 : Int32) (r : (Int32 × XS)) (h : F_X8_light n s p1 p2 p3 = some r) : RW m_X8_light 4 0 0 D cA [.ref (ax 0), .int p1, .int p2, .int p3] (xW cA ax s) (exq (some (.int r.1)) (xW cA ax r.2)) := by
  refine RW.ofW gy_X8_light.2.2 (Nat.le_of_ble_eq_true rfl) ?_
  intro l p e sM m below meth c A H locs F hr hlk hnm hK hP hD hS hA hAb ls hl
  have hl : lv_has ls 4 [(0, .ref (ax 0)), (1, .int p1), (2, .int p2), (3, .int p3)] := hl
  unfold F_X8_light at h
  refine lv_iload_n F.1 F.2.1 (dd D_X8_light 0 rfl) rfl (lv_at hl 1 rfl) ?_
  refine ro_go (st' := [.int (bI (F_X8_isDay p1))]) (rS (rest := []) F (c_X8_isDay D cA p1 l) lk_X8_113 (Nat.le_of_ble_eq_true rfl) (preRO hK hS hAb (emP)) rfl hl rfl (Nat.le_of_ble_eq_true rfl) (dd D_X8_light 1 rfl) ⟨Nat.le_of_ble_eq_true rfl, Nat.le_of_ble_eq_true rfl⟩) rfl ?_
  refine x_bif_eq (tgt := 15) F.1 F.2.1 (dd D_X8_light 2 rfl) rfl h (fun c8 h => ?_) (fun c8 h => ?_)
  · refine lv_aload_n F.1 F.2.1 (dd D_X8_light 7 rfl) rfl (lv_at hl 0 rfl) ?_
    refine lv_bipush (v := (-2 : Int32)) F.1 F.2.1 (dd D_X8_light 8 rfl) kb_m2 ?_
    obtain ⟨r1, e2, h⟩ := Option.bind_eq_some_iff.mp h
    refine rwe_all (st' := [.int r1.1]) hD hS hA (rV (rest := []) F (c_X8_refuse D cA ax s n (-2 : Int32) r1 e2 l H.size) lk_X8_64 (Nat.le_of_ble_eq_true rfl) (preRW hK hS hAb hP hD) (rcv_8 hK hP (q0 := (0)) (xp_0 cA ax s)) rfl hl rfl (Nat.le_of_ble_eq_true rfl) (dd D_X8_light 9 rfl) ⟨Nat.le_of_ble_eq_true rfl, Nat.le_of_ble_eq_true rfl⟩) rfl (fun H locs hP hD hS => ?_)
    obtain rfl := Option.some.inj h
    exact rw_i (R := rmOf 4 0 0) F hP hD hS hr hlk ⟨Nat.le_of_ble_eq_true rfl, Nat.le_of_ble_eq_true rfl⟩ ⟨rfl, rfl⟩ (dd D_X8_light 10 rfl)
  · refine lv_iload_n F.1 F.2.1 (dd D_X8_light 3 rfl) rfl (lv_at hl 2 rfl) ?_
    refine lv_iload_n F.1 F.2.1 (dd D_X8_light 4 rfl) rfl (lv_at hl 3 rfl) ?_
    refine ro_go (st' := [.int (bI (F_X8_areMinutes p2 p3))]) (rS (rest := []) F (c_X8_areMinutes D cA p2 p3 l) lk_X8_246 (Nat.le_of_ble_eq_true rfl) (preRO hK hS hAb (emP)) rfl hl rfl (Nat.le_of_ble_eq_true rfl) (dd D_X8_light 5 rfl) ⟨Nat.le_of_ble_eq_true rfl, Nat.le_of_ble_eq_true rfl⟩) rfl ?_
    refine x_bif_ne (tgt := 22) F.1 F.2.1 (dd D_X8_light 6 rfl) rfl h (fun c7 h => ?_) (fun c7 h => ?_)
    · refine lv_aload_n F.1 F.2.1 (dd D_X8_light 11 rfl) rfl (lv_at hl 0 rfl) ?_
      refine getF F hK hP lf_X8_27 (0) (xp_0 cA ax s) rfl (dd D_X8_light 12 rfl) ?_
      refine lv_iload_n F.1 F.2.1 (dd D_X8_light 13 rfl) rfl (lv_at hl 1 rfl) ?_
      refine lv_iload_n F.1 F.2.1 (dd D_X8_light 14 rfl) rfl (lv_at hl 2 rfl) ?_
      refine lv_iload_n F.1 F.2.1 (dd D_X8_light 15 rfl) rfl (lv_at hl 3 rfl) ?_
      obtain ⟨r3, e4, h⟩ := Option.bind_eq_some_iff.mp h
      refine ro_go (st' := [.int r3]) (rV (rest := []) F (c_X2_lightOf D cA ax s n p1 p2 p3 r3 e4 l) lk_X8_253 (Nat.le_of_ble_eq_true rfl) (preRO hK hS hAb hP) (rcv_2 hK hP (q0 := (40)) (xp_40 cA ax s)) rfl hl rfl (Nat.le_of_ble_eq_true rfl) (dd D_X8_light 16 rfl) ⟨Nat.le_of_ble_eq_true rfl, Nat.le_of_ble_eq_true rfl⟩) rfl ?_
      obtain rfl := Option.some.inj h
      exact rw_i (R := rmOf 4 0 0) F hP hD hS hr hlk ⟨Nat.le_of_ble_eq_true rfl, Nat.le_of_ble_eq_true rfl⟩ ⟨rfl, rfl⟩ (dd D_X8_light 17 rfl)
    · refine lv_aload_n F.1 F.2.1 (dd D_X8_light 7 rfl) rfl (lv_at hl 0 rfl) ?_
      refine lv_bipush (v := (-2 : Int32)) F.1 F.2.1 (dd D_X8_light 8 rfl) kb_m2 ?_
      obtain ⟨r5, e6, h⟩ := Option.bind_eq_some_iff.mp h
      refine rwe_all (st' := [.int r5.1]) hD hS hA (rV (rest := []) F (c_X8_refuse D cA ax s n (-2 : Int32) r5 e6 l H.size) lk_X8_64 (Nat.le_of_ble_eq_true rfl) (preRW hK hS hAb hP hD) (rcv_8 hK hP (q0 := (0)) (xp_0 cA ax s)) rfl hl rfl (Nat.le_of_ble_eq_true rfl) (dd D_X8_light 9 rfl) ⟨Nat.le_of_ble_eq_true rfl, Nat.le_of_ble_eq_true rfl⟩) rfl (fun H locs hP hD hS => ?_)
      obtain rfl := Option.some.inj h
      exact rw_i (R := rmOf 4 0 0) F hP hD hS hr hlk ⟨Nat.le_of_ble_eq_true rfl, Nat.le_of_ble_eq_true rfl⟩ ⟨rfl, rfl⟩ (dd D_X8_light 10 rfl)
def F_X8_next (n : Nat) (s : XS) (p1 : Int32) (p2 : Int32) : Option (Int32 × XS) := bf (F_X8_isDay p1) (bf (F_X8_isKind p2) ((((F_X2_pick n s p2 (0 : Int32) (0 : Int32) (0 : Int32) none p1 (1000 : Int32) (0 : Int32))).bind fun r4 => some (r4, s))) ((((F_X8_refuse n s (-2 : Int32))).bind fun r6 => some (r6.1, r6.2)))) ((((F_X8_refuse n s (-2 : Int32))).bind fun r1 => some (r1.1, r1.2)))
set_option maxHeartbeats 4000000 in
set_option maxRecDepth 100000 in
theorem c_X8_next (D : va_G) (cA : Nat → ClassId) (ax : Nat → Nat) (s : XS) (n : Nat) (p1 : Int32) (p2 : Int32) (r : (Int32 × XS)) (h : F_X8_next n s p1 p2 = some r) : RW m_X8_next 6 1 5 D cA [.ref (ax 0), .int p1, .int p2] (xW cA ax s) (exq (some (.int r.1)) (xW cA ax r.2)) := by
  refine RW.ofW gy_X8_next.2.2 (Nat.le_of_ble_eq_true rfl) ?_
  intro l p e sM m below meth c A H locs F hr hlk hnm hK hP hD hS hA hAb ls hl
  have hl : lv_has ls 3 [(0, .ref (ax 0)), (1, .int p1), (2, .int p2)] := hl
  unfold F_X8_next at h
  refine lv_iload_n F.1 F.2.1 (dd D_X8_next 0 rfl) rfl (lv_at hl 1 rfl) ?_
  refine ro_go (st' := [.int (bI (F_X8_isDay p1))]) (rS (rest := []) F (c_X8_isDay D cA p1 l) lk_X8_113 (Nat.le_of_ble_eq_true rfl) (preRO hK hS hAb (emP)) rfl hl rfl (Nat.le_of_ble_eq_true rfl) (dd D_X8_next 1 rfl) ⟨Nat.le_of_ble_eq_true rfl, Nat.le_of_ble_eq_true rfl⟩) rfl ?_
  refine x_bif_eq (tgt := 14) F.1 F.2.1 (dd D_X8_next 2 rfl) rfl h (fun c9 h => ?_) (fun c9 h => ?_)
  · refine lv_aload_n F.1 F.2.1 (dd D_X8_next 6 rfl) rfl (lv_at hl 0 rfl) ?_
    refine lv_bipush (v := (-2 : Int32)) F.1 F.2.1 (dd D_X8_next 7 rfl) kb_m2 ?_
    obtain ⟨r1, e2, h⟩ := Option.bind_eq_some_iff.mp h
    refine rwe_all (st' := [.int r1.1]) hD hS hA (rV (rest := []) F (c_X8_refuse D cA ax s n (-2 : Int32) r1 e2 l H.size) lk_X8_64 (Nat.le_of_ble_eq_true rfl) (preRW hK hS hAb hP hD) (rcv_8 hK hP (q0 := (0)) (xp_0 cA ax s)) rfl hl rfl (Nat.le_of_ble_eq_true rfl) (dd D_X8_next 8 rfl) ⟨Nat.le_of_ble_eq_true rfl, Nat.le_of_ble_eq_true rfl⟩) rfl (fun H locs hP hD hS => ?_)
    obtain rfl := Option.some.inj h
    exact rw_i (R := rmOf 6 1 5) F hP hD hS hr hlk ⟨Nat.le_of_ble_eq_true rfl, Nat.le_of_ble_eq_true rfl⟩ ⟨rfl, rfl⟩ (dd D_X8_next 9 rfl)
  · refine lv_iload_n F.1 F.2.1 (dd D_X8_next 3 rfl) rfl (lv_at hl 2 rfl) ?_
    refine ro_go (st' := [.int (bI (F_X8_isKind p2))]) (rS (rest := []) F (c_X8_isKind D cA p2 l) lk_X8_109 (Nat.le_of_ble_eq_true rfl) (preRO hK hS hAb (emP)) rfl hl rfl (Nat.le_of_ble_eq_true rfl) (dd D_X8_next 4 rfl) ⟨Nat.le_of_ble_eq_true rfl, Nat.le_of_ble_eq_true rfl⟩) rfl ?_
    refine x_bif_ne (tgt := 21) F.1 F.2.1 (dd D_X8_next 5 rfl) rfl h (fun c8 h => ?_) (fun c8 h => ?_)
    · refine lv_aload_n F.1 F.2.1 (dd D_X8_next 10 rfl) rfl (lv_at hl 0 rfl) ?_
      refine getF F hK hP lf_X8_27 (0) (xp_0 cA ax s) rfl (dd D_X8_next 11 rfl) ?_
      refine lv_iload_n F.1 F.2.1 (dd D_X8_next 12 rfl) rfl (lv_at hl 1 rfl) ?_
      refine lv_sipush (v := (1000 : Int32)) F.1 F.2.1 (dd D_X8_next 13 rfl) ks_1000 ?_
      refine lv_iconst (v := (0 : Int32)) F.1 F.2.1 (dd D_X8_next 14 rfl) ki_0 ?_
      refine newO F hK hP hD hS hA ln_X8_132 (Nat.le_of_ble_eq_true rfl) (Nat.le_of_ble_eq_true rfl) (dd D_X8_next 15 rfl) (fun q3 H hP hD hS => ?_)
      refine lv_dup F.1 F.2.1 (dd D_X8_next 16 rfl) rfl ?_
      refine lv_iload_n F.1 F.2.1 (dd D_X8_next 17 rfl) rfl (lv_at hl 2 rfl) ?_
      refine rwe (V := none) (wc := [(q3, .inr (4, [.int (0 : Int32), .int (0 : Int32), .int (0 : Int32), .int (0 : Int32), .null]))]) (wc' := [(q3, .inr (4, [.int p2, .int (0 : Int32), .int (0 : Int32), .int (0 : Int32), .null]))]) (st' := [.ref (q3), .int (0 : Int32), .int (1000 : Int32), .int p1, .ref (ax 40)]) (W' := (xW cA ax s) ++ [(q3, .inr (4, [.int p2, .int (0 : Int32), .int (0 : Int32), .int (0 : Int32), .null]))]) hP hD hS hA [63] (jc_last (xp_len cA ax s)) (Nat_nd rfl) rfl (rI (rest := [.ref (q3), .int (0 : Int32), .int (1000 : Int32), .int p1, .ref (ax 40)]) F (c_X4_init_ D cA q3 p2 l H.size) lk_X8_134 (Nat.le_of_ble_eq_true rfl) (preRW hK hS hAb (selP hP (jc_last (xp_len cA ax s))) (selD hD (Nat_nd rfl) (jc_last (xp_len cA ax s)))) rfl hl rfl (Nat.le_of_ble_eq_true rfl) (dd D_X8_next 18 rfl) ⟨Nat.le_of_ble_eq_true rfl, Nat.le_of_ble_eq_true rfl⟩) (js_last (xp_len cA ax s)) rfl (fun H locs hP hD hS => ?_)
      obtain ⟨r4, e5, h⟩ := Option.bind_eq_some_iff.mp h
      refine ro_go (st' := [.int r4]) (rV (rest := []) F (c_X2_pick D cA ax s q3 p2 (0 : Int32) (0 : Int32) (0 : Int32) none n p1 (1000 : Int32) (0 : Int32) r4 e5 l) lk_X8_256 (Nat.le_of_ble_eq_true rfl) (preRO hK hS hAb hP) (rcv_2 hK hP (q0 := (40)) (gL (xp_40 cA ax s))) rfl hl rfl (Nat.le_of_ble_eq_true rfl) (dd D_X8_next 19 rfl) ⟨Nat.le_of_ble_eq_true rfl, Nat.le_of_ble_eq_true rfl⟩) rfl ?_
      have hP := preP hP
      have hD := preD hD
      obtain rfl := Option.some.inj h
      exact rw_i (R := rmOf 6 1 5) F hP hD hS hr hlk ⟨Nat.le_of_ble_eq_true rfl, Nat.le_of_ble_eq_true rfl⟩ ⟨rfl, rfl⟩ (dd D_X8_next 20 rfl)
    · refine lv_aload_n F.1 F.2.1 (dd D_X8_next 6 rfl) rfl (lv_at hl 0 rfl) ?_
      refine lv_bipush (v := (-2 : Int32)) F.1 F.2.1 (dd D_X8_next 7 rfl) kb_m2 ?_
      obtain ⟨r6, e7, h⟩ := Option.bind_eq_some_iff.mp h
      refine rwe_all (st' := [.int r6.1]) hD hS hA (rV (rest := []) F (c_X8_refuse D cA ax s n (-2 : Int32) r6 e7 l H.size) lk_X8_64 (Nat.le_of_ble_eq_true rfl) (preRW hK hS hAb hP hD) (rcv_8 hK hP (q0 := (0)) (xp_0 cA ax s)) rfl hl rfl (Nat.le_of_ble_eq_true rfl) (dd D_X8_next 8 rfl) ⟨Nat.le_of_ble_eq_true rfl, Nat.le_of_ble_eq_true rfl⟩) rfl (fun H locs hP hD hS => ?_)
      obtain rfl := Option.some.inj h
      exact rw_i (R := rmOf 6 1 5) F hP hD hS hr hlk ⟨Nat.le_of_ble_eq_true rfl, Nat.le_of_ble_eq_true rfl⟩ ⟨rfl, rfl⟩ (dd D_X8_next 9 rfl)
def F_X8_many (n : Nat) (s : XS) (p1 : Int32) (p2 : Int32) (p3 : Int32) : Option (Int32 × XS) := bf (F_X8_areDays p1 p2) (bf (F_X8_isKind p3) ((((F_X2_pick n s p3 (0 : Int32) (0 : Int32) (0 : Int32) none p1 p2 (-1 : Int32))).bind fun r4 => some (r4, s))) ((((F_X8_refuse n s (-2 : Int32))).bind fun r6 => some (r6.1, r6.2)))) ((((F_X8_refuse n s (-2 : Int32))).bind fun r1 => some (r1.1, r1.2)))
set_option maxHeartbeats 4000000 in
set_option maxRecDepth 100000 in
theorem c_X8_many (D : va_G) (cA : Nat → ClassId) (ax : Nat → Nat) (s : XS) (n : Nat) (p1 : Int32) (p2 : Int32) (p3 : Int32) (r : (Int32 × XS)) (h : F_X8_many n s p1 p2 p3 = some r) : RW m_X8_many 6 1 5 D cA [.ref (ax 0), .int p1, .int p2, .int p3] (xW cA ax s) (exq (some (.int r.1)) (xW cA ax r.2)) := by
  refine RW.ofW gy_X8_many.2.2 (Nat.le_of_ble_eq_true rfl) ?_
  intro l p e sM m below meth c A H locs F hr hlk hnm hK hP hD hS hA hAb ls hl
  have hl : lv_has ls 4 [(0, .ref (ax 0)), (1, .int p1), (2, .int p2), (3, .int p3)] := hl
  unfold F_X8_many at h
  refine lv_iload_n F.1 F.2.1 (dd D_X8_many 0 rfl) rfl (lv_at hl 1 rfl) ?_
  refine lv_iload_n F.1 F.2.1 (dd D_X8_many 1 rfl) rfl (lv_at hl 2 rfl) ?_
  refine ro_go (st' := [.int (bI (F_X8_areDays p1 p2))]) (rS (rest := []) F (c_X8_areDays D cA p1 p2 l) lk_X8_260 (Nat.le_of_ble_eq_true rfl) (preRO hK hS hAb (emP)) rfl hl rfl (Nat.le_of_ble_eq_true rfl) (dd D_X8_many 2 rfl) ⟨Nat.le_of_ble_eq_true rfl, Nat.le_of_ble_eq_true rfl⟩) rfl ?_
  refine x_bif_eq (tgt := 15) F.1 F.2.1 (dd D_X8_many 3 rfl) rfl h (fun c9 h => ?_) (fun c9 h => ?_)
  · refine lv_aload_n F.1 F.2.1 (dd D_X8_many 7 rfl) rfl (lv_at hl 0 rfl) ?_
    refine lv_bipush (v := (-2 : Int32)) F.1 F.2.1 (dd D_X8_many 8 rfl) kb_m2 ?_
    obtain ⟨r1, e2, h⟩ := Option.bind_eq_some_iff.mp h
    refine rwe_all (st' := [.int r1.1]) hD hS hA (rV (rest := []) F (c_X8_refuse D cA ax s n (-2 : Int32) r1 e2 l H.size) lk_X8_64 (Nat.le_of_ble_eq_true rfl) (preRW hK hS hAb hP hD) (rcv_8 hK hP (q0 := (0)) (xp_0 cA ax s)) rfl hl rfl (Nat.le_of_ble_eq_true rfl) (dd D_X8_many 9 rfl) ⟨Nat.le_of_ble_eq_true rfl, Nat.le_of_ble_eq_true rfl⟩) rfl (fun H locs hP hD hS => ?_)
    obtain rfl := Option.some.inj h
    exact rw_i (R := rmOf 6 1 5) F hP hD hS hr hlk ⟨Nat.le_of_ble_eq_true rfl, Nat.le_of_ble_eq_true rfl⟩ ⟨rfl, rfl⟩ (dd D_X8_many 10 rfl)
  · refine lv_iload_n F.1 F.2.1 (dd D_X8_many 4 rfl) rfl (lv_at hl 3 rfl) ?_
    refine ro_go (st' := [.int (bI (F_X8_isKind p3))]) (rS (rest := []) F (c_X8_isKind D cA p3 l) lk_X8_109 (Nat.le_of_ble_eq_true rfl) (preRO hK hS hAb (emP)) rfl hl rfl (Nat.le_of_ble_eq_true rfl) (dd D_X8_many 5 rfl) ⟨Nat.le_of_ble_eq_true rfl, Nat.le_of_ble_eq_true rfl⟩) rfl ?_
    refine x_bif_ne (tgt := 22) F.1 F.2.1 (dd D_X8_many 6 rfl) rfl h (fun c8 h => ?_) (fun c8 h => ?_)
    · refine lv_aload_n F.1 F.2.1 (dd D_X8_many 11 rfl) rfl (lv_at hl 0 rfl) ?_
      refine getF F hK hP lf_X8_27 (0) (xp_0 cA ax s) rfl (dd D_X8_many 12 rfl) ?_
      refine lv_iload_n F.1 F.2.1 (dd D_X8_many 13 rfl) rfl (lv_at hl 1 rfl) ?_
      refine lv_iload_n F.1 F.2.1 (dd D_X8_many 14 rfl) rfl (lv_at hl 2 rfl) ?_
      refine lv_iconst (v := (-1 : Int32)) F.1 F.2.1 (dd D_X8_many 15 rfl) ki_m1 ?_
      refine newO F hK hP hD hS hA ln_X8_132 (Nat.le_of_ble_eq_true rfl) (Nat.le_of_ble_eq_true rfl) (dd D_X8_many 16 rfl) (fun q3 H hP hD hS => ?_)
      refine lv_dup F.1 F.2.1 (dd D_X8_many 17 rfl) rfl ?_
      refine lv_iload_n F.1 F.2.1 (dd D_X8_many 18 rfl) rfl (lv_at hl 3 rfl) ?_
      refine rwe (V := none) (wc := [(q3, .inr (4, [.int (0 : Int32), .int (0 : Int32), .int (0 : Int32), .int (0 : Int32), .null]))]) (wc' := [(q3, .inr (4, [.int p3, .int (0 : Int32), .int (0 : Int32), .int (0 : Int32), .null]))]) (st' := [.ref (q3), .int (-1 : Int32), .int p2, .int p1, .ref (ax 40)]) (W' := (xW cA ax s) ++ [(q3, .inr (4, [.int p3, .int (0 : Int32), .int (0 : Int32), .int (0 : Int32), .null]))]) hP hD hS hA [63] (jc_last (xp_len cA ax s)) (Nat_nd rfl) rfl (rI (rest := [.ref (q3), .int (-1 : Int32), .int p2, .int p1, .ref (ax 40)]) F (c_X4_init_ D cA q3 p3 l H.size) lk_X8_134 (Nat.le_of_ble_eq_true rfl) (preRW hK hS hAb (selP hP (jc_last (xp_len cA ax s))) (selD hD (Nat_nd rfl) (jc_last (xp_len cA ax s)))) rfl hl rfl (Nat.le_of_ble_eq_true rfl) (dd D_X8_many 19 rfl) ⟨Nat.le_of_ble_eq_true rfl, Nat.le_of_ble_eq_true rfl⟩) (js_last (xp_len cA ax s)) rfl (fun H locs hP hD hS => ?_)
      obtain ⟨r4, e5, h⟩ := Option.bind_eq_some_iff.mp h
      refine ro_go (st' := [.int r4]) (rV (rest := []) F (c_X2_pick D cA ax s q3 p3 (0 : Int32) (0 : Int32) (0 : Int32) none n p1 p2 (-1 : Int32) r4 e5 l) lk_X8_256 (Nat.le_of_ble_eq_true rfl) (preRO hK hS hAb hP) (rcv_2 hK hP (q0 := (40)) (gL (xp_40 cA ax s))) rfl hl rfl (Nat.le_of_ble_eq_true rfl) (dd D_X8_many 20 rfl) ⟨Nat.le_of_ble_eq_true rfl, Nat.le_of_ble_eq_true rfl⟩) rfl ?_
      have hP := preP hP
      have hD := preD hD
      obtain rfl := Option.some.inj h
      exact rw_i (R := rmOf 6 1 5) F hP hD hS hr hlk ⟨Nat.le_of_ble_eq_true rfl, Nat.le_of_ble_eq_true rfl⟩ ⟨rfl, rfl⟩ (dd D_X8_many 21 rfl)
    · refine lv_aload_n F.1 F.2.1 (dd D_X8_many 7 rfl) rfl (lv_at hl 0 rfl) ?_
      refine lv_bipush (v := (-2 : Int32)) F.1 F.2.1 (dd D_X8_many 8 rfl) kb_m2 ?_
      obtain ⟨r6, e7, h⟩ := Option.bind_eq_some_iff.mp h
      refine rwe_all (st' := [.int r6.1]) hD hS hA (rV (rest := []) F (c_X8_refuse D cA ax s n (-2 : Int32) r6 e7 l H.size) lk_X8_64 (Nat.le_of_ble_eq_true rfl) (preRW hK hS hAb hP hD) (rcv_8 hK hP (q0 := (0)) (xp_0 cA ax s)) rfl hl rfl (Nat.le_of_ble_eq_true rfl) (dd D_X8_many 9 rfl) ⟨Nat.le_of_ble_eq_true rfl, Nat.le_of_ble_eq_true rfl⟩) rfl (fun H locs hP hD hS => ?_)
      obtain rfl := Option.some.inj h
      exact rw_i (R := rmOf 6 1 5) F hP hD hS hr hlk ⟨Nat.le_of_ble_eq_true rfl, Nat.le_of_ble_eq_true rfl⟩ ⟨rfl, rfl⟩ (dd D_X8_many 10 rfl)
def F_X8_orStuck (n : Nat) (s : XS) (p1 : Int32) : Option (Int32 × XS) := (if p1 = (-1 : Int32) then (((F_X8_refuse n s (-5 : Int32))).bind fun r2 => some (r2.1, r2.2)) else some (p1, s))
set_option maxHeartbeats 4000000 in
set_option maxRecDepth 100000 in
theorem c_X8_orStuck (D : va_G) (cA : Nat → ClassId) (ax : Nat → Nat) (s : XS) (n : Nat) (p1 : Int32) (r : (Int32 × XS)) (h : F_X8_orStuck n s p1 = some r) : RW m_X8_orStuck 1 0 0 D cA [.ref (ax 0), .int p1] (xW cA ax s) (exq (some (.int r.1)) (xW cA ax r.2)) := by
  refine RW.ofW gy_X8_orStuck.2.2 (Nat.le_of_ble_eq_true rfl) ?_
  intro l p e sM m below meth c A H locs F hr hlk hnm hK hP hD hS hA hAb ls hl
  have hl : lv_has ls 2 [(0, .ref (ax 0)), (1, .int p1)] := hl
  unfold F_X8_orStuck at h
  refine lv_iload_n F.1 F.2.1 (dd D_X8_orStuck 0 rfl) rfl (lv_at hl 1 rfl) ?_
  refine lv_iconst (v := (-1 : Int32)) F.1 F.2.1 (dd D_X8_orStuck 1 rfl) ki_m1 ?_
  refine x_icmp_ne (tgt := 14) F.1 F.2.1 (dd D_X8_orStuck 2 rfl) rfl h (fun c1 h => ?_) (fun c1 h => ?_)
  · refine lv_iload_n F.1 F.2.1 (dd D_X8_orStuck 7 rfl) rfl (lv_at hl 1 rfl) ?_
    obtain rfl := Option.some.inj h
    exact rw_i (R := rmOf 1 0 0) F hP hD hS hr hlk ⟨Nat.le_of_ble_eq_true rfl, Nat.le_of_ble_eq_true rfl⟩ ⟨rfl, rfl⟩ (dd D_X8_orStuck 8 rfl)
  · refine lv_aload_n F.1 F.2.1 (dd D_X8_orStuck 3 rfl) rfl (lv_at hl 0 rfl) ?_
    refine lv_bipush (v := (-5 : Int32)) F.1 F.2.1 (dd D_X8_orStuck 4 rfl) kb_m5 ?_
    obtain ⟨r2, e3, h⟩ := Option.bind_eq_some_iff.mp h
    refine rwe_all (st' := [.int r2.1]) hD hS hA (rV (rest := []) F (c_X8_refuse D cA ax s n (-5 : Int32) r2 e3 l H.size) lk_X8_64 (Nat.le_of_ble_eq_true rfl) (preRW hK hS hAb hP hD) (rcv_8 hK hP (q0 := (0)) (xp_0 cA ax s)) rfl hl rfl (Nat.le_of_ble_eq_true rfl) (dd D_X8_orStuck 5 rfl) ⟨Nat.le_of_ble_eq_true rfl, Nat.le_of_ble_eq_true rfl⟩) rfl (fun H locs hP hD hS => ?_)
    refine lv_goto (tgt := 15) F.1 F.2.1 (dd D_X8_orStuck 6 rfl) rfl ?_
    obtain rfl := Option.some.inj h
    exact rw_i (R := rmOf 1 0 0) F hP hD hS hr hlk ⟨Nat.le_of_ble_eq_true rfl, Nat.le_of_ble_eq_true rfl⟩ ⟨rfl, rfl⟩ (dd D_X8_orStuck 8 rfl)
def F_X8_between (n : Nat) (s : XS) (p1 : Int32) (p2 : Int32) (p3 : Int32) (p4 : Int32) (p5 : Int32) : Option (Int32 × XS) := bf (F_X8_areDays p1 p2) (bf (F_X8_isIn p3 (0 : Int32) (999 : Int32)) (bf (F_X8_isIn p4 p3 (999 : Int32)) ((if (-1 : Int32) ≤ p5 then (((F_X2_pick n s (6 : Int32) p3 p4 (0 : Int32) none p1 p2 p5)).bind fun r9 => (((F_X8_orStuck n s r9)).bind fun r11 => some (r11.1, r11.2))) else (((F_X8_refuse n s (-2 : Int32))).bind fun r13 => some (r13.1, r13.2)))) ((((F_X8_refuse n s (-2 : Int32))).bind fun r5 => some (r5.1, r5.2)))) ((((F_X8_refuse n s (-2 : Int32))).bind fun r3 => some (r3.1, r3.2)))) ((((F_X8_refuse n s (-2 : Int32))).bind fun r1 => some (r1.1, r1.2)))
set_option maxHeartbeats 4000000 in
set_option maxRecDepth 100000 in
theorem c_X8_between (D : va_G) (cA : Nat → ClassId) (ax : Nat → Nat) (s : XS) (n : Nat) (p1 : Int32) (p2 : Int32) (p3 : Int32) (p4 : Int32) (p5 : Int32) (r : (Int32 × XS)) (h : F_X8_between n s p1 p2 p3 p4 p5 = some r) : RW m_X8_between 6 1 5 D cA [.ref (ax 0), .int p1, .int p2, .int p3, .int p4, .int p5] (xW cA ax s) (exq (some (.int r.1)) (xW cA ax r.2)) := by
  refine RW.ofW gy_X8_between.2.2 (Nat.le_of_ble_eq_true rfl) ?_
  intro l p e sM m below meth c A H locs F hr hlk hnm hK hP hD hS hA hAb ls hl
  have hl : lv_has ls 6 [(0, .ref (ax 0)), (1, .int p1), (2, .int p2), (3, .int p3), (4, .int p4), (5, .int p5)] := hl
  unfold F_X8_between at h
  refine lv_iload_n F.1 F.2.1 (dd D_X8_between 0 rfl) rfl (lv_at hl 1 rfl) ?_
  refine lv_iload_n F.1 F.2.1 (dd D_X8_between 1 rfl) rfl (lv_at hl 2 rfl) ?_
  refine ro_go (st' := [.int (bI (F_X8_areDays p1 p2))]) (rS (rest := []) F (c_X8_areDays D cA p1 p2 l) lk_X8_260 (Nat.le_of_ble_eq_true rfl) (preRO hK hS hAb (emP)) rfl hl rfl (Nat.le_of_ble_eq_true rfl) (dd D_X8_between 2 rfl) ⟨Nat.le_of_ble_eq_true rfl, Nat.le_of_ble_eq_true rfl⟩) rfl ?_
  refine x_bif_eq (tgt := 37) F.1 F.2.1 (dd D_X8_between 3 rfl) rfl h (fun c17 h => ?_) (fun c17 h => ?_)
  · refine lv_aload_n F.1 F.2.1 (dd D_X8_between 17 rfl) rfl (lv_at hl 0 rfl) ?_
    refine lv_bipush (v := (-2 : Int32)) F.1 F.2.1 (dd D_X8_between 18 rfl) kb_m2 ?_
    obtain ⟨r1, e2, h⟩ := Option.bind_eq_some_iff.mp h
    refine rwe_all (st' := [.int r1.1]) hD hS hA (rV (rest := []) F (c_X8_refuse D cA ax s n (-2 : Int32) r1 e2 l H.size) lk_X8_64 (Nat.le_of_ble_eq_true rfl) (preRW hK hS hAb hP hD) (rcv_8 hK hP (q0 := (0)) (xp_0 cA ax s)) rfl hl rfl (Nat.le_of_ble_eq_true rfl) (dd D_X8_between 19 rfl) ⟨Nat.le_of_ble_eq_true rfl, Nat.le_of_ble_eq_true rfl⟩) rfl (fun H locs hP hD hS => ?_)
    obtain rfl := Option.some.inj h
    exact rw_i (R := rmOf 6 1 5) F hP hD hS hr hlk ⟨Nat.le_of_ble_eq_true rfl, Nat.le_of_ble_eq_true rfl⟩ ⟨rfl, rfl⟩ (dd D_X8_between 20 rfl)
  · refine lv_iload_n F.1 F.2.1 (dd D_X8_between 4 rfl) rfl (lv_at hl 3 rfl) ?_
    refine lv_iconst (v := (0 : Int32)) F.1 F.2.1 (dd D_X8_between 5 rfl) ki_0 ?_
    refine lv_sipush (v := (999 : Int32)) F.1 F.2.1 (dd D_X8_between 6 rfl) ks_999 ?_
    refine ro_go (st' := [.int (bI (F_X8_isIn p3 (0 : Int32) (999 : Int32)))]) (rS (rest := []) F (c_X8_isIn D cA p3 (0 : Int32) (999 : Int32) l) lk_X8_60 (Nat.le_of_ble_eq_true rfl) (preRO hK hS hAb (emP)) rfl hl rfl (Nat.le_of_ble_eq_true rfl) (dd D_X8_between 7 rfl) ⟨Nat.le_of_ble_eq_true rfl, Nat.le_of_ble_eq_true rfl⟩) rfl ?_
    refine x_bif_eq (tgt := 37) F.1 F.2.1 (dd D_X8_between 8 rfl) rfl h (fun c16 h => ?_) (fun c16 h => ?_)
    · refine lv_aload_n F.1 F.2.1 (dd D_X8_between 17 rfl) rfl (lv_at hl 0 rfl) ?_
      refine lv_bipush (v := (-2 : Int32)) F.1 F.2.1 (dd D_X8_between 18 rfl) kb_m2 ?_
      obtain ⟨r3, e4, h⟩ := Option.bind_eq_some_iff.mp h
      refine rwe_all (st' := [.int r3.1]) hD hS hA (rV (rest := []) F (c_X8_refuse D cA ax s n (-2 : Int32) r3 e4 l H.size) lk_X8_64 (Nat.le_of_ble_eq_true rfl) (preRW hK hS hAb hP hD) (rcv_8 hK hP (q0 := (0)) (xp_0 cA ax s)) rfl hl rfl (Nat.le_of_ble_eq_true rfl) (dd D_X8_between 19 rfl) ⟨Nat.le_of_ble_eq_true rfl, Nat.le_of_ble_eq_true rfl⟩) rfl (fun H locs hP hD hS => ?_)
      obtain rfl := Option.some.inj h
      exact rw_i (R := rmOf 6 1 5) F hP hD hS hr hlk ⟨Nat.le_of_ble_eq_true rfl, Nat.le_of_ble_eq_true rfl⟩ ⟨rfl, rfl⟩ (dd D_X8_between 20 rfl)
    · refine lv_iload F.1 F.2.1 (dd D_X8_between 9 rfl) (lv_at hl 4 rfl) ?_
      refine lv_iload_n F.1 F.2.1 (dd D_X8_between 10 rfl) rfl (lv_at hl 3 rfl) ?_
      refine lv_sipush (v := (999 : Int32)) F.1 F.2.1 (dd D_X8_between 11 rfl) ks_999 ?_
      refine ro_go (st' := [.int (bI (F_X8_isIn p4 p3 (999 : Int32)))]) (rS (rest := []) F (c_X8_isIn D cA p4 p3 (999 : Int32) l) lk_X8_60 (Nat.le_of_ble_eq_true rfl) (preRO hK hS hAb (emP)) rfl hl rfl (Nat.le_of_ble_eq_true rfl) (dd D_X8_between 12 rfl) ⟨Nat.le_of_ble_eq_true rfl, Nat.le_of_ble_eq_true rfl⟩) rfl ?_
      refine x_bif_eq (tgt := 37) F.1 F.2.1 (dd D_X8_between 13 rfl) rfl h (fun c15 h => ?_) (fun c15 h => ?_)
      · refine lv_aload_n F.1 F.2.1 (dd D_X8_between 17 rfl) rfl (lv_at hl 0 rfl) ?_
        refine lv_bipush (v := (-2 : Int32)) F.1 F.2.1 (dd D_X8_between 18 rfl) kb_m2 ?_
        obtain ⟨r5, e6, h⟩ := Option.bind_eq_some_iff.mp h
        refine rwe_all (st' := [.int r5.1]) hD hS hA (rV (rest := []) F (c_X8_refuse D cA ax s n (-2 : Int32) r5 e6 l H.size) lk_X8_64 (Nat.le_of_ble_eq_true rfl) (preRW hK hS hAb hP hD) (rcv_8 hK hP (q0 := (0)) (xp_0 cA ax s)) rfl hl rfl (Nat.le_of_ble_eq_true rfl) (dd D_X8_between 19 rfl) ⟨Nat.le_of_ble_eq_true rfl, Nat.le_of_ble_eq_true rfl⟩) rfl (fun H locs hP hD hS => ?_)
        obtain rfl := Option.some.inj h
        exact rw_i (R := rmOf 6 1 5) F hP hD hS hr hlk ⟨Nat.le_of_ble_eq_true rfl, Nat.le_of_ble_eq_true rfl⟩ ⟨rfl, rfl⟩ (dd D_X8_between 20 rfl)
      · refine lv_iload F.1 F.2.1 (dd D_X8_between 14 rfl) (lv_at hl 5 rfl) ?_
        refine lv_iconst (v := (-1 : Int32)) F.1 F.2.1 (dd D_X8_between 15 rfl) ki_m1 ?_
        refine x_icmp_ge (tgt := 44) F.1 F.2.1 (dd D_X8_between 16 rfl) rfl h (fun c7 h => ?_) (fun c7 h => ?_)
        · refine lv_aload_n F.1 F.2.1 (dd D_X8_between 21 rfl) rfl (lv_at hl 0 rfl) ?_
          refine lv_aload_n F.1 F.2.1 (dd D_X8_between 22 rfl) rfl (lv_at hl 0 rfl) ?_
          refine getF F hK hP lf_X8_27 (0) (xp_0 cA ax s) rfl (dd D_X8_between 23 rfl) ?_
          refine lv_iload_n F.1 F.2.1 (dd D_X8_between 24 rfl) rfl (lv_at hl 1 rfl) ?_
          refine lv_iload_n F.1 F.2.1 (dd D_X8_between 25 rfl) rfl (lv_at hl 2 rfl) ?_
          refine lv_iload F.1 F.2.1 (dd D_X8_between 26 rfl) (lv_at hl 5 rfl) ?_
          refine newO F hK hP hD hS hA ln_X8_132 (Nat.le_of_ble_eq_true rfl) (Nat.le_of_ble_eq_true rfl) (dd D_X8_between 27 rfl) (fun q8 H hP hD hS => ?_)
          refine lv_dup F.1 F.2.1 (dd D_X8_between 28 rfl) rfl ?_
          refine lv_bipush (v := (6 : Int32)) F.1 F.2.1 (dd D_X8_between 29 rfl) kb_6 ?_
          refine lv_iload_n F.1 F.2.1 (dd D_X8_between 30 rfl) rfl (lv_at hl 3 rfl) ?_
          refine lv_iload F.1 F.2.1 (dd D_X8_between 31 rfl) (lv_at hl 4 rfl) ?_
          refine lv_iconst (v := (0 : Int32)) F.1 F.2.1 (dd D_X8_between 32 rfl) ki_0 ?_
          refine rwe (V := none) (wc := [(q8, .inr (4, [.int (0 : Int32), .int (0 : Int32), .int (0 : Int32), .int (0 : Int32), .null]))]) (wc' := [(q8, .inr (4, [.int (6 : Int32), .int p3, .int p4, .int (0 : Int32), .null]))]) (st' := [.ref (q8), .int p5, .int p2, .int p1, .ref (ax 40), .ref (ax 0)]) (W' := (xW cA ax s) ++ [(q8, .inr (4, [.int (6 : Int32), .int p3, .int p4, .int (0 : Int32), .null]))]) hP hD hS hA [63] (jc_last (xp_len cA ax s)) (Nat_nd rfl) rfl (rI (rest := [.ref (q8), .int p5, .int p2, .int p1, .ref (ax 40), .ref (ax 0)]) F (c_X4_init__ D cA q8 (6 : Int32) p3 p4 (0 : Int32) l H.size) lk_X8_263 (Nat.le_of_ble_eq_true rfl) (preRW hK hS hAb (selP hP (jc_last (xp_len cA ax s))) (selD hD (Nat_nd rfl) (jc_last (xp_len cA ax s)))) rfl hl rfl (Nat.le_of_ble_eq_true rfl) (dd D_X8_between 33 rfl) ⟨Nat.le_of_ble_eq_true rfl, Nat.le_of_ble_eq_true rfl⟩) (js_last (xp_len cA ax s)) rfl (fun H locs hP hD hS => ?_)
          obtain ⟨r9, e10, h⟩ := Option.bind_eq_some_iff.mp h
          refine ro_go (st' := [.int r9, .ref (ax 0)]) (rV (rest := [.ref (ax 0)]) F (c_X2_pick D cA ax s q8 (6 : Int32) p3 p4 (0 : Int32) none n p1 p2 p5 r9 e10 l) lk_X8_256 (Nat.le_of_ble_eq_true rfl) (preRO hK hS hAb hP) (rcv_2 hK hP (q0 := (40)) (gL (xp_40 cA ax s))) rfl hl rfl (Nat.le_of_ble_eq_true rfl) (dd D_X8_between 34 rfl) ⟨Nat.le_of_ble_eq_true rfl, Nat.le_of_ble_eq_true rfl⟩) rfl ?_
          obtain ⟨r11, e12, h⟩ := Option.bind_eq_some_iff.mp h
          have hP := preP hP
          have hD := preD hD
          refine rwe_all (st' := [.int r11.1]) hD hS hA (rV (rest := []) F (c_X8_orStuck D cA ax s n r9 r11 e12 l H.size) lk_X8_266 (Nat.le_of_ble_eq_true rfl) (preRW hK hS hAb hP hD) (rcv_8 hK hP (q0 := (0)) (gL (xp_0 cA ax s))) rfl hl rfl (Nat.le_of_ble_eq_true rfl) (dd D_X8_between 35 rfl) ⟨Nat.le_of_ble_eq_true rfl, Nat.le_of_ble_eq_true rfl⟩) rfl (fun H locs hP hD hS => ?_)
          obtain rfl := Option.some.inj h
          exact rw_i (R := rmOf 6 1 5) F hP hD hS hr hlk ⟨Nat.le_of_ble_eq_true rfl, Nat.le_of_ble_eq_true rfl⟩ ⟨rfl, rfl⟩ (dd D_X8_between 36 rfl)
        · refine lv_aload_n F.1 F.2.1 (dd D_X8_between 17 rfl) rfl (lv_at hl 0 rfl) ?_
          refine lv_bipush (v := (-2 : Int32)) F.1 F.2.1 (dd D_X8_between 18 rfl) kb_m2 ?_
          obtain ⟨r13, e14, h⟩ := Option.bind_eq_some_iff.mp h
          refine rwe_all (st' := [.int r13.1]) hD hS hA (rV (rest := []) F (c_X8_refuse D cA ax s n (-2 : Int32) r13 e14 l H.size) lk_X8_64 (Nat.le_of_ble_eq_true rfl) (preRW hK hS hAb hP hD) (rcv_8 hK hP (q0 := (0)) (xp_0 cA ax s)) rfl hl rfl (Nat.le_of_ble_eq_true rfl) (dd D_X8_between 19 rfl) ⟨Nat.le_of_ble_eq_true rfl, Nat.le_of_ble_eq_true rfl⟩) rfl (fun H locs hP hD hS => ?_)
          obtain rfl := Option.some.inj h
          exact rw_i (R := rmOf 6 1 5) F hP hD hS hr hlk ⟨Nat.le_of_ble_eq_true rfl, Nat.le_of_ble_eq_true rfl⟩ ⟨rfl, rfl⟩ (dd D_X8_between 20 rfl)
def F_X8_alike (n : Nat) (s : XS) (p1 : Int32) : Option (Int32 × XS) := bf (F_X8_isIn p1 (0 : Int32) (9991 : Int32)) ((((F_X2_bestOf n s p1 (8 : Int32) (0 : Int32))).bind fun r1 => some (r1, s))) ((((F_X8_refuse n s (-2 : Int32))).bind fun r3 => some (r3.1, r3.2)))
set_option maxHeartbeats 4000000 in
set_option maxRecDepth 100000 in
theorem c_X8_alike (D : va_G) (cA : Nat → ClassId) (ax : Nat → Nat) (s : XS) (n : Nat) (p1 : Int32) (r : (Int32 × XS)) (h : F_X8_alike n s p1 = some r) : RW m_X8_alike 6 0 0 D cA [.ref (ax 0), .int p1] (xW cA ax s) (exq (some (.int r.1)) (xW cA ax r.2)) := by
  refine RW.ofW gy_X8_alike.2.2 (Nat.le_of_ble_eq_true rfl) ?_
  intro l p e sM m below meth c A H locs F hr hlk hnm hK hP hD hS hA hAb ls hl
  have hl : lv_has ls 2 [(0, .ref (ax 0)), (1, .int p1)] := hl
  unfold F_X8_alike at h
  refine lv_iload_n F.1 F.2.1 (dd D_X8_alike 0 rfl) rfl (lv_at hl 1 rfl) ?_
  refine lv_iconst (v := (0 : Int32)) F.1 F.2.1 (dd D_X8_alike 1 rfl) ki_0 ?_
  refine lv_sipush (v := (9991 : Int32)) F.1 F.2.1 (dd D_X8_alike 2 rfl) ks_9991 ?_
  refine ro_go (st' := [.int (bI (F_X8_isIn p1 (0 : Int32) (9991 : Int32)))]) (rS (rest := []) F (c_X8_isIn D cA p1 (0 : Int32) (9991 : Int32) l) lk_X8_60 (Nat.le_of_ble_eq_true rfl) (preRO hK hS hAb (emP)) rfl hl rfl (Nat.le_of_ble_eq_true rfl) (dd D_X8_alike 3 rfl) ⟨Nat.le_of_ble_eq_true rfl, Nat.le_of_ble_eq_true rfl⟩) rfl ?_
  refine x_bif_ne (tgt := 18) F.1 F.2.1 (dd D_X8_alike 4 rfl) rfl h (fun c5 h => ?_) (fun c5 h => ?_)
  · refine lv_aload_n F.1 F.2.1 (dd D_X8_alike 9 rfl) rfl (lv_at hl 0 rfl) ?_
    refine getF F hK hP lf_X8_27 (0) (xp_0 cA ax s) rfl (dd D_X8_alike 10 rfl) ?_
    refine lv_iload_n F.1 F.2.1 (dd D_X8_alike 11 rfl) rfl (lv_at hl 1 rfl) ?_
    refine lv_bipush (v := (8 : Int32)) F.1 F.2.1 (dd D_X8_alike 12 rfl) kb_8 ?_
    refine lv_iconst (v := (0 : Int32)) F.1 F.2.1 (dd D_X8_alike 13 rfl) ki_0 ?_
    obtain ⟨r1, e2, h⟩ := Option.bind_eq_some_iff.mp h
    refine ro_go (st' := [.int r1]) (rV (rest := []) F (c_X2_bestOf D cA ax s n p1 (8 : Int32) (0 : Int32) r1 e2 l) lk_X8_269 (Nat.le_of_ble_eq_true rfl) (preRO hK hS hAb hP) (rcv_2 hK hP (q0 := (40)) (xp_40 cA ax s)) rfl hl rfl (Nat.le_of_ble_eq_true rfl) (dd D_X8_alike 14 rfl) ⟨Nat.le_of_ble_eq_true rfl, Nat.le_of_ble_eq_true rfl⟩) rfl ?_
    obtain rfl := Option.some.inj h
    exact rw_i (R := rmOf 6 0 0) F hP hD hS hr hlk ⟨Nat.le_of_ble_eq_true rfl, Nat.le_of_ble_eq_true rfl⟩ ⟨rfl, rfl⟩ (dd D_X8_alike 15 rfl)
  · refine lv_aload_n F.1 F.2.1 (dd D_X8_alike 5 rfl) rfl (lv_at hl 0 rfl) ?_
    refine lv_bipush (v := (-2 : Int32)) F.1 F.2.1 (dd D_X8_alike 6 rfl) kb_m2 ?_
    obtain ⟨r3, e4, h⟩ := Option.bind_eq_some_iff.mp h
    refine rwe_all (st' := [.int r3.1]) hD hS hA (rV (rest := []) F (c_X8_refuse D cA ax s n (-2 : Int32) r3 e4 l H.size) lk_X8_64 (Nat.le_of_ble_eq_true rfl) (preRW hK hS hAb hP hD) (rcv_8 hK hP (q0 := (0)) (xp_0 cA ax s)) rfl hl rfl (Nat.le_of_ble_eq_true rfl) (dd D_X8_alike 7 rfl) ⟨Nat.le_of_ble_eq_true rfl, Nat.le_of_ble_eq_true rfl⟩) rfl (fun H locs hP hD hS => ?_)
    obtain rfl := Option.some.inj h
    exact rw_i (R := rmOf 6 0 0) F hP hD hS hr hlk ⟨Nat.le_of_ble_eq_true rfl, Nat.le_of_ble_eq_true rfl⟩ ⟨rfl, rfl⟩ (dd D_X8_alike 8 rfl)
def F_X8_farthest (n : Nat) (s : XS) (p1 : Int32) (p2 : Int32) : Option (Int32 × XS) := bf (F_X8_areDays p1 p2) ((((F_X2_bestOf n s p1 p2 (1 : Int32))).bind fun r3 => some (r3, s))) ((((F_X8_refuse n s (-2 : Int32))).bind fun r1 => some (r1.1, r1.2)))
set_option maxHeartbeats 4000000 in
set_option maxRecDepth 100000 in
theorem c_X8_farthest (D : va_G) (cA : Nat → ClassId) (ax : Nat → Nat) (s : XS) (n : Nat) (p1 : Int32) (p2 : Int32) (r : (Int32 × XS)) (h : F_X8_farthest n s p1 p2 = some r) : RW m_X8_farthest 6 0 0 D cA [.ref (ax 0), .int p1, .int p2] (xW cA ax s) (exq (some (.int r.1)) (xW cA ax r.2)) := by
  refine RW.ofW gy_X8_farthest.2.2 (Nat.le_of_ble_eq_true rfl) ?_
  intro l p e sM m below meth c A H locs F hr hlk hnm hK hP hD hS hA hAb ls hl
  have hl : lv_has ls 3 [(0, .ref (ax 0)), (1, .int p1), (2, .int p2)] := hl
  unfold F_X8_farthest at h
  refine lv_iload_n F.1 F.2.1 (dd D_X8_farthest 0 rfl) rfl (lv_at hl 1 rfl) ?_
  refine lv_iload_n F.1 F.2.1 (dd D_X8_farthest 1 rfl) rfl (lv_at hl 2 rfl) ?_
  refine ro_go (st' := [.int (bI (F_X8_areDays p1 p2))]) (rS (rest := []) F (c_X8_areDays D cA p1 p2 l) lk_X8_260 (Nat.le_of_ble_eq_true rfl) (preRO hK hS hAb (emP)) rfl hl rfl (Nat.le_of_ble_eq_true rfl) (dd D_X8_farthest 2 rfl) ⟨Nat.le_of_ble_eq_true rfl, Nat.le_of_ble_eq_true rfl⟩) rfl ?_
  refine x_bif_eq (tgt := 21) F.1 F.2.1 (dd D_X8_farthest 3 rfl) rfl h (fun c5 h => ?_) (fun c5 h => ?_)
  · refine lv_aload_n F.1 F.2.1 (dd D_X8_farthest 11 rfl) rfl (lv_at hl 0 rfl) ?_
    refine lv_bipush (v := (-2 : Int32)) F.1 F.2.1 (dd D_X8_farthest 12 rfl) kb_m2 ?_
    obtain ⟨r1, e2, h⟩ := Option.bind_eq_some_iff.mp h
    refine rwe_all (st' := [.int r1.1]) hD hS hA (rV (rest := []) F (c_X8_refuse D cA ax s n (-2 : Int32) r1 e2 l H.size) lk_X8_64 (Nat.le_of_ble_eq_true rfl) (preRW hK hS hAb hP hD) (rcv_8 hK hP (q0 := (0)) (xp_0 cA ax s)) rfl hl rfl (Nat.le_of_ble_eq_true rfl) (dd D_X8_farthest 13 rfl) ⟨Nat.le_of_ble_eq_true rfl, Nat.le_of_ble_eq_true rfl⟩) rfl (fun H locs hP hD hS => ?_)
    obtain rfl := Option.some.inj h
    exact rw_i (R := rmOf 6 0 0) F hP hD hS hr hlk ⟨Nat.le_of_ble_eq_true rfl, Nat.le_of_ble_eq_true rfl⟩ ⟨rfl, rfl⟩ (dd D_X8_farthest 14 rfl)
  · refine lv_aload_n F.1 F.2.1 (dd D_X8_farthest 4 rfl) rfl (lv_at hl 0 rfl) ?_
    refine getF F hK hP lf_X8_27 (0) (xp_0 cA ax s) rfl (dd D_X8_farthest 5 rfl) ?_
    refine lv_iload_n F.1 F.2.1 (dd D_X8_farthest 6 rfl) rfl (lv_at hl 1 rfl) ?_
    refine lv_iload_n F.1 F.2.1 (dd D_X8_farthest 7 rfl) rfl (lv_at hl 2 rfl) ?_
    refine lv_iconst (v := (1 : Int32)) F.1 F.2.1 (dd D_X8_farthest 8 rfl) ki_1 ?_
    obtain ⟨r3, e4, h⟩ := Option.bind_eq_some_iff.mp h
    refine ro_go (st' := [.int r3]) (rV (rest := []) F (c_X2_bestOf D cA ax s n p1 p2 (1 : Int32) r3 e4 l) lk_X8_269 (Nat.le_of_ble_eq_true rfl) (preRO hK hS hAb hP) (rcv_2 hK hP (q0 := (40)) (xp_40 cA ax s)) rfl hl rfl (Nat.le_of_ble_eq_true rfl) (dd D_X8_farthest 9 rfl) ⟨Nat.le_of_ble_eq_true rfl, Nat.le_of_ble_eq_true rfl⟩) rfl ?_
    refine lv_goto (tgt := 27) F.1 F.2.1 (dd D_X8_farthest 10 rfl) rfl ?_
    obtain rfl := Option.some.inj h
    exact rw_i (R := rmOf 6 0 0) F hP hD hS hr hlk ⟨Nat.le_of_ble_eq_true rfl, Nat.le_of_ble_eq_true rfl⟩ ⟨rfl, rfl⟩ (dd D_X8_farthest 14 rfl)
def F_X8_grows (n : Nat) (s : XS) (p1 : Int32) : Option (Int32 × XS) := bf (F_X8_isDay p1) ((if (1476 : Int32) < (F_X2_ageOf s p1) then some ((0 : Int32), s) else some ((1 : Int32), s))) ((((F_X8_refuse n s (-2 : Int32))).bind fun r2 => some (r2.1, r2.2)))
set_option maxHeartbeats 4000000 in
set_option maxRecDepth 100000 in
theorem c_X8_grows (D : va_G) (cA : Nat → ClassId) (ax : Nat → Nat) (s : XS) (n : Nat) (p1 : Int32) (r : (Int32 × XS)) (h : F_X8_grows n s p1 = some r) : RW m_X8_grows 2 0 0 D cA [.ref (ax 0), .int p1] (xW cA ax s) (exq (some (.int r.1)) (xW cA ax r.2)) := by
  refine RW.ofW gy_X8_grows.2.2 (Nat.le_of_ble_eq_true rfl) ?_
  intro l p e sM m below meth c A H locs F hr hlk hnm hK hP hD hS hA hAb ls hl
  have hl : lv_has ls 2 [(0, .ref (ax 0)), (1, .int p1)] := hl
  unfold F_X8_grows at h
  refine lv_iload_n F.1 F.2.1 (dd D_X8_grows 0 rfl) rfl (lv_at hl 1 rfl) ?_
  refine ro_go (st' := [.int (bI (F_X8_isDay p1))]) (rS (rest := []) F (c_X8_isDay D cA p1 l) lk_X8_113 (Nat.le_of_ble_eq_true rfl) (preRO hK hS hAb (emP)) rfl hl rfl (Nat.le_of_ble_eq_true rfl) (dd D_X8_grows 1 rfl) ⟨Nat.le_of_ble_eq_true rfl, Nat.le_of_ble_eq_true rfl⟩) rfl ?_
  refine x_bif_ne (tgt := 14) F.1 F.2.1 (dd D_X8_grows 2 rfl) rfl h (fun c4 h => ?_) (fun c4 h => ?_)
  · refine lv_aload_n F.1 F.2.1 (dd D_X8_grows 7 rfl) rfl (lv_at hl 0 rfl) ?_
    refine getF F hK hP lf_X8_27 (0) (xp_0 cA ax s) rfl (dd D_X8_grows 8 rfl) ?_
    refine lv_iload_n F.1 F.2.1 (dd D_X8_grows 9 rfl) rfl (lv_at hl 1 rfl) ?_
    refine ro_go (st' := [.int (F_X2_ageOf s p1)]) (rV (rest := []) F (c_X2_ageOf D cA ax s p1 l) lk_X8_210 (Nat.le_of_ble_eq_true rfl) (preRO hK hS hAb hP) (rcv_2 hK hP (q0 := (40)) (xp_40 cA ax s)) rfl hl rfl (Nat.le_of_ble_eq_true rfl) (dd D_X8_grows 10 rfl) ⟨Nat.le_of_ble_eq_true rfl, Nat.le_of_ble_eq_true rfl⟩) rfl ?_
    refine lv_sipush (v := (1476 : Int32)) F.1 F.2.1 (dd D_X8_grows 11 rfl) ks_1476 ?_
    refine x_icmp_gt (tgt := 32) F.1 F.2.1 (dd D_X8_grows 12 rfl) rfl h (fun c1 h => ?_) (fun c1 h => ?_)
    · refine lv_iconst (v := (0 : Int32)) F.1 F.2.1 (dd D_X8_grows 15 rfl) ki_0 ?_
      obtain rfl := Option.some.inj h
      exact rw_i (R := rmOf 2 0 0) F hP hD hS hr hlk ⟨Nat.le_of_ble_eq_true rfl, Nat.le_of_ble_eq_true rfl⟩ ⟨rfl, rfl⟩ (dd D_X8_grows 16 rfl)
    · refine lv_iconst (v := (1 : Int32)) F.1 F.2.1 (dd D_X8_grows 13 rfl) ki_1 ?_
      refine lv_goto (tgt := 33) F.1 F.2.1 (dd D_X8_grows 14 rfl) rfl ?_
      obtain rfl := Option.some.inj h
      exact rw_i (R := rmOf 2 0 0) F hP hD hS hr hlk ⟨Nat.le_of_ble_eq_true rfl, Nat.le_of_ble_eq_true rfl⟩ ⟨rfl, rfl⟩ (dd D_X8_grows 16 rfl)
  · refine lv_aload_n F.1 F.2.1 (dd D_X8_grows 3 rfl) rfl (lv_at hl 0 rfl) ?_
    refine lv_bipush (v := (-2 : Int32)) F.1 F.2.1 (dd D_X8_grows 4 rfl) kb_m2 ?_
    obtain ⟨r2, e3, h⟩ := Option.bind_eq_some_iff.mp h
    refine rwe_all (st' := [.int r2.1]) hD hS hA (rV (rest := []) F (c_X8_refuse D cA ax s n (-2 : Int32) r2 e3 l H.size) lk_X8_64 (Nat.le_of_ble_eq_true rfl) (preRW hK hS hAb hP hD) (rcv_8 hK hP (q0 := (0)) (xp_0 cA ax s)) rfl hl rfl (Nat.le_of_ble_eq_true rfl) (dd D_X8_grows 5 rfl) ⟨Nat.le_of_ble_eq_true rfl, Nat.le_of_ble_eq_true rfl⟩) rfl (fun H locs hP hD hS => ?_)
    obtain rfl := Option.some.inj h
    exact rw_i (R := rmOf 2 0 0) F hP hD hS hr hlk ⟨Nat.le_of_ble_eq_true rfl, Nat.le_of_ble_eq_true rfl⟩ ⟨rfl, rfl⟩ (dd D_X8_grows 6 rfl)
def F_X8_lights_L46 (n : Nat) (u0 : XS) (v1 : Int32) (v2 : Int32) (v3 : Int32) (v4 : Int32) (v6 : Int32) : Nat → Int32 → Int32 → Option (Int32 × XS)
  | 0, _, _ => none
  | kf + 1, w5, w7 => (if v6 < w7 then some (w5, u0) else (((F_X2_lightOf n u0 w7 v3 v4)).bind fun r6 => F_X8_lights_L46 n u0 v1 v2 v3 v4 v6 kf (w5 + r6) (w7 + (1 : Int32))))
def F_X8_lights (n : Nat) (s : XS) (p1 : Int32) (p2 : Int32) (p3 : Int32) (p4 : Int32) : Option (Int32 × XS) := bf (F_X8_isDay p1) (bf (F_X8_isIn p2 (1 : Int32) (40 : Int32)) (bf (F_X8_areMinutes p3 p4) (F_X8_lights_L46 n s p1 p2 p3 p4 (F_X2_lastOf p1 p2) n (0 : Int32) p1) ((((F_X8_refuse n s (-2 : Int32))).bind fun r12 => some (r12.1, r12.2)))) ((((F_X8_refuse n s (-2 : Int32))).bind fun r3 => some (r3.1, r3.2)))) ((((F_X8_refuse n s (-2 : Int32))).bind fun r1 => some (r1.1, r1.2)))
set_option maxHeartbeats 4000000 in
set_option maxRecDepth 100000 in
theorem c_X8_lights (D : va_G) (cA : Nat → ClassId) (ax : Nat → Nat) (s : XS) (n : Nat) (p1 : Int32) (p2 : Int32) (p3 : Int32) (p4 : Int32) (r : (Int32 × XS)) (h : F_X8_lights n s p1 p2 p3 p4 = some r) : RW m_X8_lights 4 0 0 D cA [.ref (ax 0), .int p1, .int p2, .int p3, .int p4] (xW cA ax s) (exq (some (.int r.1)) (xW cA ax r.2)) := by
  refine RW.ofW gy_X8_lights.2.2 (Nat.le_of_ble_eq_true rfl) ?_
  intro l p e sM m below meth c A H locs F hr hlk hnm hK hP hD hS hA hAb ls hl
  have hl : lv_has ls 8 [(0, .ref (ax 0)), (1, .int p1), (2, .int p2), (3, .int p3), (4, .int p4)] := hl
  unfold F_X8_lights at h
  refine lv_iload_n F.1 F.2.1 (dd D_X8_lights 0 rfl) rfl (lv_at hl 1 rfl) ?_
  refine ro_go (st' := [.int (bI (F_X8_isDay p1))]) (rS (rest := []) F (c_X8_isDay D cA p1 l) lk_X8_113 (Nat.le_of_ble_eq_true rfl) (preRO hK hS hAb (emP)) rfl hl rfl (Nat.le_of_ble_eq_true rfl) (dd D_X8_lights 1 rfl) ⟨Nat.le_of_ble_eq_true rfl, Nat.le_of_ble_eq_true rfl⟩) rfl ?_
  refine x_bif_eq (tgt := 26) F.1 F.2.1 (dd D_X8_lights 2 rfl) rfl h (fun c16 h => ?_) (fun c16 h => ?_)
  · refine lv_aload_n F.1 F.2.1 (dd D_X8_lights 12 rfl) rfl (lv_at hl 0 rfl) ?_
    refine lv_bipush (v := (-2 : Int32)) F.1 F.2.1 (dd D_X8_lights 13 rfl) kb_m2 ?_
    obtain ⟨r1, e2, h⟩ := Option.bind_eq_some_iff.mp h
    refine rwe_all (st' := [.int r1.1]) hD hS hA (rV (rest := []) F (c_X8_refuse D cA ax s n (-2 : Int32) r1 e2 l H.size) lk_X8_64 (Nat.le_of_ble_eq_true rfl) (preRW hK hS hAb hP hD) (rcv_8 hK hP (q0 := (0)) (xp_0 cA ax s)) rfl hl rfl (Nat.le_of_ble_eq_true rfl) (dd D_X8_lights 14 rfl) ⟨Nat.le_of_ble_eq_true rfl, Nat.le_of_ble_eq_true rfl⟩) rfl (fun H locs hP hD hS => ?_)
    obtain rfl := Option.some.inj h
    exact rw_i (R := rmOf 4 0 0) F hP hD hS hr hlk ⟨Nat.le_of_ble_eq_true rfl, Nat.le_of_ble_eq_true rfl⟩ ⟨rfl, rfl⟩ (dd D_X8_lights 15 rfl)
  · refine lv_iload_n F.1 F.2.1 (dd D_X8_lights 3 rfl) rfl (lv_at hl 2 rfl) ?_
    refine lv_iconst (v := (1 : Int32)) F.1 F.2.1 (dd D_X8_lights 4 rfl) ki_1 ?_
    refine lv_bipush (v := (40 : Int32)) F.1 F.2.1 (dd D_X8_lights 5 rfl) kb_40 ?_
    refine ro_go (st' := [.int (bI (F_X8_isIn p2 (1 : Int32) (40 : Int32)))]) (rS (rest := []) F (c_X8_isIn D cA p2 (1 : Int32) (40 : Int32) l) lk_X8_60 (Nat.le_of_ble_eq_true rfl) (preRO hK hS hAb (emP)) rfl hl rfl (Nat.le_of_ble_eq_true rfl) (dd D_X8_lights 6 rfl) ⟨Nat.le_of_ble_eq_true rfl, Nat.le_of_ble_eq_true rfl⟩) rfl ?_
    refine x_bif_eq (tgt := 26) F.1 F.2.1 (dd D_X8_lights 7 rfl) rfl h (fun c15 h => ?_) (fun c15 h => ?_)
    · refine lv_aload_n F.1 F.2.1 (dd D_X8_lights 12 rfl) rfl (lv_at hl 0 rfl) ?_
      refine lv_bipush (v := (-2 : Int32)) F.1 F.2.1 (dd D_X8_lights 13 rfl) kb_m2 ?_
      obtain ⟨r3, e4, h⟩ := Option.bind_eq_some_iff.mp h
      refine rwe_all (st' := [.int r3.1]) hD hS hA (rV (rest := []) F (c_X8_refuse D cA ax s n (-2 : Int32) r3 e4 l H.size) lk_X8_64 (Nat.le_of_ble_eq_true rfl) (preRW hK hS hAb hP hD) (rcv_8 hK hP (q0 := (0)) (xp_0 cA ax s)) rfl hl rfl (Nat.le_of_ble_eq_true rfl) (dd D_X8_lights 14 rfl) ⟨Nat.le_of_ble_eq_true rfl, Nat.le_of_ble_eq_true rfl⟩) rfl (fun H locs hP hD hS => ?_)
      obtain rfl := Option.some.inj h
      exact rw_i (R := rmOf 4 0 0) F hP hD hS hr hlk ⟨Nat.le_of_ble_eq_true rfl, Nat.le_of_ble_eq_true rfl⟩ ⟨rfl, rfl⟩ (dd D_X8_lights 15 rfl)
    · refine lv_iload_n F.1 F.2.1 (dd D_X8_lights 8 rfl) rfl (lv_at hl 3 rfl) ?_
      refine lv_iload F.1 F.2.1 (dd D_X8_lights 9 rfl) (lv_at hl 4 rfl) ?_
      refine ro_go (st' := [.int (bI (F_X8_areMinutes p3 p4))]) (rS (rest := []) F (c_X8_areMinutes D cA p3 p4 l) lk_X8_246 (Nat.le_of_ble_eq_true rfl) (preRO hK hS hAb (emP)) rfl hl rfl (Nat.le_of_ble_eq_true rfl) (dd D_X8_lights 10 rfl) ⟨Nat.le_of_ble_eq_true rfl, Nat.le_of_ble_eq_true rfl⟩) rfl ?_
      refine x_bif_ne (tgt := 33) F.1 F.2.1 (dd D_X8_lights 11 rfl) rfl h (fun c14 h => ?_) (fun c14 h => ?_)
      · refine lv_iconst (v := (0 : Int32)) F.1 F.2.1 (dd D_X8_lights 16 rfl) ki_0 ?_
        refine lv_istore (lv' := [(5, .int (0 : Int32)), (0, .ref (ax 0)), (1, .int p1), (2, .int p2), (3, .int p3), (4, .int p4)]) F.1 F.2.1 (dd D_X8_lights 17 rfl) hl (Nat.le_of_ble_eq_true rfl) rfl (fun ls hl => ?_)
        refine lv_iload_n F.1 F.2.1 (dd D_X8_lights 18 rfl) rfl (lv_at hl 2 rfl) ?_
        refine lv_iload_n F.1 F.2.1 (dd D_X8_lights 19 rfl) rfl (lv_at hl 3 rfl) ?_
        refine ro_go (st' := [.int (F_X2_lastOf p1 p2)]) (rS (rest := []) F (c_X2_lastOf D cA p1 p2 l) lk_X8_272 (Nat.le_of_ble_eq_true rfl) (preRO hK hS hAb (emP)) rfl hl rfl (Nat.le_of_ble_eq_true rfl) (dd D_X8_lights 20 rfl) ⟨Nat.le_of_ble_eq_true rfl, Nat.le_of_ble_eq_true rfl⟩) rfl ?_
        refine lv_istore (lv' := [(6, .int (F_X2_lastOf p1 p2)), (5, .int (0 : Int32)), (0, .ref (ax 0)), (1, .int p1), (2, .int p2), (3, .int p3), (4, .int p4)]) F.1 F.2.1 (dd D_X8_lights 21 rfl) hl (Nat.le_of_ble_eq_true rfl) rfl (fun ls hl => ?_)
        refine lv_iload_n F.1 F.2.1 (dd D_X8_lights 22 rfl) rfl (lv_at hl 3 rfl) ?_
        refine lv_istore (lv' := [(7, .int p1), (6, .int (F_X2_lastOf p1 p2)), (5, .int (0 : Int32)), (0, .ref (ax 0)), (1, .int p1), (2, .int p2), (3, .int p3), (4, .int p4)]) F.1 F.2.1 (dd D_X8_lights 23 rfl) hl (Nat.le_of_ble_eq_true rfl) rfl (fun ls hl => ?_)
        have L8 : ∀ (kf : Nat) (w5_L8 : Int32) (w7_L8 : Int32) (H : Heap) (locs : List Loc) (ls : Array Slot), va_P D vwCl (xW cA ax s) H → va_D A (xW cA ax s) → va_S A sM.heap H locs → lv_has ls 8 [(0, .ref (ax 0)), (1, .int p1), (2, .int p2), (3, .int p3), (4, .int p4), (6, .int (F_X2_lastOf p1 p2)), (5, .int w5_L8), (7, .int w7_L8)] → F_X8_lights_L46 n s p1 p2 p3 p4 (F_X2_lastOf p1 p2) kf w5_L8 w7_L8 = some r → Wrw 4 0 0 D A (exq (some (.int r.1)) (xW cA ax r.2)) p l e sM m ([.ref (ax 0), .int p1, .int p2, .int p3, .int p4] : List Value).toArray below meth c H locs 0 0 46 ls [] := by
          intro kf
          induction kf with
          | zero =>
            intro w5_L8 w7_L8 H locs ls hP hD hS hl h
            cases (show none = some r from h)
          | succ k_L8 ih_L8 =>
            intro w5_L8 w7_L8 H locs ls hP hD hS hl h
            unfold F_X8_lights_L46 at h
            refine lv_iload F.1 F.2.1 (dd D_X8_lights 24 rfl) (lv_at hl 7 rfl) ?_
            refine lv_iload F.1 F.2.1 (dd D_X8_lights 25 rfl) (lv_at hl 5 rfl) ?_
            refine x_icmp_gt (tgt := 76) F.1 F.2.1 (dd D_X8_lights 26 rfl) rfl h (fun c9 h => ?_) (fun c9 h => ?_)
            · refine lv_iload F.1 F.2.1 (dd D_X8_lights 38 rfl) (lv_at hl 6 rfl) ?_
              obtain rfl := Option.some.inj h
              exact rw_i (R := rmOf 4 0 0) F hP hD hS hr hlk ⟨Nat.le_of_ble_eq_true rfl, Nat.le_of_ble_eq_true rfl⟩ ⟨rfl, rfl⟩ (dd D_X8_lights 39 rfl)
            · refine lv_iload F.1 F.2.1 (dd D_X8_lights 27 rfl) (lv_at hl 6 rfl) ?_
              refine lv_aload_n F.1 F.2.1 (dd D_X8_lights 28 rfl) rfl (lv_at hl 0 rfl) ?_
              refine getF F hK hP lf_X8_27 (0) (xp_0 cA ax s) rfl (dd D_X8_lights 29 rfl) ?_
              refine lv_iload F.1 F.2.1 (dd D_X8_lights 30 rfl) (lv_at hl 7 rfl) ?_
              refine lv_iload_n F.1 F.2.1 (dd D_X8_lights 31 rfl) rfl (lv_at hl 3 rfl) ?_
              refine lv_iload F.1 F.2.1 (dd D_X8_lights 32 rfl) (lv_at hl 4 rfl) ?_
              obtain ⟨r10, e11, h⟩ := Option.bind_eq_some_iff.mp h
              refine ro_go (st' := [.int r10, .int w5_L8]) (rV (rest := [.int w5_L8]) F (c_X2_lightOf D cA ax s n w7_L8 p3 p4 r10 e11 l) lk_X8_253 (Nat.le_of_ble_eq_true rfl) (preRO hK hS hAb hP) (rcv_2 hK hP (q0 := (40)) (xp_40 cA ax s)) rfl hl rfl (Nat.le_of_ble_eq_true rfl) (dd D_X8_lights 33 rfl) ⟨Nat.le_of_ble_eq_true rfl, Nat.le_of_ble_eq_true rfl⟩) rfl ?_
              refine lv_iadd F.1 F.2.1 (dd D_X8_lights 34 rfl) ?_
              refine lv_istore (lv' := [(5, .int (w5_L8 + r10)), (0, .ref (ax 0)), (1, .int p1), (2, .int p2), (3, .int p3), (4, .int p4), (6, .int (F_X2_lastOf p1 p2)), (7, .int w7_L8)]) F.1 F.2.1 (dd D_X8_lights 35 rfl) hl (Nat.le_of_ble_eq_true rfl) rfl (fun ls hl => ?_)
              refine lv_iinc (v := (w7_L8 + (1 : Int32))) (lv' := [(7, .int (w7_L8 + (1 : Int32))), (5, .int (w5_L8 + r10)), (0, .ref (ax 0)), (1, .int p1), (2, .int p2), (3, .int p3), (4, .int p4), (6, .int (F_X2_lastOf p1 p2))]) F.1 F.2.1 (dd D_X8_lights 36 rfl) hl (k := 7) rfl (congrArg (fun z => w7_L8 + z) ki_1) (Nat.le_of_ble_eq_true rfl) rfl (fun ls hl => ?_)
              refine lv_goto (tgt := 46) F.1 F.2.1 (dd D_X8_lights 37 rfl) rfl ?_
              exact ih_L8 (w5_L8 + r10) (w7_L8 + (1 : Int32)) _ _ ls hP hD hS (lv_sub hl [2, 3, 4, 5, 6, 7, 1, 0] rfl) h
        exact L8 n (0 : Int32) p1 _ _ ls hP hD hS (lv_sub hl [3, 4, 5, 6, 7, 1, 2, 0] rfl) h
      · refine lv_aload_n F.1 F.2.1 (dd D_X8_lights 12 rfl) rfl (lv_at hl 0 rfl) ?_
        refine lv_bipush (v := (-2 : Int32)) F.1 F.2.1 (dd D_X8_lights 13 rfl) kb_m2 ?_
        obtain ⟨r12, e13, h⟩ := Option.bind_eq_some_iff.mp h
        refine rwe_all (st' := [.int r12.1]) hD hS hA (rV (rest := []) F (c_X8_refuse D cA ax s n (-2 : Int32) r12 e13 l H.size) lk_X8_64 (Nat.le_of_ble_eq_true rfl) (preRW hK hS hAb hP hD) (rcv_8 hK hP (q0 := (0)) (xp_0 cA ax s)) rfl hl rfl (Nat.le_of_ble_eq_true rfl) (dd D_X8_lights 14 rfl) ⟨Nat.le_of_ble_eq_true rfl, Nat.le_of_ble_eq_true rfl⟩) rfl (fun H locs hP hD hS => ?_)
        obtain rfl := Option.some.inj h
        exact rw_i (R := rmOf 4 0 0) F hP hD hS hr hlk ⟨Nat.le_of_ble_eq_true rfl, Nat.le_of_ble_eq_true rfl⟩ ⟨rfl, rfl⟩ (dd D_X8_lights 15 rfl)
def F_X8_soonest (n : Nat) (s : XS) (p1 : Int32) (p2 : Int32) : Option (Int32 × XS) := bf (F_X8_areDays p1 p2) ((((F_X2_bestOf n s p1 p2 (2 : Int32))).bind fun r3 => some (r3, s))) ((((F_X8_refuse n s (-2 : Int32))).bind fun r1 => some (r1.1, r1.2)))
set_option maxHeartbeats 4000000 in
set_option maxRecDepth 100000 in
theorem c_X8_soonest (D : va_G) (cA : Nat → ClassId) (ax : Nat → Nat) (s : XS) (n : Nat) (p1 : Int32) (p2 : Int32) (r : (Int32 × XS)) (h : F_X8_soonest n s p1 p2 = some r) : RW m_X8_soonest 6 0 0 D cA [.ref (ax 0), .int p1, .int p2] (xW cA ax s) (exq (some (.int r.1)) (xW cA ax r.2)) := by
  refine RW.ofW gy_X8_soonest.2.2 (Nat.le_of_ble_eq_true rfl) ?_
  intro l p e sM m below meth c A H locs F hr hlk hnm hK hP hD hS hA hAb ls hl
  have hl : lv_has ls 3 [(0, .ref (ax 0)), (1, .int p1), (2, .int p2)] := hl
  unfold F_X8_soonest at h
  refine lv_iload_n F.1 F.2.1 (dd D_X8_soonest 0 rfl) rfl (lv_at hl 1 rfl) ?_
  refine lv_iload_n F.1 F.2.1 (dd D_X8_soonest 1 rfl) rfl (lv_at hl 2 rfl) ?_
  refine ro_go (st' := [.int (bI (F_X8_areDays p1 p2))]) (rS (rest := []) F (c_X8_areDays D cA p1 p2 l) lk_X8_260 (Nat.le_of_ble_eq_true rfl) (preRO hK hS hAb (emP)) rfl hl rfl (Nat.le_of_ble_eq_true rfl) (dd D_X8_soonest 2 rfl) ⟨Nat.le_of_ble_eq_true rfl, Nat.le_of_ble_eq_true rfl⟩) rfl ?_
  refine x_bif_eq (tgt := 21) F.1 F.2.1 (dd D_X8_soonest 3 rfl) rfl h (fun c5 h => ?_) (fun c5 h => ?_)
  · refine lv_aload_n F.1 F.2.1 (dd D_X8_soonest 11 rfl) rfl (lv_at hl 0 rfl) ?_
    refine lv_bipush (v := (-2 : Int32)) F.1 F.2.1 (dd D_X8_soonest 12 rfl) kb_m2 ?_
    obtain ⟨r1, e2, h⟩ := Option.bind_eq_some_iff.mp h
    refine rwe_all (st' := [.int r1.1]) hD hS hA (rV (rest := []) F (c_X8_refuse D cA ax s n (-2 : Int32) r1 e2 l H.size) lk_X8_64 (Nat.le_of_ble_eq_true rfl) (preRW hK hS hAb hP hD) (rcv_8 hK hP (q0 := (0)) (xp_0 cA ax s)) rfl hl rfl (Nat.le_of_ble_eq_true rfl) (dd D_X8_soonest 13 rfl) ⟨Nat.le_of_ble_eq_true rfl, Nat.le_of_ble_eq_true rfl⟩) rfl (fun H locs hP hD hS => ?_)
    obtain rfl := Option.some.inj h
    exact rw_i (R := rmOf 6 0 0) F hP hD hS hr hlk ⟨Nat.le_of_ble_eq_true rfl, Nat.le_of_ble_eq_true rfl⟩ ⟨rfl, rfl⟩ (dd D_X8_soonest 14 rfl)
  · refine lv_aload_n F.1 F.2.1 (dd D_X8_soonest 4 rfl) rfl (lv_at hl 0 rfl) ?_
    refine getF F hK hP lf_X8_27 (0) (xp_0 cA ax s) rfl (dd D_X8_soonest 5 rfl) ?_
    refine lv_iload_n F.1 F.2.1 (dd D_X8_soonest 6 rfl) rfl (lv_at hl 1 rfl) ?_
    refine lv_iload_n F.1 F.2.1 (dd D_X8_soonest 7 rfl) rfl (lv_at hl 2 rfl) ?_
    refine lv_iconst (v := (2 : Int32)) F.1 F.2.1 (dd D_X8_soonest 8 rfl) ki_2 ?_
    obtain ⟨r3, e4, h⟩ := Option.bind_eq_some_iff.mp h
    refine ro_go (st' := [.int r3]) (rV (rest := []) F (c_X2_bestOf D cA ax s n p1 p2 (2 : Int32) r3 e4 l) lk_X8_269 (Nat.le_of_ble_eq_true rfl) (preRO hK hS hAb hP) (rcv_2 hK hP (q0 := (40)) (xp_40 cA ax s)) rfl hl rfl (Nat.le_of_ble_eq_true rfl) (dd D_X8_soonest 9 rfl) ⟨Nat.le_of_ble_eq_true rfl, Nat.le_of_ble_eq_true rfl⟩) rfl ?_
    refine lv_goto (tgt := 27) F.1 F.2.1 (dd D_X8_soonest 10 rfl) rfl ?_
    obtain rfl := Option.some.inj h
    exact rw_i (R := rmOf 6 0 0) F hP hD hS hr hlk ⟨Nat.le_of_ble_eq_true rfl, Nat.le_of_ble_eq_true rfl⟩ ⟨rfl, rfl⟩ (dd D_X8_soonest 14 rfl)
def F_X8_brightest (n : Nat) (s : XS) (p1 : Int32) (p2 : Int32) : Option (Int32 × XS) := bf (F_X8_areDays p1 p2) ((((F_X2_bestOf n s p1 p2 (3 : Int32))).bind fun r3 => some (r3, s))) ((((F_X8_refuse n s (-2 : Int32))).bind fun r1 => some (r1.1, r1.2)))
set_option maxHeartbeats 4000000 in
set_option maxRecDepth 100000 in
theorem c_X8_brightest (D : va_G) (cA : Nat → ClassId) (ax : Nat → Nat) (s : XS) (n : Nat) (p1 : Int32) (p2 : Int32) (r : (Int32 × XS)) (h : F_X8_brightest n s p1 p2 = some r) : RW m_X8_brightest 6 0 0 D cA [.ref (ax 0), .int p1, .int p2] (xW cA ax s) (exq (some (.int r.1)) (xW cA ax r.2)) := by
  refine RW.ofW gy_X8_brightest.2.2 (Nat.le_of_ble_eq_true rfl) ?_
  intro l p e sM m below meth c A H locs F hr hlk hnm hK hP hD hS hA hAb ls hl
  have hl : lv_has ls 3 [(0, .ref (ax 0)), (1, .int p1), (2, .int p2)] := hl
  unfold F_X8_brightest at h
  refine lv_iload_n F.1 F.2.1 (dd D_X8_brightest 0 rfl) rfl (lv_at hl 1 rfl) ?_
  refine lv_iload_n F.1 F.2.1 (dd D_X8_brightest 1 rfl) rfl (lv_at hl 2 rfl) ?_
  refine ro_go (st' := [.int (bI (F_X8_areDays p1 p2))]) (rS (rest := []) F (c_X8_areDays D cA p1 p2 l) lk_X8_260 (Nat.le_of_ble_eq_true rfl) (preRO hK hS hAb (emP)) rfl hl rfl (Nat.le_of_ble_eq_true rfl) (dd D_X8_brightest 2 rfl) ⟨Nat.le_of_ble_eq_true rfl, Nat.le_of_ble_eq_true rfl⟩) rfl ?_
  refine x_bif_eq (tgt := 21) F.1 F.2.1 (dd D_X8_brightest 3 rfl) rfl h (fun c5 h => ?_) (fun c5 h => ?_)
  · refine lv_aload_n F.1 F.2.1 (dd D_X8_brightest 11 rfl) rfl (lv_at hl 0 rfl) ?_
    refine lv_bipush (v := (-2 : Int32)) F.1 F.2.1 (dd D_X8_brightest 12 rfl) kb_m2 ?_
    obtain ⟨r1, e2, h⟩ := Option.bind_eq_some_iff.mp h
    refine rwe_all (st' := [.int r1.1]) hD hS hA (rV (rest := []) F (c_X8_refuse D cA ax s n (-2 : Int32) r1 e2 l H.size) lk_X8_64 (Nat.le_of_ble_eq_true rfl) (preRW hK hS hAb hP hD) (rcv_8 hK hP (q0 := (0)) (xp_0 cA ax s)) rfl hl rfl (Nat.le_of_ble_eq_true rfl) (dd D_X8_brightest 13 rfl) ⟨Nat.le_of_ble_eq_true rfl, Nat.le_of_ble_eq_true rfl⟩) rfl (fun H locs hP hD hS => ?_)
    obtain rfl := Option.some.inj h
    exact rw_i (R := rmOf 6 0 0) F hP hD hS hr hlk ⟨Nat.le_of_ble_eq_true rfl, Nat.le_of_ble_eq_true rfl⟩ ⟨rfl, rfl⟩ (dd D_X8_brightest 14 rfl)
  · refine lv_aload_n F.1 F.2.1 (dd D_X8_brightest 4 rfl) rfl (lv_at hl 0 rfl) ?_
    refine getF F hK hP lf_X8_27 (0) (xp_0 cA ax s) rfl (dd D_X8_brightest 5 rfl) ?_
    refine lv_iload_n F.1 F.2.1 (dd D_X8_brightest 6 rfl) rfl (lv_at hl 1 rfl) ?_
    refine lv_iload_n F.1 F.2.1 (dd D_X8_brightest 7 rfl) rfl (lv_at hl 2 rfl) ?_
    refine lv_iconst (v := (3 : Int32)) F.1 F.2.1 (dd D_X8_brightest 8 rfl) ki_3 ?_
    obtain ⟨r3, e4, h⟩ := Option.bind_eq_some_iff.mp h
    refine ro_go (st' := [.int r3]) (rV (rest := []) F (c_X2_bestOf D cA ax s n p1 p2 (3 : Int32) r3 e4 l) lk_X8_269 (Nat.le_of_ble_eq_true rfl) (preRO hK hS hAb hP) (rcv_2 hK hP (q0 := (40)) (xp_40 cA ax s)) rfl hl rfl (Nat.le_of_ble_eq_true rfl) (dd D_X8_brightest 9 rfl) ⟨Nat.le_of_ble_eq_true rfl, Nat.le_of_ble_eq_true rfl⟩) rfl ?_
    refine lv_goto (tgt := 27) F.1 F.2.1 (dd D_X8_brightest 10 rfl) rfl ?_
    obtain rfl := Option.some.inj h
    exact rw_i (R := rmOf 6 0 0) F hP hD hS hr hlk ⟨Nat.le_of_ble_eq_true rfl, Nat.le_of_ble_eq_true rfl⟩ ⟨rfl, rfl⟩ (dd D_X8_brightest 14 rfl)
def F_X8_walks (n : Nat) (s : XS) (p1 : Int32) (p2 : Int32) (p3 : Int32) (p4 : Int32) (p5 : Int32) (p6 : Int32) : Option (Int32 × XS) := bf (F_X8_areDays p1 p2) (bf (F_X8_areMinutes p3 p4) (bf (F_X8_isIn p5 (0 : Int32) (1440 : Int32)) ((if (-1 : Int32) ≤ p6 then (((F_X2_pick n s (7 : Int32) p3 p4 p5 none p1 p2 p6)).bind fun r9 => (((F_X8_orStuck n s r9)).bind fun r11 => some (r11.1, r11.2))) else (((F_X8_refuse n s (-2 : Int32))).bind fun r13 => some (r13.1, r13.2)))) ((((F_X8_refuse n s (-2 : Int32))).bind fun r5 => some (r5.1, r5.2)))) ((((F_X8_refuse n s (-2 : Int32))).bind fun r3 => some (r3.1, r3.2)))) ((((F_X8_refuse n s (-2 : Int32))).bind fun r1 => some (r1.1, r1.2)))
set_option maxHeartbeats 4000000 in
set_option maxRecDepth 100000 in
theorem c_X8_walks (D : va_G) (cA : Nat → ClassId) (ax : Nat → Nat) (s : XS) (n : Nat) (p1 : Int32) (p2 : Int32) (p3 : Int32) (p4 : Int32) (p5 : Int32) (p6 : Int32) (r : (Int32 × XS)) (h : F_X8_walks n s p1 p2 p3 p4 p5 p6 = some r) : RW m_X8_walks 6 1 5 D cA [.ref (ax 0), .int p1, .int p2, .int p3, .int p4, .int p5, .int p6] (xW cA ax s) (exq (some (.int r.1)) (xW cA ax r.2)) := by
  refine RW.ofW gy_X8_walks.2.2 (Nat.le_of_ble_eq_true rfl) ?_
  intro l p e sM m below meth c A H locs F hr hlk hnm hK hP hD hS hA hAb ls hl
  have hl : lv_has ls 7 [(0, .ref (ax 0)), (1, .int p1), (2, .int p2), (3, .int p3), (4, .int p4), (5, .int p5), (6, .int p6)] := hl
  unfold F_X8_walks at h
  refine lv_iload_n F.1 F.2.1 (dd D_X8_walks 0 rfl) rfl (lv_at hl 1 rfl) ?_
  refine lv_iload_n F.1 F.2.1 (dd D_X8_walks 1 rfl) rfl (lv_at hl 2 rfl) ?_
  refine ro_go (st' := [.int (bI (F_X8_areDays p1 p2))]) (rS (rest := []) F (c_X8_areDays D cA p1 p2 l) lk_X8_260 (Nat.le_of_ble_eq_true rfl) (preRO hK hS hAb (emP)) rfl hl rfl (Nat.le_of_ble_eq_true rfl) (dd D_X8_walks 2 rfl) ⟨Nat.le_of_ble_eq_true rfl, Nat.le_of_ble_eq_true rfl⟩) rfl ?_
  refine x_bif_eq (tgt := 35) F.1 F.2.1 (dd D_X8_walks 3 rfl) rfl h (fun c17 h => ?_) (fun c17 h => ?_)
  · refine lv_aload_n F.1 F.2.1 (dd D_X8_walks 16 rfl) rfl (lv_at hl 0 rfl) ?_
    refine lv_bipush (v := (-2 : Int32)) F.1 F.2.1 (dd D_X8_walks 17 rfl) kb_m2 ?_
    obtain ⟨r1, e2, h⟩ := Option.bind_eq_some_iff.mp h
    refine rwe_all (st' := [.int r1.1]) hD hS hA (rV (rest := []) F (c_X8_refuse D cA ax s n (-2 : Int32) r1 e2 l H.size) lk_X8_64 (Nat.le_of_ble_eq_true rfl) (preRW hK hS hAb hP hD) (rcv_8 hK hP (q0 := (0)) (xp_0 cA ax s)) rfl hl rfl (Nat.le_of_ble_eq_true rfl) (dd D_X8_walks 18 rfl) ⟨Nat.le_of_ble_eq_true rfl, Nat.le_of_ble_eq_true rfl⟩) rfl (fun H locs hP hD hS => ?_)
    obtain rfl := Option.some.inj h
    exact rw_i (R := rmOf 6 1 5) F hP hD hS hr hlk ⟨Nat.le_of_ble_eq_true rfl, Nat.le_of_ble_eq_true rfl⟩ ⟨rfl, rfl⟩ (dd D_X8_walks 19 rfl)
  · refine lv_iload_n F.1 F.2.1 (dd D_X8_walks 4 rfl) rfl (lv_at hl 3 rfl) ?_
    refine lv_iload F.1 F.2.1 (dd D_X8_walks 5 rfl) (lv_at hl 4 rfl) ?_
    refine ro_go (st' := [.int (bI (F_X8_areMinutes p3 p4))]) (rS (rest := []) F (c_X8_areMinutes D cA p3 p4 l) lk_X8_246 (Nat.le_of_ble_eq_true rfl) (preRO hK hS hAb (emP)) rfl hl rfl (Nat.le_of_ble_eq_true rfl) (dd D_X8_walks 6 rfl) ⟨Nat.le_of_ble_eq_true rfl, Nat.le_of_ble_eq_true rfl⟩) rfl ?_
    refine x_bif_eq (tgt := 35) F.1 F.2.1 (dd D_X8_walks 7 rfl) rfl h (fun c16 h => ?_) (fun c16 h => ?_)
    · refine lv_aload_n F.1 F.2.1 (dd D_X8_walks 16 rfl) rfl (lv_at hl 0 rfl) ?_
      refine lv_bipush (v := (-2 : Int32)) F.1 F.2.1 (dd D_X8_walks 17 rfl) kb_m2 ?_
      obtain ⟨r3, e4, h⟩ := Option.bind_eq_some_iff.mp h
      refine rwe_all (st' := [.int r3.1]) hD hS hA (rV (rest := []) F (c_X8_refuse D cA ax s n (-2 : Int32) r3 e4 l H.size) lk_X8_64 (Nat.le_of_ble_eq_true rfl) (preRW hK hS hAb hP hD) (rcv_8 hK hP (q0 := (0)) (xp_0 cA ax s)) rfl hl rfl (Nat.le_of_ble_eq_true rfl) (dd D_X8_walks 18 rfl) ⟨Nat.le_of_ble_eq_true rfl, Nat.le_of_ble_eq_true rfl⟩) rfl (fun H locs hP hD hS => ?_)
      obtain rfl := Option.some.inj h
      exact rw_i (R := rmOf 6 1 5) F hP hD hS hr hlk ⟨Nat.le_of_ble_eq_true rfl, Nat.le_of_ble_eq_true rfl⟩ ⟨rfl, rfl⟩ (dd D_X8_walks 19 rfl)
    · refine lv_iload F.1 F.2.1 (dd D_X8_walks 8 rfl) (lv_at hl 5 rfl) ?_
      refine lv_iconst (v := (0 : Int32)) F.1 F.2.1 (dd D_X8_walks 9 rfl) ki_0 ?_
      refine lv_sipush (v := (1440 : Int32)) F.1 F.2.1 (dd D_X8_walks 10 rfl) ks_1440 ?_
      refine ro_go (st' := [.int (bI (F_X8_isIn p5 (0 : Int32) (1440 : Int32)))]) (rS (rest := []) F (c_X8_isIn D cA p5 (0 : Int32) (1440 : Int32) l) lk_X8_60 (Nat.le_of_ble_eq_true rfl) (preRO hK hS hAb (emP)) rfl hl rfl (Nat.le_of_ble_eq_true rfl) (dd D_X8_walks 11 rfl) ⟨Nat.le_of_ble_eq_true rfl, Nat.le_of_ble_eq_true rfl⟩) rfl ?_
      refine x_bif_eq (tgt := 35) F.1 F.2.1 (dd D_X8_walks 12 rfl) rfl h (fun c15 h => ?_) (fun c15 h => ?_)
      · refine lv_aload_n F.1 F.2.1 (dd D_X8_walks 16 rfl) rfl (lv_at hl 0 rfl) ?_
        refine lv_bipush (v := (-2 : Int32)) F.1 F.2.1 (dd D_X8_walks 17 rfl) kb_m2 ?_
        obtain ⟨r5, e6, h⟩ := Option.bind_eq_some_iff.mp h
        refine rwe_all (st' := [.int r5.1]) hD hS hA (rV (rest := []) F (c_X8_refuse D cA ax s n (-2 : Int32) r5 e6 l H.size) lk_X8_64 (Nat.le_of_ble_eq_true rfl) (preRW hK hS hAb hP hD) (rcv_8 hK hP (q0 := (0)) (xp_0 cA ax s)) rfl hl rfl (Nat.le_of_ble_eq_true rfl) (dd D_X8_walks 18 rfl) ⟨Nat.le_of_ble_eq_true rfl, Nat.le_of_ble_eq_true rfl⟩) rfl (fun H locs hP hD hS => ?_)
        obtain rfl := Option.some.inj h
        exact rw_i (R := rmOf 6 1 5) F hP hD hS hr hlk ⟨Nat.le_of_ble_eq_true rfl, Nat.le_of_ble_eq_true rfl⟩ ⟨rfl, rfl⟩ (dd D_X8_walks 19 rfl)
      · refine lv_iload F.1 F.2.1 (dd D_X8_walks 13 rfl) (lv_at hl 6 rfl) ?_
        refine lv_iconst (v := (-1 : Int32)) F.1 F.2.1 (dd D_X8_walks 14 rfl) ki_m1 ?_
        refine x_icmp_ge (tgt := 42) F.1 F.2.1 (dd D_X8_walks 15 rfl) rfl h (fun c7 h => ?_) (fun c7 h => ?_)
        · refine lv_aload_n F.1 F.2.1 (dd D_X8_walks 20 rfl) rfl (lv_at hl 0 rfl) ?_
          refine lv_aload_n F.1 F.2.1 (dd D_X8_walks 21 rfl) rfl (lv_at hl 0 rfl) ?_
          refine getF F hK hP lf_X8_27 (0) (xp_0 cA ax s) rfl (dd D_X8_walks 22 rfl) ?_
          refine lv_iload_n F.1 F.2.1 (dd D_X8_walks 23 rfl) rfl (lv_at hl 1 rfl) ?_
          refine lv_iload_n F.1 F.2.1 (dd D_X8_walks 24 rfl) rfl (lv_at hl 2 rfl) ?_
          refine lv_iload F.1 F.2.1 (dd D_X8_walks 25 rfl) (lv_at hl 6 rfl) ?_
          refine newO F hK hP hD hS hA ln_X8_132 (Nat.le_of_ble_eq_true rfl) (Nat.le_of_ble_eq_true rfl) (dd D_X8_walks 26 rfl) (fun q8 H hP hD hS => ?_)
          refine lv_dup F.1 F.2.1 (dd D_X8_walks 27 rfl) rfl ?_
          refine lv_bipush (v := (7 : Int32)) F.1 F.2.1 (dd D_X8_walks 28 rfl) kb_7 ?_
          refine lv_iload_n F.1 F.2.1 (dd D_X8_walks 29 rfl) rfl (lv_at hl 3 rfl) ?_
          refine lv_iload F.1 F.2.1 (dd D_X8_walks 30 rfl) (lv_at hl 4 rfl) ?_
          refine lv_iload F.1 F.2.1 (dd D_X8_walks 31 rfl) (lv_at hl 5 rfl) ?_
          refine rwe (V := none) (wc := [(q8, .inr (4, [.int (0 : Int32), .int (0 : Int32), .int (0 : Int32), .int (0 : Int32), .null]))]) (wc' := [(q8, .inr (4, [.int (7 : Int32), .int p3, .int p4, .int p5, .null]))]) (st' := [.ref (q8), .int p6, .int p2, .int p1, .ref (ax 40), .ref (ax 0)]) (W' := (xW cA ax s) ++ [(q8, .inr (4, [.int (7 : Int32), .int p3, .int p4, .int p5, .null]))]) hP hD hS hA [63] (jc_last (xp_len cA ax s)) (Nat_nd rfl) rfl (rI (rest := [.ref (q8), .int p6, .int p2, .int p1, .ref (ax 40), .ref (ax 0)]) F (c_X4_init__ D cA q8 (7 : Int32) p3 p4 p5 l H.size) lk_X8_263 (Nat.le_of_ble_eq_true rfl) (preRW hK hS hAb (selP hP (jc_last (xp_len cA ax s))) (selD hD (Nat_nd rfl) (jc_last (xp_len cA ax s)))) rfl hl rfl (Nat.le_of_ble_eq_true rfl) (dd D_X8_walks 32 rfl) ⟨Nat.le_of_ble_eq_true rfl, Nat.le_of_ble_eq_true rfl⟩) (js_last (xp_len cA ax s)) rfl (fun H locs hP hD hS => ?_)
          obtain ⟨r9, e10, h⟩ := Option.bind_eq_some_iff.mp h
          refine ro_go (st' := [.int r9, .ref (ax 0)]) (rV (rest := [.ref (ax 0)]) F (c_X2_pick D cA ax s q8 (7 : Int32) p3 p4 p5 none n p1 p2 p6 r9 e10 l) lk_X8_256 (Nat.le_of_ble_eq_true rfl) (preRO hK hS hAb hP) (rcv_2 hK hP (q0 := (40)) (gL (xp_40 cA ax s))) rfl hl rfl (Nat.le_of_ble_eq_true rfl) (dd D_X8_walks 33 rfl) ⟨Nat.le_of_ble_eq_true rfl, Nat.le_of_ble_eq_true rfl⟩) rfl ?_
          obtain ⟨r11, e12, h⟩ := Option.bind_eq_some_iff.mp h
          have hP := preP hP
          have hD := preD hD
          refine rwe_all (st' := [.int r11.1]) hD hS hA (rV (rest := []) F (c_X8_orStuck D cA ax s n r9 r11 e12 l H.size) lk_X8_266 (Nat.le_of_ble_eq_true rfl) (preRW hK hS hAb hP hD) (rcv_8 hK hP (q0 := (0)) (gL (xp_0 cA ax s))) rfl hl rfl (Nat.le_of_ble_eq_true rfl) (dd D_X8_walks 34 rfl) ⟨Nat.le_of_ble_eq_true rfl, Nat.le_of_ble_eq_true rfl⟩) rfl (fun H locs hP hD hS => ?_)
          obtain rfl := Option.some.inj h
          exact rw_i (R := rmOf 6 1 5) F hP hD hS hr hlk ⟨Nat.le_of_ble_eq_true rfl, Nat.le_of_ble_eq_true rfl⟩ ⟨rfl, rfl⟩ (dd D_X8_walks 35 rfl)
        · refine lv_aload_n F.1 F.2.1 (dd D_X8_walks 16 rfl) rfl (lv_at hl 0 rfl) ?_
          refine lv_bipush (v := (-2 : Int32)) F.1 F.2.1 (dd D_X8_walks 17 rfl) kb_m2 ?_
          obtain ⟨r13, e14, h⟩ := Option.bind_eq_some_iff.mp h
          refine rwe_all (st' := [.int r13.1]) hD hS hA (rV (rest := []) F (c_X8_refuse D cA ax s n (-2 : Int32) r13 e14 l H.size) lk_X8_64 (Nat.le_of_ble_eq_true rfl) (preRW hK hS hAb hP hD) (rcv_8 hK hP (q0 := (0)) (xp_0 cA ax s)) rfl hl rfl (Nat.le_of_ble_eq_true rfl) (dd D_X8_walks 18 rfl) ⟨Nat.le_of_ble_eq_true rfl, Nat.le_of_ble_eq_true rfl⟩) rfl (fun H locs hP hD hS => ?_)
          obtain rfl := Option.some.inj h
          exact rw_i (R := rmOf 6 1 5) F hP hD hS hr hlk ⟨Nat.le_of_ble_eq_true rfl, Nat.le_of_ble_eq_true rfl⟩ ⟨rfl, rfl⟩ (dd D_X8_walks 19 rfl)
