def F_X8_court (n : Nat) (s : XS) (p1 : Int32) (p2 : Int32) : Option (Int32 × XS) := (((F_X8_shelfAt n s p1)).bind fun r1 => oM r1 ((((F_X8_refuse n s (-2 : Int32))).bind fun r5 => some (r5.1, r5.2))) (fun k3 => gd (decide (k3 < 8)) (bf (F_X8_isIn p2 (1 : Int32) (40 : Int32)) ((if (F_X5_refusalAsRow (x_sh s k3) p2) = 0 then (((F_X8_toldByMost n s k3 p2)).bind fun r8 => some (r8, s)) else (((F_X8_refuse n s (F_X5_refusalAsRow (x_sh s k3) p2))).bind fun r10 => some (r10.1, r10.2)))) ((((F_X8_refuse n s (-2 : Int32))).bind fun r12 => some (r12.1, r12.2))))))
set_option maxHeartbeats 4000000 in
set_option maxRecDepth 100000 in
theorem c_X8_court (D : va_G) (cA : Nat → ClassId) (ax : Nat → Nat) (s : XS) (n : Nat) (p1 : Int32) (p2 : Int32) (r : (Int32 × XS)) (h : F_X8_court n s p1 p2 = some r) : RW m_X8_court 3 0 0 D cA [.ref (ax 0), .int p1, .int p2] (xW cA ax s) (exq (some (.int r.1)) (xW cA ax r.2)) := by
  refine RW.ofW gy_X8_court.2.2 (Nat.le_of_ble_eq_true rfl) ?_
  intro l p e sM m below meth c A H locs F hr hlk hnm hK hP hD hS hA hAb ls hl
  have hl : lv_has ls 5 [(0, .ref (ax 0)), (1, .int p1), (2, .int p2)] := hl
  unfold F_X8_court at h
  refine lv_aload_n F.1 F.2.1 (dd D_X8_court 0 rfl) rfl (lv_at hl 0 rfl) ?_
  refine lv_iload_n F.1 F.2.1 (dd D_X8_court 1 rfl) rfl (lv_at hl 1 rfl) ?_
  obtain ⟨r1, e2, h⟩ := Option.bind_eq_some_iff.mp h
  refine ro_go (st' := [va_rf (Option.map (fun j => ax (46+2*j)) r1)]) (rV (rest := []) F (c_X8_shelfAt D cA ax s n p1 r1 e2 l) lk_X8_56 (Nat.le_of_ble_eq_true rfl) (preRO hK hS hAb hP) (rcv_8 hK hP (q0 := (0)) (xp_0 cA ax s)) rfl hl rfl (Nat.le_of_ble_eq_true rfl) (dd D_X8_court 2 rfl) ⟨Nat.le_of_ble_eq_true rfl, Nat.le_of_ble_eq_true rfl⟩) rfl ?_
  cases r1 with
  | none =>
    dsimp only [oM] at h
    refine lv_astore_nN (lv' := [(3, .null), (0, .ref (ax 0)), (1, .int p1), (2, .int p2)]) F.1 F.2.1 (dd D_X8_court 3 rfl) rfl hl (Nat.le_of_ble_eq_true rfl) rfl (fun ls hl => ?_)
    refine lv_aload_nN F.1 F.2.1 (dd D_X8_court 4 rfl) rfl (lv_at hl 0 rfl) ?_
    refine lv_ifnullN (tgt := 20) F.1 F.2.1 (dd D_X8_court 5 rfl) rfl ?_
    refine lv_aload_n F.1 F.2.1 (dd D_X8_court 11 rfl) rfl (lv_at hl 1 rfl) ?_
    refine lv_bipush (v := (-2 : Int32)) F.1 F.2.1 (dd D_X8_court 12 rfl) kb_m2 ?_
    obtain ⟨r5, e6, h⟩ := Option.bind_eq_some_iff.mp h
    refine rwe_all (st' := [.int r5.1]) hD hS hA (rV (rest := []) F (c_X8_refuse D cA ax s n (-2 : Int32) r5 e6 l H.size) lk_X8_64 (Nat.le_of_ble_eq_true rfl) (preRW hK hS hAb hP hD) (rcv_8 hK hP (q0 := (0)) (xp_0 cA ax s)) rfl hl rfl (Nat.le_of_ble_eq_true rfl) (dd D_X8_court 13 rfl) ⟨Nat.le_of_ble_eq_true rfl, Nat.le_of_ble_eq_true rfl⟩) rfl (fun H locs hP hD hS => ?_)
    obtain rfl := Option.some.inj h
    exact rw_i (R := rmOf 3 0 0) F hP hD hS hr hlk ⟨Nat.le_of_ble_eq_true rfl, Nat.le_of_ble_eq_true rfl⟩ ⟨rfl, rfl⟩ (dd D_X8_court 14 rfl)
  | some k3 =>
    dsimp only [oM] at h
    obtain ⟨hk4, h⟩ := gd_some (b := decide (k3 < 8)) h
    have hk4 := of_decide_eq_true hk4
    refine lv_astore_n (lv' := [(3, .ref (ax (46+2*k3))), (0, .ref (ax 0)), (1, .int p1), (2, .int p2)]) F.1 F.2.1 (dd D_X8_court 3 rfl) rfl hl (Nat.le_of_ble_eq_true rfl) rfl (fun ls hl => ?_)
    refine lv_aload_n F.1 F.2.1 (dd D_X8_court 4 rfl) rfl (lv_at hl 0 rfl) ?_
    refine lv_ifnull F.1 F.2.1 (dd D_X8_court 5 rfl) ?_
    refine lv_iload_n F.1 F.2.1 (dd D_X8_court 6 rfl) rfl (lv_at hl 3 rfl) ?_
    refine lv_iconst (v := (1 : Int32)) F.1 F.2.1 (dd D_X8_court 7 rfl) ki_1 ?_
    refine lv_bipush (v := (40 : Int32)) F.1 F.2.1 (dd D_X8_court 8 rfl) kb_40 ?_
    refine ro_go (st' := [.int (bI (F_X8_isIn p2 (1 : Int32) (40 : Int32)))]) (rS (rest := []) F (c_X8_isIn D cA p2 (1 : Int32) (40 : Int32) l) lk_X8_60 (Nat.le_of_ble_eq_true rfl) (preRO hK hS hAb (emP)) rfl hl rfl (Nat.le_of_ble_eq_true rfl) (dd D_X8_court 9 rfl) ⟨Nat.le_of_ble_eq_true rfl, Nat.le_of_ble_eq_true rfl⟩) rfl ?_
    refine x_bif_ne (tgt := 27) F.1 F.2.1 (dd D_X8_court 10 rfl) rfl h (fun c14 h => ?_) (fun c14 h => ?_)
    · refine lv_aload_n F.1 F.2.1 (dd D_X8_court 15 rfl) rfl (lv_at hl 0 rfl) ?_
      refine lv_iload_n F.1 F.2.1 (dd D_X8_court 16 rfl) rfl (lv_at hl 3 rfl) ?_
      refine ro_go (st' := [.int (F_X5_refusalAsRow (x_sh s k3) p2)]) (rV (rest := []) F (c_X5_refusalAsRow D cA (fun i => ax (46+2*k3+i)) (x_sh s k3) p2 l) lk_X8_72 (Nat.le_of_ble_eq_true rfl) (preRO hK hS hAb (pg_sh hk4 hP)) (rcv_5 hK hP (q0 := (46+2*k3)) (xp_sh cA ax s k3 hk4)) rfl hl rfl (Nat.le_of_ble_eq_true rfl) (dd D_X8_court 17 rfl) ⟨Nat.le_of_ble_eq_true rfl, Nat.le_of_ble_eq_true rfl⟩) rfl ?_
      refine lv_istore (lv' := [(4, .int (F_X5_refusalAsRow (x_sh s k3) p2)), (3, .ref (ax (46+2*k3))), (0, .ref (ax 0)), (1, .int p1), (2, .int p2)]) F.1 F.2.1 (dd D_X8_court 18 rfl) hl (Nat.le_of_ble_eq_true rfl) rfl (fun ls hl => ?_)
      refine lv_iload F.1 F.2.1 (dd D_X8_court 19 rfl) (lv_at hl 0 rfl) ?_
      refine x_if_eq (tgt := 48) F.1 F.2.1 (dd D_X8_court 20 rfl) rfl h (fun c7 h => ?_) (fun c7 h => ?_)
      · refine lv_aload_n F.1 F.2.1 (dd D_X8_court 25 rfl) rfl (lv_at hl 2 rfl) ?_
        refine lv_aload_n F.1 F.2.1 (dd D_X8_court 26 rfl) rfl (lv_at hl 1 rfl) ?_
        refine lv_iload_n F.1 F.2.1 (dd D_X8_court 27 rfl) rfl (lv_at hl 4 rfl) ?_
        obtain ⟨r8, e9, h⟩ := Option.bind_eq_some_iff.mp h
        refine ro_go (st' := [.int r8]) (rV (rest := []) F (c_X8_toldByMost D cA ax s k3 hk4 n p2 r8 e9 l) lk_X8_299 (Nat.le_of_ble_eq_true rfl) (preRO hK hS hAb hP) (rcv_8 hK hP (q0 := (0)) (xp_0 cA ax s)) rfl hl rfl (Nat.le_of_ble_eq_true rfl) (dd D_X8_court 28 rfl) ⟨Nat.le_of_ble_eq_true rfl, Nat.le_of_ble_eq_true rfl⟩) rfl ?_
        obtain rfl := Option.some.inj h
        exact rw_i (R := rmOf 3 0 0) F hP hD hS hr hlk ⟨Nat.le_of_ble_eq_true rfl, Nat.le_of_ble_eq_true rfl⟩ ⟨rfl, rfl⟩ (dd D_X8_court 29 rfl)
      · refine lv_aload_n F.1 F.2.1 (dd D_X8_court 21 rfl) rfl (lv_at hl 2 rfl) ?_
        refine lv_iload F.1 F.2.1 (dd D_X8_court 22 rfl) (lv_at hl 0 rfl) ?_
        obtain ⟨r10, e11, h⟩ := Option.bind_eq_some_iff.mp h
        refine rwe_all (st' := [.int r10.1]) hD hS hA (rV (rest := []) F (c_X8_refuse D cA ax s n (F_X5_refusalAsRow (x_sh s k3) p2) r10 e11 l H.size) lk_X8_64 (Nat.le_of_ble_eq_true rfl) (preRW hK hS hAb hP hD) (rcv_8 hK hP (q0 := (0)) (xp_0 cA ax s)) rfl hl rfl (Nat.le_of_ble_eq_true rfl) (dd D_X8_court 23 rfl) ⟨Nat.le_of_ble_eq_true rfl, Nat.le_of_ble_eq_true rfl⟩) rfl (fun H locs hP hD hS => ?_)
        refine lv_goto (tgt := 54) F.1 F.2.1 (dd D_X8_court 24 rfl) rfl ?_
        obtain rfl := Option.some.inj h
        exact rw_i (R := rmOf 3 0 0) F hP hD hS hr hlk ⟨Nat.le_of_ble_eq_true rfl, Nat.le_of_ble_eq_true rfl⟩ ⟨rfl, rfl⟩ (dd D_X8_court 29 rfl)
    · refine lv_aload_n F.1 F.2.1 (dd D_X8_court 11 rfl) rfl (lv_at hl 1 rfl) ?_
      refine lv_bipush (v := (-2 : Int32)) F.1 F.2.1 (dd D_X8_court 12 rfl) kb_m2 ?_
      obtain ⟨r12, e13, h⟩ := Option.bind_eq_some_iff.mp h
      refine rwe_all (st' := [.int r12.1]) hD hS hA (rV (rest := []) F (c_X8_refuse D cA ax s n (-2 : Int32) r12 e13 l H.size) lk_X8_64 (Nat.le_of_ble_eq_true rfl) (preRW hK hS hAb hP hD) (rcv_8 hK hP (q0 := (0)) (xp_0 cA ax s)) rfl hl rfl (Nat.le_of_ble_eq_true rfl) (dd D_X8_court 13 rfl) ⟨Nat.le_of_ble_eq_true rfl, Nat.le_of_ble_eq_true rfl⟩) rfl (fun H locs hP hD hS => ?_)
      obtain rfl := Option.some.inj h
      exact rw_i (R := rmOf 3 0 0) F hP hD hS hr hlk ⟨Nat.le_of_ble_eq_true rfl, Nat.le_of_ble_eq_true rfl⟩ ⟨rfl, rfl⟩ (dd D_X8_court 14 rfl)
def F_X8_eager_L52 (n : Nat) (u0 : XS) (ky0 : Nat) (v1 : Int32) (v2 : Int32) (v4 : Int32) : Nat → Int32 → Int32 → Option (Int32 × XS)
  | 0, _, _ => none
  | kf + 1, w5, w6 => (if v2 ≤ w6 then some (w5, u0) else (((F_X5_at n (x_sh u0 ky0) w6)).bind fun r9 => bf (F_X2_couldBegin u0 r9) (F_X8_eager_L52 n u0 ky0 v1 v2 v4 kf w5 (w6 + (1 : Int32))) (F_X8_eager_L52 n u0 ky0 v1 v2 v4 kf (w5 + (1 : Int32)) (w6 + (1 : Int32)))))
def F_X8_eager (n : Nat) (s : XS) (p1 : Int32) (p2 : Int32) : Option (Int32 × XS) := (((F_X8_shelfAt n s p1)).bind fun r1 => oM r1 ((((F_X8_refuse n s (-2 : Int32))).bind fun r5 => some (r5.1, r5.2))) (fun k3 => gd (decide (k3 < 8)) (bf (F_X8_isIn p2 (1 : Int32) (40 : Int32)) ((if (F_X5_refusalAsRow (x_sh s k3) p2) = 0 then F_X8_eager_L52 n s k3 p1 p2 (F_X5_refusalAsRow (x_sh s k3) p2) n (0 : Int32) (0 : Int32) else (((F_X8_refuse n s (F_X5_refusalAsRow (x_sh s k3) p2))).bind fun r17 => some (r17.1, r17.2)))) ((((F_X8_refuse n s (-2 : Int32))).bind fun r19 => some (r19.1, r19.2))))))
set_option maxHeartbeats 4000000 in
set_option maxRecDepth 100000 in
theorem c_X8_eager (D : va_G) (cA : Nat → ClassId) (ax : Nat → Nat) (s : XS) (n : Nat) (p1 : Int32) (p2 : Int32) (r : (Int32 × XS)) (h : F_X8_eager n s p1 p2 = some r) : RW m_X8_eager 2 0 0 D cA [.ref (ax 0), .int p1, .int p2] (xW cA ax s) (exq (some (.int r.1)) (xW cA ax r.2)) := by
  refine RW.ofW gy_X8_eager.2.2 (Nat.le_of_ble_eq_true rfl) ?_
  intro l p e sM m below meth c A H locs F hr hlk hnm hK hP hD hS hA hAb ls hl
  have hl : lv_has ls 7 [(0, .ref (ax 0)), (1, .int p1), (2, .int p2)] := hl
  unfold F_X8_eager at h
  refine lv_aload_n F.1 F.2.1 (dd D_X8_eager 0 rfl) rfl (lv_at hl 0 rfl) ?_
  refine lv_iload_n F.1 F.2.1 (dd D_X8_eager 1 rfl) rfl (lv_at hl 1 rfl) ?_
  obtain ⟨r1, e2, h⟩ := Option.bind_eq_some_iff.mp h
  refine ro_go (st' := [va_rf (Option.map (fun j => ax (46+2*j)) r1)]) (rV (rest := []) F (c_X8_shelfAt D cA ax s n p1 r1 e2 l) lk_X8_56 (Nat.le_of_ble_eq_true rfl) (preRO hK hS hAb hP) (rcv_8 hK hP (q0 := (0)) (xp_0 cA ax s)) rfl hl rfl (Nat.le_of_ble_eq_true rfl) (dd D_X8_eager 2 rfl) ⟨Nat.le_of_ble_eq_true rfl, Nat.le_of_ble_eq_true rfl⟩) rfl ?_
  cases r1 with
  | none =>
    dsimp only [oM] at h
    refine lv_astore_nN (lv' := [(3, .null), (0, .ref (ax 0)), (1, .int p1), (2, .int p2)]) F.1 F.2.1 (dd D_X8_eager 3 rfl) rfl hl (Nat.le_of_ble_eq_true rfl) rfl (fun ls hl => ?_)
    refine lv_aload_nN F.1 F.2.1 (dd D_X8_eager 4 rfl) rfl (lv_at hl 0 rfl) ?_
    refine lv_ifnullN (tgt := 20) F.1 F.2.1 (dd D_X8_eager 5 rfl) rfl ?_
    refine lv_aload_n F.1 F.2.1 (dd D_X8_eager 11 rfl) rfl (lv_at hl 1 rfl) ?_
    refine lv_bipush (v := (-2 : Int32)) F.1 F.2.1 (dd D_X8_eager 12 rfl) kb_m2 ?_
    obtain ⟨r5, e6, h⟩ := Option.bind_eq_some_iff.mp h
    refine rwe_all (st' := [.int r5.1]) hD hS hA (rV (rest := []) F (c_X8_refuse D cA ax s n (-2 : Int32) r5 e6 l H.size) lk_X8_64 (Nat.le_of_ble_eq_true rfl) (preRW hK hS hAb hP hD) (rcv_8 hK hP (q0 := (0)) (xp_0 cA ax s)) rfl hl rfl (Nat.le_of_ble_eq_true rfl) (dd D_X8_eager 13 rfl) ⟨Nat.le_of_ble_eq_true rfl, Nat.le_of_ble_eq_true rfl⟩) rfl (fun H locs hP hD hS => ?_)
    obtain rfl := Option.some.inj h
    exact rw_i (R := rmOf 2 0 0) F hP hD hS hr hlk ⟨Nat.le_of_ble_eq_true rfl, Nat.le_of_ble_eq_true rfl⟩ ⟨rfl, rfl⟩ (dd D_X8_eager 14 rfl)
  | some k3 =>
    dsimp only [oM] at h
    obtain ⟨hk4, h⟩ := gd_some (b := decide (k3 < 8)) h
    have hk4 := of_decide_eq_true hk4
    refine lv_astore_n (lv' := [(3, .ref (ax (46+2*k3))), (0, .ref (ax 0)), (1, .int p1), (2, .int p2)]) F.1 F.2.1 (dd D_X8_eager 3 rfl) rfl hl (Nat.le_of_ble_eq_true rfl) rfl (fun ls hl => ?_)
    refine lv_aload_n F.1 F.2.1 (dd D_X8_eager 4 rfl) rfl (lv_at hl 0 rfl) ?_
    refine lv_ifnull F.1 F.2.1 (dd D_X8_eager 5 rfl) ?_
    refine lv_iload_n F.1 F.2.1 (dd D_X8_eager 6 rfl) rfl (lv_at hl 3 rfl) ?_
    refine lv_iconst (v := (1 : Int32)) F.1 F.2.1 (dd D_X8_eager 7 rfl) ki_1 ?_
    refine lv_bipush (v := (40 : Int32)) F.1 F.2.1 (dd D_X8_eager 8 rfl) kb_40 ?_
    refine ro_go (st' := [.int (bI (F_X8_isIn p2 (1 : Int32) (40 : Int32)))]) (rS (rest := []) F (c_X8_isIn D cA p2 (1 : Int32) (40 : Int32) l) lk_X8_60 (Nat.le_of_ble_eq_true rfl) (preRO hK hS hAb (emP)) rfl hl rfl (Nat.le_of_ble_eq_true rfl) (dd D_X8_eager 9 rfl) ⟨Nat.le_of_ble_eq_true rfl, Nat.le_of_ble_eq_true rfl⟩) rfl ?_
    refine x_bif_ne (tgt := 27) F.1 F.2.1 (dd D_X8_eager 10 rfl) rfl h (fun c21 h => ?_) (fun c21 h => ?_)
    · refine lv_aload_n F.1 F.2.1 (dd D_X8_eager 15 rfl) rfl (lv_at hl 0 rfl) ?_
      refine lv_iload_n F.1 F.2.1 (dd D_X8_eager 16 rfl) rfl (lv_at hl 3 rfl) ?_
      refine ro_go (st' := [.int (F_X5_refusalAsRow (x_sh s k3) p2)]) (rV (rest := []) F (c_X5_refusalAsRow D cA (fun i => ax (46+2*k3+i)) (x_sh s k3) p2 l) lk_X8_72 (Nat.le_of_ble_eq_true rfl) (preRO hK hS hAb (pg_sh hk4 hP)) (rcv_5 hK hP (q0 := (46+2*k3)) (xp_sh cA ax s k3 hk4)) rfl hl rfl (Nat.le_of_ble_eq_true rfl) (dd D_X8_eager 17 rfl) ⟨Nat.le_of_ble_eq_true rfl, Nat.le_of_ble_eq_true rfl⟩) rfl ?_
      refine lv_istore (lv' := [(4, .int (F_X5_refusalAsRow (x_sh s k3) p2)), (3, .ref (ax (46+2*k3))), (0, .ref (ax 0)), (1, .int p1), (2, .int p2)]) F.1 F.2.1 (dd D_X8_eager 18 rfl) hl (Nat.le_of_ble_eq_true rfl) rfl (fun ls hl => ?_)
      refine lv_iload F.1 F.2.1 (dd D_X8_eager 19 rfl) (lv_at hl 0 rfl) ?_
      refine x_if_eq (tgt := 46) F.1 F.2.1 (dd D_X8_eager 20 rfl) rfl h (fun c7 h => ?_) (fun c7 h => ?_)
      · refine lv_iconst (v := (0 : Int32)) F.1 F.2.1 (dd D_X8_eager 25 rfl) ki_0 ?_
        refine lv_istore (lv' := [(5, .int (0 : Int32)), (4, .int (F_X5_refusalAsRow (x_sh s k3) p2)), (3, .ref (ax (46+2*k3))), (0, .ref (ax 0)), (1, .int p1), (2, .int p2)]) F.1 F.2.1 (dd D_X8_eager 26 rfl) hl (Nat.le_of_ble_eq_true rfl) rfl (fun ls hl => ?_)
        refine lv_iconst (v := (0 : Int32)) F.1 F.2.1 (dd D_X8_eager 27 rfl) ki_0 ?_
        refine lv_istore (lv' := [(6, .int (0 : Int32)), (5, .int (0 : Int32)), (4, .int (F_X5_refusalAsRow (x_sh s k3) p2)), (3, .ref (ax (46+2*k3))), (0, .ref (ax 0)), (1, .int p1), (2, .int p2)]) F.1 F.2.1 (dd D_X8_eager 28 rfl) hl (Nat.le_of_ble_eq_true rfl) rfl (fun ls hl => ?_)
        have L12 : ∀ (kf : Nat) (w5_L12 : Int32) (w6_L12 : Int32) (H : Heap) (locs : List Loc) (ls : Array Slot), va_P D vwCl (xW cA ax s) H → va_D A (xW cA ax s) → va_S A sM.heap H locs → lv_has ls 7 [(0, .ref (ax 0)), (1, .int p1), (2, .int p2), (3, .ref (ax (46+2*k3))), (4, .int (F_X5_refusalAsRow (x_sh s k3) p2)), (5, .int w5_L12), (6, .int w6_L12)] → F_X8_eager_L52 n s k3 p1 p2 (F_X5_refusalAsRow (x_sh s k3) p2) kf w5_L12 w6_L12 = some r → Wrw 2 0 0 D A (exq (some (.int r.1)) (xW cA ax r.2)) p l e sM m ([.ref (ax 0), .int p1, .int p2] : List Value).toArray below meth c H locs 0 0 52 ls [] := by
          intro kf
          induction kf with
          | zero =>
            intro w5_L12 w6_L12 H locs ls hP hD hS hl h
            cases (show none = some r from h)
          | succ k_L12 ih_L12 =>
            intro w5_L12 w6_L12 H locs ls hP hD hS hl h
            unfold F_X8_eager_L52 at h
            refine lv_iload F.1 F.2.1 (dd D_X8_eager 29 rfl) (lv_at hl 6 rfl) ?_
            refine lv_iload_n F.1 F.2.1 (dd D_X8_eager 30 rfl) rfl (lv_at hl 2 rfl) ?_
            refine x_icmp_ge (tgt := 83) F.1 F.2.1 (dd D_X8_eager 31 rfl) rfl h (fun c13 h => ?_) (fun c13 h => ?_)
            · refine lv_iload F.1 F.2.1 (dd D_X8_eager 42 rfl) (lv_at hl 5 rfl) ?_
              obtain rfl := Option.some.inj h
              exact rw_i (R := rmOf 2 0 0) F hP hD hS hr hlk ⟨Nat.le_of_ble_eq_true rfl, Nat.le_of_ble_eq_true rfl⟩ ⟨rfl, rfl⟩ (dd D_X8_eager 43 rfl)
            · refine lv_aload_n F.1 F.2.1 (dd D_X8_eager 32 rfl) rfl (lv_at hl 0 rfl) ?_
              refine getF F hK hP lf_X8_27 (0) (xp_0 cA ax s) rfl (dd D_X8_eager 33 rfl) ?_
              refine lv_aload_n F.1 F.2.1 (dd D_X8_eager 34 rfl) rfl (lv_at hl 3 rfl) ?_
              refine lv_iload F.1 F.2.1 (dd D_X8_eager 35 rfl) (lv_at hl 6 rfl) ?_
              obtain ⟨r14, e15, h⟩ := Option.bind_eq_some_iff.mp h
              refine ro_go (st' := [.long r14, .ref (ax 40)]) (rV (rest := [.ref (ax 40)]) F (c_X5_at D cA (fun i => ax (46+2*k3+i)) (x_sh s k3) n w6_L12 r14 e15 l) lk_X8_101 (Nat.le_of_ble_eq_true rfl) (preRO hK hS hAb (pg_sh hk4 hP)) (rcv_5 hK hP (q0 := (46+2*k3)) (xp_sh cA ax s k3 hk4)) rfl hl rfl (Nat.le_of_ble_eq_true rfl) (dd D_X8_eager 36 rfl) ⟨Nat.le_of_ble_eq_true rfl, Nat.le_of_ble_eq_true rfl⟩) rfl ?_
              refine ro_go (st' := [.int (bI (F_X2_couldBegin s r14))]) (rV (rest := []) F (c_X2_couldBegin D cA ax s r14 l) lk_X8_303 (Nat.le_of_ble_eq_true rfl) (preRO hK hS hAb hP) (rcv_2 hK hP (q0 := (40)) (xp_40 cA ax s)) rfl hl rfl (Nat.le_of_ble_eq_true rfl) (dd D_X8_eager 37 rfl) ⟨Nat.le_of_ble_eq_true rfl, Nat.le_of_ble_eq_true rfl⟩) rfl ?_
              refine x_bif_ne (tgt := 77) F.1 F.2.1 (dd D_X8_eager 38 rfl) rfl h (fun c16 h => ?_) (fun c16 h => ?_)
              · refine lv_iinc (v := (w6_L12 + (1 : Int32))) (lv' := [(6, .int (w6_L12 + (1 : Int32))), (0, .ref (ax 0)), (1, .int p1), (2, .int p2), (3, .ref (ax (46+2*k3))), (4, .int (F_X5_refusalAsRow (x_sh s k3) p2)), (5, .int w5_L12)]) F.1 F.2.1 (dd D_X8_eager 40 rfl) hl (k := 6) rfl (congrArg (fun z => w6_L12 + z) ki_1) (Nat.le_of_ble_eq_true rfl) rfl (fun ls hl => ?_)
                refine lv_goto (tgt := 52) F.1 F.2.1 (dd D_X8_eager 41 rfl) rfl ?_
                exact ih_L12 w5_L12 (w6_L12 + (1 : Int32)) _ _ ls hP hD hS (lv_sub hl [1, 2, 3, 4, 5, 6, 0] rfl) h
              · refine lv_iinc (v := (w5_L12 + (1 : Int32))) (lv' := [(5, .int (w5_L12 + (1 : Int32))), (0, .ref (ax 0)), (1, .int p1), (2, .int p2), (3, .ref (ax (46+2*k3))), (4, .int (F_X5_refusalAsRow (x_sh s k3) p2)), (6, .int w6_L12)]) F.1 F.2.1 (dd D_X8_eager 39 rfl) hl (k := 5) rfl (congrArg (fun z => w5_L12 + z) ki_1) (Nat.le_of_ble_eq_true rfl) rfl (fun ls hl => ?_)
                refine lv_iinc (v := (w6_L12 + (1 : Int32))) (lv' := [(6, .int (w6_L12 + (1 : Int32))), (5, .int (w5_L12 + (1 : Int32))), (0, .ref (ax 0)), (1, .int p1), (2, .int p2), (3, .ref (ax (46+2*k3))), (4, .int (F_X5_refusalAsRow (x_sh s k3) p2))]) F.1 F.2.1 (dd D_X8_eager 40 rfl) hl (k := 6) rfl (congrArg (fun z => w6_L12 + z) ki_1) (Nat.le_of_ble_eq_true rfl) rfl (fun ls hl => ?_)
                refine lv_goto (tgt := 52) F.1 F.2.1 (dd D_X8_eager 41 rfl) rfl ?_
                exact ih_L12 (w5_L12 + (1 : Int32)) (w6_L12 + (1 : Int32)) _ _ ls hP hD hS (lv_sub hl [2, 3, 4, 5, 6, 1, 0] rfl) h
        exact L12 n (0 : Int32) (0 : Int32) _ _ ls hP hD hS (lv_sub hl [4, 5, 6, 3, 2, 1, 0] rfl) h
      · refine lv_aload_n F.1 F.2.1 (dd D_X8_eager 21 rfl) rfl (lv_at hl 2 rfl) ?_
        refine lv_iload F.1 F.2.1 (dd D_X8_eager 22 rfl) (lv_at hl 0 rfl) ?_
        obtain ⟨r17, e18, h⟩ := Option.bind_eq_some_iff.mp h
        refine rwe_all (st' := [.int r17.1]) hD hS hA (rV (rest := []) F (c_X8_refuse D cA ax s n (F_X5_refusalAsRow (x_sh s k3) p2) r17 e18 l H.size) lk_X8_64 (Nat.le_of_ble_eq_true rfl) (preRW hK hS hAb hP hD) (rcv_8 hK hP (q0 := (0)) (xp_0 cA ax s)) rfl hl rfl (Nat.le_of_ble_eq_true rfl) (dd D_X8_eager 23 rfl) ⟨Nat.le_of_ble_eq_true rfl, Nat.le_of_ble_eq_true rfl⟩) rfl (fun H locs hP hD hS => ?_)
        obtain rfl := Option.some.inj h
        exact rw_i (R := rmOf 2 0 0) F hP hD hS hr hlk ⟨Nat.le_of_ble_eq_true rfl, Nat.le_of_ble_eq_true rfl⟩ ⟨rfl, rfl⟩ (dd D_X8_eager 24 rfl)
    · refine lv_aload_n F.1 F.2.1 (dd D_X8_eager 11 rfl) rfl (lv_at hl 1 rfl) ?_
      refine lv_bipush (v := (-2 : Int32)) F.1 F.2.1 (dd D_X8_eager 12 rfl) kb_m2 ?_
      obtain ⟨r19, e20, h⟩ := Option.bind_eq_some_iff.mp h
      refine rwe_all (st' := [.int r19.1]) hD hS hA (rV (rest := []) F (c_X8_refuse D cA ax s n (-2 : Int32) r19 e20 l H.size) lk_X8_64 (Nat.le_of_ble_eq_true rfl) (preRW hK hS hAb hP hD) (rcv_8 hK hP (q0 := (0)) (xp_0 cA ax s)) rfl hl rfl (Nat.le_of_ble_eq_true rfl) (dd D_X8_eager 13 rfl) ⟨Nat.le_of_ble_eq_true rfl, Nat.le_of_ble_eq_true rfl⟩) rfl (fun H locs hP hD hS => ?_)
      obtain rfl := Option.some.inj h
      exact rw_i (R := rmOf 2 0 0) F hP hD hS hr hlk ⟨Nat.le_of_ble_eq_true rfl, Nat.le_of_ble_eq_true rfl⟩ ⟨rfl, rfl⟩ (dd D_X8_eager 14 rfl)
def F_X8_tide (n : Nat) (s : XS) (p1 : Int32) (p2 : Int32) : Option (Int32 × XS) := bf (F_X8_isDay p1) (bf (F_X8_isIn p2 (0 : Int32) (1439 : Int32)) (some ((F_X2_tideAt s p1 p2), s)) ((((F_X8_refuse n s (-2 : Int32))).bind fun r3 => some (r3.1, r3.2)))) ((((F_X8_refuse n s (-2 : Int32))).bind fun r1 => some (r1.1, r1.2)))
set_option maxHeartbeats 4000000 in
set_option maxRecDepth 100000 in
theorem c_X8_tide (D : va_G) (cA : Nat → ClassId) (ax : Nat → Nat) (s : XS) (n : Nat) (p1 : Int32) (p2 : Int32) (r : (Int32 × XS)) (h : F_X8_tide n s p1 p2 = some r) : RW m_X8_tide 5 0 0 D cA [.ref (ax 0), .int p1, .int p2] (xW cA ax s) (exq (some (.int r.1)) (xW cA ax r.2)) := by
  refine RW.ofW gy_X8_tide.2.2 (Nat.le_of_ble_eq_true rfl) ?_
  intro l p e sM m below meth c A H locs F hr hlk hnm hK hP hD hS hA hAb ls hl
  have hl : lv_has ls 3 [(0, .ref (ax 0)), (1, .int p1), (2, .int p2)] := hl
  unfold F_X8_tide at h
  refine lv_iload_n F.1 F.2.1 (dd D_X8_tide 0 rfl) rfl (lv_at hl 1 rfl) ?_
  refine ro_go (st' := [.int (bI (F_X8_isDay p1))]) (rS (rest := []) F (c_X8_isDay D cA p1 l) lk_X8_113 (Nat.le_of_ble_eq_true rfl) (preRO hK hS hAb (emP)) rfl hl rfl (Nat.le_of_ble_eq_true rfl) (dd D_X8_tide 1 rfl) ⟨Nat.le_of_ble_eq_true rfl, Nat.le_of_ble_eq_true rfl⟩) rfl ?_
  refine x_bif_eq (tgt := 18) F.1 F.2.1 (dd D_X8_tide 2 rfl) rfl h (fun c6 h => ?_) (fun c6 h => ?_)
  · refine lv_aload_n F.1 F.2.1 (dd D_X8_tide 8 rfl) rfl (lv_at hl 0 rfl) ?_
    refine lv_bipush (v := (-2 : Int32)) F.1 F.2.1 (dd D_X8_tide 9 rfl) kb_m2 ?_
    obtain ⟨r1, e2, h⟩ := Option.bind_eq_some_iff.mp h
    refine rwe_all (st' := [.int r1.1]) hD hS hA (rV (rest := []) F (c_X8_refuse D cA ax s n (-2 : Int32) r1 e2 l H.size) lk_X8_64 (Nat.le_of_ble_eq_true rfl) (preRW hK hS hAb hP hD) (rcv_8 hK hP (q0 := (0)) (xp_0 cA ax s)) rfl hl rfl (Nat.le_of_ble_eq_true rfl) (dd D_X8_tide 10 rfl) ⟨Nat.le_of_ble_eq_true rfl, Nat.le_of_ble_eq_true rfl⟩) rfl (fun H locs hP hD hS => ?_)
    obtain rfl := Option.some.inj h
    exact rw_i (R := rmOf 5 0 0) F hP hD hS hr hlk ⟨Nat.le_of_ble_eq_true rfl, Nat.le_of_ble_eq_true rfl⟩ ⟨rfl, rfl⟩ (dd D_X8_tide 11 rfl)
  · refine lv_iload_n F.1 F.2.1 (dd D_X8_tide 3 rfl) rfl (lv_at hl 2 rfl) ?_
    refine lv_iconst (v := (0 : Int32)) F.1 F.2.1 (dd D_X8_tide 4 rfl) ki_0 ?_
    refine lv_sipush (v := (1439 : Int32)) F.1 F.2.1 (dd D_X8_tide 5 rfl) ks_1439 ?_
    refine ro_go (st' := [.int (bI (F_X8_isIn p2 (0 : Int32) (1439 : Int32)))]) (rS (rest := []) F (c_X8_isIn D cA p2 (0 : Int32) (1439 : Int32) l) lk_X8_60 (Nat.le_of_ble_eq_true rfl) (preRO hK hS hAb (emP)) rfl hl rfl (Nat.le_of_ble_eq_true rfl) (dd D_X8_tide 6 rfl) ⟨Nat.le_of_ble_eq_true rfl, Nat.le_of_ble_eq_true rfl⟩) rfl ?_
    refine x_bif_ne (tgt := 25) F.1 F.2.1 (dd D_X8_tide 7 rfl) rfl h (fun c5 h => ?_) (fun c5 h => ?_)
    · refine lv_aload_n F.1 F.2.1 (dd D_X8_tide 12 rfl) rfl (lv_at hl 0 rfl) ?_
      refine getF F hK hP lf_X8_27 (0) (xp_0 cA ax s) rfl (dd D_X8_tide 13 rfl) ?_
      refine lv_iload_n F.1 F.2.1 (dd D_X8_tide 14 rfl) rfl (lv_at hl 1 rfl) ?_
      refine lv_iload_n F.1 F.2.1 (dd D_X8_tide 15 rfl) rfl (lv_at hl 2 rfl) ?_
      refine ro_go (st' := [.int (F_X2_tideAt s p1 p2)]) (rV (rest := []) F (c_X2_tideAt D cA ax s p1 p2 l) lk_X8_307 (Nat.le_of_ble_eq_true rfl) (preRO hK hS hAb hP) (rcv_2 hK hP (q0 := (40)) (xp_40 cA ax s)) rfl hl rfl (Nat.le_of_ble_eq_true rfl) (dd D_X8_tide 16 rfl) ⟨Nat.le_of_ble_eq_true rfl, Nat.le_of_ble_eq_true rfl⟩) rfl ?_
      obtain rfl := Option.some.inj h
      exact rw_i (R := rmOf 5 0 0) F hP hD hS hr hlk ⟨Nat.le_of_ble_eq_true rfl, Nat.le_of_ble_eq_true rfl⟩ ⟨rfl, rfl⟩ (dd D_X8_tide 17 rfl)
    · refine lv_aload_n F.1 F.2.1 (dd D_X8_tide 8 rfl) rfl (lv_at hl 0 rfl) ?_
      refine lv_bipush (v := (-2 : Int32)) F.1 F.2.1 (dd D_X8_tide 9 rfl) kb_m2 ?_
      obtain ⟨r3, e4, h⟩ := Option.bind_eq_some_iff.mp h
      refine rwe_all (st' := [.int r3.1]) hD hS hA (rV (rest := []) F (c_X8_refuse D cA ax s n (-2 : Int32) r3 e4 l H.size) lk_X8_64 (Nat.le_of_ble_eq_true rfl) (preRW hK hS hAb hP hD) (rcv_8 hK hP (q0 := (0)) (xp_0 cA ax s)) rfl hl rfl (Nat.le_of_ble_eq_true rfl) (dd D_X8_tide 10 rfl) ⟨Nat.le_of_ble_eq_true rfl, Nat.le_of_ble_eq_true rfl⟩) rfl (fun H locs hP hD hS => ?_)
      obtain rfl := Option.some.inj h
      exact rw_i (R := rmOf 5 0 0) F hP hD hS hr hlk ⟨Nat.le_of_ble_eq_true rfl, Nat.le_of_ble_eq_true rfl⟩ ⟨rfl, rfl⟩ (dd D_X8_tide 11 rfl)
def F_X8_high (n : Nat) (s : XS) (p1 : Int32) : Option (Int32 × XS) := bf (F_X8_isDay p1) (some ((F_X2_highWaterOf s p1), s)) ((((F_X8_refuse n s (-2 : Int32))).bind fun r1 => some (r1.1, r1.2)))
set_option maxHeartbeats 4000000 in
set_option maxRecDepth 100000 in
theorem c_X8_high (D : va_G) (cA : Nat → ClassId) (ax : Nat → Nat) (s : XS) (n : Nat) (p1 : Int32) (r : (Int32 × XS)) (h : F_X8_high n s p1 = some r) : RW m_X8_high 4 0 0 D cA [.ref (ax 0), .int p1] (xW cA ax s) (exq (some (.int r.1)) (xW cA ax r.2)) := by
  refine RW.ofW gy_X8_high.2.2 (Nat.le_of_ble_eq_true rfl) ?_
  intro l p e sM m below meth c A H locs F hr hlk hnm hK hP hD hS hA hAb ls hl
  have hl : lv_has ls 2 [(0, .ref (ax 0)), (1, .int p1)] := hl
  unfold F_X8_high at h
  refine lv_iload_n F.1 F.2.1 (dd D_X8_high 0 rfl) rfl (lv_at hl 1 rfl) ?_
  refine ro_go (st' := [.int (bI (F_X8_isDay p1))]) (rS (rest := []) F (c_X8_isDay D cA p1 l) lk_X8_113 (Nat.le_of_ble_eq_true rfl) (preRO hK hS hAb (emP)) rfl hl rfl (Nat.le_of_ble_eq_true rfl) (dd D_X8_high 1 rfl) ⟨Nat.le_of_ble_eq_true rfl, Nat.le_of_ble_eq_true rfl⟩) rfl ?_
  refine x_bif_eq (tgt := 18) F.1 F.2.1 (dd D_X8_high 2 rfl) rfl h (fun c3 h => ?_) (fun c3 h => ?_)
  · refine lv_aload_n F.1 F.2.1 (dd D_X8_high 8 rfl) rfl (lv_at hl 0 rfl) ?_
    refine lv_bipush (v := (-2 : Int32)) F.1 F.2.1 (dd D_X8_high 9 rfl) kb_m2 ?_
    obtain ⟨r1, e2, h⟩ := Option.bind_eq_some_iff.mp h
    refine rwe_all (st' := [.int r1.1]) hD hS hA (rV (rest := []) F (c_X8_refuse D cA ax s n (-2 : Int32) r1 e2 l H.size) lk_X8_64 (Nat.le_of_ble_eq_true rfl) (preRW hK hS hAb hP hD) (rcv_8 hK hP (q0 := (0)) (xp_0 cA ax s)) rfl hl rfl (Nat.le_of_ble_eq_true rfl) (dd D_X8_high 10 rfl) ⟨Nat.le_of_ble_eq_true rfl, Nat.le_of_ble_eq_true rfl⟩) rfl (fun H locs hP hD hS => ?_)
    obtain rfl := Option.some.inj h
    exact rw_i (R := rmOf 4 0 0) F hP hD hS hr hlk ⟨Nat.le_of_ble_eq_true rfl, Nat.le_of_ble_eq_true rfl⟩ ⟨rfl, rfl⟩ (dd D_X8_high 11 rfl)
  · refine lv_aload_n F.1 F.2.1 (dd D_X8_high 3 rfl) rfl (lv_at hl 0 rfl) ?_
    refine getF F hK hP lf_X8_27 (0) (xp_0 cA ax s) rfl (dd D_X8_high 4 rfl) ?_
    refine lv_iload_n F.1 F.2.1 (dd D_X8_high 5 rfl) rfl (lv_at hl 1 rfl) ?_
    refine ro_go (st' := [.int (F_X2_highWaterOf s p1)]) (rV (rest := []) F (c_X2_highWaterOf D cA ax s p1 l) lk_X8_310 (Nat.le_of_ble_eq_true rfl) (preRO hK hS hAb hP) (rcv_2 hK hP (q0 := (40)) (xp_40 cA ax s)) rfl hl rfl (Nat.le_of_ble_eq_true rfl) (dd D_X8_high 6 rfl) ⟨Nat.le_of_ble_eq_true rfl, Nat.le_of_ble_eq_true rfl⟩) rfl ?_
    refine lv_goto (tgt := 24) F.1 F.2.1 (dd D_X8_high 7 rfl) rfl ?_
    obtain rfl := Option.some.inj h
    exact rw_i (R := rmOf 4 0 0) F hP hD hS hr hlk ⟨Nat.le_of_ble_eq_true rfl, Nat.le_of_ble_eq_true rfl⟩ ⟨rfl, rfl⟩ (dd D_X8_high 11 rfl)
def F_X8_bone (n : Nat) (s : XS) (p1 : Int32) (p2 : Int32) (p3 : Int32) : Option (Int32 × XS) := (((F_X8_shelfAt n s p1)).bind fun r1 => oM r1 ((((F_X8_refuse n s (-2 : Int32))).bind fun r5 => some (r5.1, r5.2))) (fun k3 => gd (decide (k3 < 8)) (bf (F_X8_isIn p2 (1 : Int32) (40 : Int32)) (bf (F_X8_isIn p3 (0 : Int32) (2 : Int32)) ((if (F_X5_refusalAsRow (x_sh s k3) p2) = 0 then (if p3 = 0 then (((F_X5_monthCounts n (x_sh s k3) p2)).bind fun r16 => some (r16, s)) else (if p3 = (1 : Int32) then (((F_X5_longestRun n (x_sh s k3) p2)).bind fun r14 => some (r14, s)) else (((F_X5_threesOfMonths n (x_sh s k3) p2)).bind fun r12 => some (r12, s)))) else (((F_X8_refuse n s (F_X5_refusalAsRow (x_sh s k3) p2))).bind fun r18 => some (r18.1, r18.2)))) ((((F_X8_refuse n s (-2 : Int32))).bind fun r20 => some (r20.1, r20.2)))) ((((F_X8_refuse n s (-2 : Int32))).bind fun r7 => some (r7.1, r7.2))))))
set_option maxHeartbeats 4000000 in
set_option maxRecDepth 100000 in
theorem c_X8_bone (D : va_G) (cA : Nat → ClassId) (ax : Nat → Nat) (s : XS) (n : Nat) (p1 : Int32) (p2 : Int32) (p3 : Int32) (r : (Int32 × XS)) (h : F_X8_bone n s p1 p2 p3 = some r) : RW m_X8_bone 3 0 0 D cA [.ref (ax 0), .int p1, .int p2, .int p3] (xW cA ax s) (exq (some (.int r.1)) (xW cA ax r.2)) := by
  refine RW.ofW gy_X8_bone.2.2 (Nat.le_of_ble_eq_true rfl) ?_
  intro l p e sM m below meth c A H locs F hr hlk hnm hK hP hD hS hA hAb ls hl
  have hl : lv_has ls 6 [(0, .ref (ax 0)), (1, .int p1), (2, .int p2), (3, .int p3)] := hl
  unfold F_X8_bone at h
  refine lv_aload_n F.1 F.2.1 (dd D_X8_bone 0 rfl) rfl (lv_at hl 0 rfl) ?_
  refine lv_iload_n F.1 F.2.1 (dd D_X8_bone 1 rfl) rfl (lv_at hl 1 rfl) ?_
  obtain ⟨r1, e2, h⟩ := Option.bind_eq_some_iff.mp h
  refine ro_go (st' := [va_rf (Option.map (fun j => ax (46+2*j)) r1)]) (rV (rest := []) F (c_X8_shelfAt D cA ax s n p1 r1 e2 l) lk_X8_56 (Nat.le_of_ble_eq_true rfl) (preRO hK hS hAb hP) (rcv_8 hK hP (q0 := (0)) (xp_0 cA ax s)) rfl hl rfl (Nat.le_of_ble_eq_true rfl) (dd D_X8_bone 2 rfl) ⟨Nat.le_of_ble_eq_true rfl, Nat.le_of_ble_eq_true rfl⟩) rfl ?_
  cases r1 with
  | none =>
    dsimp only [oM] at h
    refine lv_astoreN (lv' := [(4, .null), (0, .ref (ax 0)), (1, .int p1), (2, .int p2), (3, .int p3)]) F.1 F.2.1 (dd D_X8_bone 3 rfl) hl (Nat.le_of_ble_eq_true rfl) rfl (fun ls hl => ?_)
    refine lv_aloadN F.1 F.2.1 (dd D_X8_bone 4 rfl) (lv_at hl 0 rfl) ?_
    refine lv_ifnullN (tgt := 31) F.1 F.2.1 (dd D_X8_bone 5 rfl) rfl ?_
    refine lv_aload_n F.1 F.2.1 (dd D_X8_bone 16 rfl) rfl (lv_at hl 1 rfl) ?_
    refine lv_bipush (v := (-2 : Int32)) F.1 F.2.1 (dd D_X8_bone 17 rfl) kb_m2 ?_
    obtain ⟨r5, e6, h⟩ := Option.bind_eq_some_iff.mp h
    refine rwe_all (st' := [.int r5.1]) hD hS hA (rV (rest := []) F (c_X8_refuse D cA ax s n (-2 : Int32) r5 e6 l H.size) lk_X8_64 (Nat.le_of_ble_eq_true rfl) (preRW hK hS hAb hP hD) (rcv_8 hK hP (q0 := (0)) (xp_0 cA ax s)) rfl hl rfl (Nat.le_of_ble_eq_true rfl) (dd D_X8_bone 18 rfl) ⟨Nat.le_of_ble_eq_true rfl, Nat.le_of_ble_eq_true rfl⟩) rfl (fun H locs hP hD hS => ?_)
    obtain rfl := Option.some.inj h
    exact rw_i (R := rmOf 3 0 0) F hP hD hS hr hlk ⟨Nat.le_of_ble_eq_true rfl, Nat.le_of_ble_eq_true rfl⟩ ⟨rfl, rfl⟩ (dd D_X8_bone 19 rfl)
  | some k3 =>
    dsimp only [oM] at h
    obtain ⟨hk4, h⟩ := gd_some (b := decide (k3 < 8)) h
    have hk4 := of_decide_eq_true hk4
    refine lv_astore (lv' := [(4, .ref (ax (46+2*k3))), (0, .ref (ax 0)), (1, .int p1), (2, .int p2), (3, .int p3)]) F.1 F.2.1 (dd D_X8_bone 3 rfl) hl (Nat.le_of_ble_eq_true rfl) rfl (fun ls hl => ?_)
    refine lv_aload F.1 F.2.1 (dd D_X8_bone 4 rfl) (lv_at hl 0 rfl) ?_
    refine lv_ifnull F.1 F.2.1 (dd D_X8_bone 5 rfl) ?_
    refine lv_iload_n F.1 F.2.1 (dd D_X8_bone 6 rfl) rfl (lv_at hl 3 rfl) ?_
    refine lv_iconst (v := (1 : Int32)) F.1 F.2.1 (dd D_X8_bone 7 rfl) ki_1 ?_
    refine lv_bipush (v := (40 : Int32)) F.1 F.2.1 (dd D_X8_bone 8 rfl) kb_40 ?_
    refine ro_go (st' := [.int (bI (F_X8_isIn p2 (1 : Int32) (40 : Int32)))]) (rS (rest := []) F (c_X8_isIn D cA p2 (1 : Int32) (40 : Int32) l) lk_X8_60 (Nat.le_of_ble_eq_true rfl) (preRO hK hS hAb (emP)) rfl hl rfl (Nat.le_of_ble_eq_true rfl) (dd D_X8_bone 9 rfl) ⟨Nat.le_of_ble_eq_true rfl, Nat.le_of_ble_eq_true rfl⟩) rfl ?_
    refine x_bif_eq (tgt := 31) F.1 F.2.1 (dd D_X8_bone 10 rfl) rfl h (fun c23 h => ?_) (fun c23 h => ?_)
    · refine lv_aload_n F.1 F.2.1 (dd D_X8_bone 16 rfl) rfl (lv_at hl 1 rfl) ?_
      refine lv_bipush (v := (-2 : Int32)) F.1 F.2.1 (dd D_X8_bone 17 rfl) kb_m2 ?_
      obtain ⟨r7, e8, h⟩ := Option.bind_eq_some_iff.mp h
      refine rwe_all (st' := [.int r7.1]) hD hS hA (rV (rest := []) F (c_X8_refuse D cA ax s n (-2 : Int32) r7 e8 l H.size) lk_X8_64 (Nat.le_of_ble_eq_true rfl) (preRW hK hS hAb hP hD) (rcv_8 hK hP (q0 := (0)) (xp_0 cA ax s)) rfl hl rfl (Nat.le_of_ble_eq_true rfl) (dd D_X8_bone 18 rfl) ⟨Nat.le_of_ble_eq_true rfl, Nat.le_of_ble_eq_true rfl⟩) rfl (fun H locs hP hD hS => ?_)
      obtain rfl := Option.some.inj h
      exact rw_i (R := rmOf 3 0 0) F hP hD hS hr hlk ⟨Nat.le_of_ble_eq_true rfl, Nat.le_of_ble_eq_true rfl⟩ ⟨rfl, rfl⟩ (dd D_X8_bone 19 rfl)
    · refine lv_iload_n F.1 F.2.1 (dd D_X8_bone 11 rfl) rfl (lv_at hl 4 rfl) ?_
      refine lv_iconst (v := (0 : Int32)) F.1 F.2.1 (dd D_X8_bone 12 rfl) ki_0 ?_
      refine lv_iconst (v := (2 : Int32)) F.1 F.2.1 (dd D_X8_bone 13 rfl) ki_2 ?_
      refine ro_go (st' := [.int (bI (F_X8_isIn p3 (0 : Int32) (2 : Int32)))]) (rS (rest := []) F (c_X8_isIn D cA p3 (0 : Int32) (2 : Int32) l) lk_X8_60 (Nat.le_of_ble_eq_true rfl) (preRO hK hS hAb (emP)) rfl hl rfl (Nat.le_of_ble_eq_true rfl) (dd D_X8_bone 14 rfl) ⟨Nat.le_of_ble_eq_true rfl, Nat.le_of_ble_eq_true rfl⟩) rfl ?_
      refine x_bif_ne (tgt := 38) F.1 F.2.1 (dd D_X8_bone 15 rfl) rfl h (fun c22 h => ?_) (fun c22 h => ?_)
      · refine lv_aload F.1 F.2.1 (dd D_X8_bone 20 rfl) (lv_at hl 0 rfl) ?_
        refine lv_iload_n F.1 F.2.1 (dd D_X8_bone 21 rfl) rfl (lv_at hl 3 rfl) ?_
        refine ro_go (st' := [.int (F_X5_refusalAsRow (x_sh s k3) p2)]) (rV (rest := []) F (c_X5_refusalAsRow D cA (fun i => ax (46+2*k3+i)) (x_sh s k3) p2 l) lk_X8_72 (Nat.le_of_ble_eq_true rfl) (preRO hK hS hAb (pg_sh hk4 hP)) (rcv_5 hK hP (q0 := (46+2*k3)) (xp_sh cA ax s k3 hk4)) rfl hl rfl (Nat.le_of_ble_eq_true rfl) (dd D_X8_bone 22 rfl) ⟨Nat.le_of_ble_eq_true rfl, Nat.le_of_ble_eq_true rfl⟩) rfl ?_
        refine lv_istore (lv' := [(5, .int (F_X5_refusalAsRow (x_sh s k3) p2)), (4, .ref (ax (46+2*k3))), (0, .ref (ax 0)), (1, .int p1), (2, .int p2), (3, .int p3)]) F.1 F.2.1 (dd D_X8_bone 23 rfl) hl (Nat.le_of_ble_eq_true rfl) rfl (fun ls hl => ?_)
        refine lv_iload F.1 F.2.1 (dd D_X8_bone 24 rfl) (lv_at hl 0 rfl) ?_
        refine x_if_eq (tgt := 58) F.1 F.2.1 (dd D_X8_bone 25 rfl) rfl h (fun c9 h => ?_) (fun c9 h => ?_)
        · refine lv_iload_n F.1 F.2.1 (dd D_X8_bone 30 rfl) rfl (lv_at hl 5 rfl) ?_
          refine x_if_ne (tgt := 69) F.1 F.2.1 (dd D_X8_bone 31 rfl) rfl h (fun c10 h => ?_) (fun c10 h => ?_)
          · refine lv_iload_n F.1 F.2.1 (dd D_X8_bone 36 rfl) rfl (lv_at hl 5 rfl) ?_
            refine lv_iconst (v := (1 : Int32)) F.1 F.2.1 (dd D_X8_bone 37 rfl) ki_1 ?_
            refine x_icmp_ne (tgt := 83) F.1 F.2.1 (dd D_X8_bone 38 rfl) rfl h (fun c11 h => ?_) (fun c11 h => ?_)
            · refine lv_aload F.1 F.2.1 (dd D_X8_bone 43 rfl) (lv_at hl 1 rfl) ?_
              refine lv_iload_n F.1 F.2.1 (dd D_X8_bone 44 rfl) rfl (lv_at hl 4 rfl) ?_
              obtain ⟨r12, e13, h⟩ := Option.bind_eq_some_iff.mp h
              refine ro_go (st' := [.int r12]) (rV (rest := []) F (c_X5_threesOfMonths D cA (fun i => ax (46+2*k3+i)) (x_sh s k3) n p2 r12 e13 l) lk_X8_319 (Nat.le_of_ble_eq_true rfl) (preRO hK hS hAb (pg_sh hk4 hP)) (rcv_5 hK hP (q0 := (46+2*k3)) (xp_sh cA ax s k3 hk4)) rfl hl rfl (Nat.le_of_ble_eq_true rfl) (dd D_X8_bone 45 rfl) ⟨Nat.le_of_ble_eq_true rfl, Nat.le_of_ble_eq_true rfl⟩) rfl ?_
              obtain rfl := Option.some.inj h
              exact rw_i (R := rmOf 3 0 0) F hP hD hS hr hlk ⟨Nat.le_of_ble_eq_true rfl, Nat.le_of_ble_eq_true rfl⟩ ⟨rfl, rfl⟩ (dd D_X8_bone 46 rfl)
            · refine lv_aload F.1 F.2.1 (dd D_X8_bone 39 rfl) (lv_at hl 1 rfl) ?_
              refine lv_iload_n F.1 F.2.1 (dd D_X8_bone 40 rfl) rfl (lv_at hl 4 rfl) ?_
              obtain ⟨r14, e15, h⟩ := Option.bind_eq_some_iff.mp h
              refine ro_go (st' := [.int r14]) (rV (rest := []) F (c_X5_longestRun D cA (fun i => ax (46+2*k3+i)) (x_sh s k3) n p2 r14 e15 l) lk_X8_316 (Nat.le_of_ble_eq_true rfl) (preRO hK hS hAb (pg_sh hk4 hP)) (rcv_5 hK hP (q0 := (46+2*k3)) (xp_sh cA ax s k3 hk4)) rfl hl rfl (Nat.le_of_ble_eq_true rfl) (dd D_X8_bone 41 rfl) ⟨Nat.le_of_ble_eq_true rfl, Nat.le_of_ble_eq_true rfl⟩) rfl ?_
              refine lv_goto (tgt := 89) F.1 F.2.1 (dd D_X8_bone 42 rfl) rfl ?_
              obtain rfl := Option.some.inj h
              exact rw_i (R := rmOf 3 0 0) F hP hD hS hr hlk ⟨Nat.le_of_ble_eq_true rfl, Nat.le_of_ble_eq_true rfl⟩ ⟨rfl, rfl⟩ (dd D_X8_bone 46 rfl)
          · refine lv_aload F.1 F.2.1 (dd D_X8_bone 32 rfl) (lv_at hl 1 rfl) ?_
            refine lv_iload_n F.1 F.2.1 (dd D_X8_bone 33 rfl) rfl (lv_at hl 4 rfl) ?_
            obtain ⟨r16, e17, h⟩ := Option.bind_eq_some_iff.mp h
            refine ro_go (st' := [.int r16]) (rV (rest := []) F (c_X5_monthCounts D cA (fun i => ax (46+2*k3+i)) (x_sh s k3) n p2 r16 e17 l) lk_X8_313 (Nat.le_of_ble_eq_true rfl) (preRO hK hS hAb (pg_sh hk4 hP)) (rcv_5 hK hP (q0 := (46+2*k3)) (xp_sh cA ax s k3 hk4)) rfl hl rfl (Nat.le_of_ble_eq_true rfl) (dd D_X8_bone 34 rfl) ⟨Nat.le_of_ble_eq_true rfl, Nat.le_of_ble_eq_true rfl⟩) rfl ?_
            obtain rfl := Option.some.inj h
            exact rw_i (R := rmOf 3 0 0) F hP hD hS hr hlk ⟨Nat.le_of_ble_eq_true rfl, Nat.le_of_ble_eq_true rfl⟩ ⟨rfl, rfl⟩ (dd D_X8_bone 35 rfl)
        · refine lv_aload_n F.1 F.2.1 (dd D_X8_bone 26 rfl) rfl (lv_at hl 2 rfl) ?_
          refine lv_iload F.1 F.2.1 (dd D_X8_bone 27 rfl) (lv_at hl 0 rfl) ?_
          obtain ⟨r18, e19, h⟩ := Option.bind_eq_some_iff.mp h
          refine rwe_all (st' := [.int r18.1]) hD hS hA (rV (rest := []) F (c_X8_refuse D cA ax s n (F_X5_refusalAsRow (x_sh s k3) p2) r18 e19 l H.size) lk_X8_64 (Nat.le_of_ble_eq_true rfl) (preRW hK hS hAb hP hD) (rcv_8 hK hP (q0 := (0)) (xp_0 cA ax s)) rfl hl rfl (Nat.le_of_ble_eq_true rfl) (dd D_X8_bone 28 rfl) ⟨Nat.le_of_ble_eq_true rfl, Nat.le_of_ble_eq_true rfl⟩) rfl (fun H locs hP hD hS => ?_)
          obtain rfl := Option.some.inj h
          exact rw_i (R := rmOf 3 0 0) F hP hD hS hr hlk ⟨Nat.le_of_ble_eq_true rfl, Nat.le_of_ble_eq_true rfl⟩ ⟨rfl, rfl⟩ (dd D_X8_bone 29 rfl)
      · refine lv_aload_n F.1 F.2.1 (dd D_X8_bone 16 rfl) rfl (lv_at hl 1 rfl) ?_
        refine lv_bipush (v := (-2 : Int32)) F.1 F.2.1 (dd D_X8_bone 17 rfl) kb_m2 ?_
        obtain ⟨r20, e21, h⟩ := Option.bind_eq_some_iff.mp h
        refine rwe_all (st' := [.int r20.1]) hD hS hA (rV (rest := []) F (c_X8_refuse D cA ax s n (-2 : Int32) r20 e21 l H.size) lk_X8_64 (Nat.le_of_ble_eq_true rfl) (preRW hK hS hAb hP hD) (rcv_8 hK hP (q0 := (0)) (xp_0 cA ax s)) rfl hl rfl (Nat.le_of_ble_eq_true rfl) (dd D_X8_bone 18 rfl) ⟨Nat.le_of_ble_eq_true rfl, Nat.le_of_ble_eq_true rfl⟩) rfl (fun H locs hP hD hS => ?_)
        obtain rfl := Option.some.inj h
        exact rw_i (R := rmOf 3 0 0) F hP hD hS hr hlk ⟨Nat.le_of_ble_eq_true rfl, Nat.le_of_ble_eq_true rfl⟩ ⟨rfl, rfl⟩ (dd D_X8_bone 19 rfl)
def F_X8_stonesThatHit_L4 (n : Nat) (u0 : XS) (v1 : Int32) : Nat → Int32 → Int32 → Option Int32
  | 0, _, _ => none
  | kf + 1, w2, w3 => (if (F_X0_count 6 (st_stones (x_now u0))) ≤ w3 then some (w2) else (((F_X0_at n 6 (st_stones (x_now u0)) w3)).bind fun r2 => (((F_X3_near n u0 r2 v1)).bind fun r4 => (if r4 ≤ 0 then F_X8_stonesThatHit_L4 n u0 v1 kf w2 (w3 + (1 : Int32)) else F_X8_stonesThatHit_L4 n u0 v1 kf (w2 ||| ((1 : Int32) <<< (w3 &&& 31))) (w3 + (1 : Int32))))))
def F_X8_stonesThatHit (n : Nat) (s : XS) (p1 : Int32) : Option Int32 := F_X8_stonesThatHit_L4 n s p1 n (0 : Int32) (0 : Int32)
set_option maxHeartbeats 4000000 in
set_option maxRecDepth 100000 in
theorem c_X8_stonesThatHit (D : va_G) (cA : Nat → ClassId) (ax : Nat → Nat) (s : XS) (n : Nat) (p1 : Int32) (r : Int32) (h : F_X8_stonesThatHit n s p1 = some r) : RO m_X8_stonesThatHit 2 D cA [.ref (ax 0), .int p1] (xW cA ax s) (some (.int r)) := by
  refine RO.ofW gy_X8_stonesThatHit.2.2 (Nat.le_of_ble_eq_true rfl) ?_
  intro l p e sM m below meth c F hr hlk hK hP hS hAb ls hl
  have hl : lv_has ls 4 [(0, .ref (ax 0)), (1, .int p1)] := hl
  unfold F_X8_stonesThatHit at h
  refine lv_iconst (v := (0 : Int32)) F.1 F.2.1 (dd D_X8_stonesThatHit 0 rfl) ki_0 ?_
  refine lv_istore_n (lv' := [(2, .int (0 : Int32)), (0, .ref (ax 0)), (1, .int p1)]) F.1 F.2.1 (dd D_X8_stonesThatHit 1 rfl) rfl hl (Nat.le_of_ble_eq_true rfl) rfl (fun ls hl => ?_)
  refine lv_iconst (v := (0 : Int32)) F.1 F.2.1 (dd D_X8_stonesThatHit 2 rfl) ki_0 ?_
  refine lv_istore_n (lv' := [(3, .int (0 : Int32)), (2, .int (0 : Int32)), (0, .ref (ax 0)), (1, .int p1)]) F.1 F.2.1 (dd D_X8_stonesThatHit 3 rfl) rfl hl (Nat.le_of_ble_eq_true rfl) rfl (fun ls hl => ?_)
  have L7 : ∀ (kf : Nat) (w2_L7 : Int32) (w3_L7 : Int32) (ls : Array Slot), lv_has ls 4 [(0, .ref (ax 0)), (1, .int p1), (2, .int w2_L7), (3, .int w3_L7)] → F_X8_stonesThatHit_L4 n s p1 kf w2_L7 w3_L7 = some r → Wro 2 (some (.int r)) p l e sM m ([.ref (ax 0), .int p1] : List Value).toArray below meth c 4 ls [] := by
    intro kf
    induction kf with
    | zero =>
      intro w2_L7 w3_L7 ls hl h
      cases (show none = some r from h)
    | succ k_L7 ih_L7 =>
      intro w2_L7 w3_L7 ls hl h
      unfold F_X8_stonesThatHit_L4 at h
      refine lv_iload_n F.1 F.2.1 (dd D_X8_stonesThatHit 4 rfl) rfl (lv_at hl 3 rfl) ?_
      refine lv_aload_n F.1 F.2.1 (dd D_X8_stonesThatHit 5 rfl) rfl (lv_at hl 0 rfl) ?_
      refine getF F hK hP lf_X8_10 (0) (xp_0 cA ax s) rfl (dd D_X8_stonesThatHit 6 rfl) ?_
      refine getF F hK hP lf_X8_163 (1) (xp_1 cA ax s) rfl (dd D_X8_stonesThatHit 7 rfl) ?_
      refine ro_go (st' := [.int (F_X0_count 6 (st_stones (x_now s))), .int w3_L7]) (rV (rest := [.int w3_L7]) F (c_X0_count D cA 6 (fun i => ax (10+i)) (st_stones (x_now s)) l) lk_X8_172 (Nat.le_of_ble_eq_true rfl) (preRO hK hS hAb (pg_x_10 hP)) (rcv_0 hK hP (q0 := (10)) (xp_10 cA ax s)) rfl hl rfl (Nat.le_of_ble_eq_true rfl) (dd D_X8_stonesThatHit 8 rfl) ⟨Nat.le_of_ble_eq_true rfl, Nat.le_of_ble_eq_true rfl⟩) rfl ?_
      refine x_icmp_ge (tgt := 52) F.1 F.2.1 (dd D_X8_stonesThatHit 9 rfl) rfl h (fun c8 h => ?_) (fun c8 h => ?_)
      · refine lv_iload_n F.1 F.2.1 (dd D_X8_stonesThatHit 28 rfl) rfl (lv_at hl 2 rfl) ?_
        exact ro_i (R := rmOf 2 0 0) F hr hlk (congrArg (Option.map Value.int) h) (dd D_X8_stonesThatHit 29 rfl)
      · refine lv_aload_n F.1 F.2.1 (dd D_X8_stonesThatHit 10 rfl) rfl (lv_at hl 0 rfl) ?_
        refine getF F hK hP lf_X8_41 (0) (xp_0 cA ax s) rfl (dd D_X8_stonesThatHit 11 rfl) ?_
        refine lv_aload_n F.1 F.2.1 (dd D_X8_stonesThatHit 12 rfl) rfl (lv_at hl 0 rfl) ?_
        refine getF F hK hP lf_X8_10 (0) (xp_0 cA ax s) rfl (dd D_X8_stonesThatHit 13 rfl) ?_
        refine getF F hK hP lf_X8_163 (1) (xp_1 cA ax s) rfl (dd D_X8_stonesThatHit 14 rfl) ?_
        refine lv_iload_n F.1 F.2.1 (dd D_X8_stonesThatHit 15 rfl) rfl (lv_at hl 3 rfl) ?_
        obtain ⟨r9, e10, h⟩ := Option.bind_eq_some_iff.mp h
        refine ro_go (st' := [.int r9, .ref (ax 43)]) (rV (rest := [.ref (ax 43)]) F (c_X0_at D cA 6 (fun i => ax (10+i)) (st_stones (x_now s)) n w3_L7 r9 e10 l) lk_X8_205 (Nat.le_of_ble_eq_true rfl) (preRO hK hS hAb (pg_x_10 hP)) (rcv_0 hK hP (q0 := (10)) (xp_10 cA ax s)) rfl hl rfl (Nat.le_of_ble_eq_true rfl) (dd D_X8_stonesThatHit 16 rfl) ⟨Nat.le_of_ble_eq_true rfl, Nat.le_of_ble_eq_true rfl⟩) rfl ?_
        refine lv_iload_n F.1 F.2.1 (dd D_X8_stonesThatHit 17 rfl) rfl (lv_at hl 1 rfl) ?_
        obtain ⟨r11, e12, h⟩ := Option.bind_eq_some_iff.mp h
        refine ro_go (st' := [.int r11]) (rV (rest := []) F (c_X3_near D cA ax s n r9 p1 r11 e12 l) lk_X8_374 (Nat.le_of_ble_eq_true rfl) (preRO hK hS hAb hP) (rcv_3 hK hP (q0 := (43)) (xp_43 cA ax s)) rfl hl rfl (Nat.le_of_ble_eq_true rfl) (dd D_X8_stonesThatHit 18 rfl) ⟨Nat.le_of_ble_eq_true rfl, Nat.le_of_ble_eq_true rfl⟩) rfl ?_
        refine x_if_le (tgt := 46) F.1 F.2.1 (dd D_X8_stonesThatHit 19 rfl) rfl h (fun c13 h => ?_) (fun c13 h => ?_)
        · refine lv_iinc (v := (w3_L7 + (1 : Int32))) (lv' := [(3, .int (w3_L7 + (1 : Int32))), (0, .ref (ax 0)), (1, .int p1), (2, .int w2_L7)]) F.1 F.2.1 (dd D_X8_stonesThatHit 26 rfl) hl (k := 3) rfl (congrArg (fun z => w3_L7 + z) ki_1) (Nat.le_of_ble_eq_true rfl) rfl (fun ls hl => ?_)
          refine lv_goto (tgt := 4) F.1 F.2.1 (dd D_X8_stonesThatHit 27 rfl) rfl ?_
          exact ih_L7 w2_L7 (w3_L7 + (1 : Int32)) ls (lv_sub hl [1, 2, 3, 0] rfl) h
        · refine lv_iload_n F.1 F.2.1 (dd D_X8_stonesThatHit 20 rfl) rfl (lv_at hl 2 rfl) ?_
          refine lv_iconst (v := (1 : Int32)) F.1 F.2.1 (dd D_X8_stonesThatHit 21 rfl) ki_1 ?_
          refine lv_iload_n F.1 F.2.1 (dd D_X8_stonesThatHit 22 rfl) rfl (lv_at hl 3 rfl) ?_
          refine lv_ishl F.1 F.2.1 (dd D_X8_stonesThatHit 23 rfl) ?_
          refine lv_ior F.1 F.2.1 (dd D_X8_stonesThatHit 24 rfl) ?_
          refine lv_istore_n (lv' := [(2, .int (w2_L7 ||| ((1 : Int32) <<< (w3_L7 &&& 31)))), (0, .ref (ax 0)), (1, .int p1), (3, .int w3_L7)]) F.1 F.2.1 (dd D_X8_stonesThatHit 25 rfl) rfl hl (Nat.le_of_ble_eq_true rfl) rfl (fun ls hl => ?_)
          refine lv_iinc (v := (w3_L7 + (1 : Int32))) (lv' := [(3, .int (w3_L7 + (1 : Int32))), (2, .int (w2_L7 ||| ((1 : Int32) <<< (w3_L7 &&& 31)))), (0, .ref (ax 0)), (1, .int p1)]) F.1 F.2.1 (dd D_X8_stonesThatHit 26 rfl) hl (k := 3) rfl (congrArg (fun z => w3_L7 + z) ki_1) (Nat.le_of_ble_eq_true rfl) rfl (fun ls hl => ?_)
          refine lv_goto (tgt := 4) F.1 F.2.1 (dd D_X8_stonesThatHit 27 rfl) rfl ?_
          exact ih_L7 (w2_L7 ||| ((1 : Int32) <<< (w3_L7 &&& 31))) (w3_L7 + (1 : Int32)) ls (lv_sub hl [2, 3, 1, 0] rfl) h
  exact L7 n (0 : Int32) (0 : Int32) ls (lv_sub hl [2, 3, 1, 0] rfl) h
def F_X8_hits (n : Nat) (s : XS) (p1 : Int32) (p2 : Int32) (p3 : Int32) : Option (Int32 × XS) := bf (F_X8_areDays p1 p2) (bf (F_X8_isIn p3 (0 : Int32) (20 : Int32)) ((((F_X3_gather n s p1 p2)).bind fun r3 => (((F_X8_stonesThatHit n r3 p3)).bind fun r5 => some (r5, r3)))) ((((F_X8_refuse n s (-2 : Int32))).bind fun r7 => some (r7.1, r7.2)))) ((((F_X8_refuse n s (-2 : Int32))).bind fun r1 => some (r1.1, r1.2)))
set_option maxHeartbeats 4000000 in
set_option maxRecDepth 100000 in
theorem c_X8_hits (D : va_G) (cA : Nat → ClassId) (ax : Nat → Nat) (s : XS) (n : Nat) (p1 : Int32) (p2 : Int32) (p3 : Int32) (r : (Int32 × XS)) (h : F_X8_hits n s p1 p2 p3 = some r) : RW m_X8_hits 5 0 0 D cA [.ref (ax 0), .int p1, .int p2, .int p3] (xW cA ax s) (exq (some (.int r.1)) (xW cA ax r.2)) := by
  refine RW.ofW gy_X8_hits.2.2 (Nat.le_of_ble_eq_true rfl) ?_
  intro l p e sM m below meth c A H locs F hr hlk hnm hK hP hD hS hA hAb ls hl
  have hl : lv_has ls 4 [(0, .ref (ax 0)), (1, .int p1), (2, .int p2), (3, .int p3)] := hl
  unfold F_X8_hits at h
  refine lv_iload_n F.1 F.2.1 (dd D_X8_hits 0 rfl) rfl (lv_at hl 1 rfl) ?_
  refine lv_iload_n F.1 F.2.1 (dd D_X8_hits 1 rfl) rfl (lv_at hl 2 rfl) ?_
  refine ro_go (st' := [.int (bI (F_X8_areDays p1 p2))]) (rS (rest := []) F (c_X8_areDays D cA p1 p2 l) lk_X8_260 (Nat.le_of_ble_eq_true rfl) (preRO hK hS hAb (emP)) rfl hl rfl (Nat.le_of_ble_eq_true rfl) (dd D_X8_hits 2 rfl) ⟨Nat.le_of_ble_eq_true rfl, Nat.le_of_ble_eq_true rfl⟩) rfl ?_
  refine x_bif_eq (tgt := 18) F.1 F.2.1 (dd D_X8_hits 3 rfl) rfl h (fun c10 h => ?_) (fun c10 h => ?_)
  · refine lv_aload_n F.1 F.2.1 (dd D_X8_hits 9 rfl) rfl (lv_at hl 0 rfl) ?_
    refine lv_bipush (v := (-2 : Int32)) F.1 F.2.1 (dd D_X8_hits 10 rfl) kb_m2 ?_
    obtain ⟨r1, e2, h⟩ := Option.bind_eq_some_iff.mp h
    refine rwe_all (st' := [.int r1.1]) hD hS hA (rV (rest := []) F (c_X8_refuse D cA ax s n (-2 : Int32) r1 e2 l H.size) lk_X8_64 (Nat.le_of_ble_eq_true rfl) (preRW hK hS hAb hP hD) (rcv_8 hK hP (q0 := (0)) (xp_0 cA ax s)) rfl hl rfl (Nat.le_of_ble_eq_true rfl) (dd D_X8_hits 11 rfl) ⟨Nat.le_of_ble_eq_true rfl, Nat.le_of_ble_eq_true rfl⟩) rfl (fun H locs hP hD hS => ?_)
    obtain rfl := Option.some.inj h
    exact rw_i (R := rmOf 5 0 0) F hP hD hS hr hlk ⟨Nat.le_of_ble_eq_true rfl, Nat.le_of_ble_eq_true rfl⟩ ⟨rfl, rfl⟩ (dd D_X8_hits 12 rfl)
  · refine lv_iload_n F.1 F.2.1 (dd D_X8_hits 4 rfl) rfl (lv_at hl 3 rfl) ?_
    refine lv_iconst (v := (0 : Int32)) F.1 F.2.1 (dd D_X8_hits 5 rfl) ki_0 ?_
    refine lv_bipush (v := (20 : Int32)) F.1 F.2.1 (dd D_X8_hits 6 rfl) kb_20 ?_
    refine ro_go (st' := [.int (bI (F_X8_isIn p3 (0 : Int32) (20 : Int32)))]) (rS (rest := []) F (c_X8_isIn D cA p3 (0 : Int32) (20 : Int32) l) lk_X8_60 (Nat.le_of_ble_eq_true rfl) (preRO hK hS hAb (emP)) rfl hl rfl (Nat.le_of_ble_eq_true rfl) (dd D_X8_hits 7 rfl) ⟨Nat.le_of_ble_eq_true rfl, Nat.le_of_ble_eq_true rfl⟩) rfl ?_
    refine x_bif_ne (tgt := 25) F.1 F.2.1 (dd D_X8_hits 8 rfl) rfl h (fun c9 h => ?_) (fun c9 h => ?_)
    · refine lv_aload_n F.1 F.2.1 (dd D_X8_hits 13 rfl) rfl (lv_at hl 0 rfl) ?_
      refine getF F hK hP lf_X8_41 (0) (xp_0 cA ax s) rfl (dd D_X8_hits 14 rfl) ?_
      refine lv_aload_n F.1 F.2.1 (dd D_X8_hits 15 rfl) rfl (lv_at hl 0 rfl) ?_
      refine getF F hK hP lf_X8_27 (0) (xp_0 cA ax s) rfl (dd D_X8_hits 16 rfl) ?_
      refine lv_iload_n F.1 F.2.1 (dd D_X8_hits 17 rfl) rfl (lv_at hl 1 rfl) ?_
      refine lv_iload_n F.1 F.2.1 (dd D_X8_hits 18 rfl) rfl (lv_at hl 2 rfl) ?_
      obtain ⟨r3, e4, h⟩ := Option.bind_eq_some_iff.mp h
      refine rwe_all (st' := []) hD hS hA (rV (rest := []) F (c_X3_gather D cA ax s n p1 p2 r3 e4 l H.size) lk_X8_322 (Nat.le_of_ble_eq_true rfl) (preRW hK hS hAb hP hD) (rcv_3 hK hP (q0 := (43)) (xp_43 cA ax s)) rfl hl rfl (Nat.le_of_ble_eq_true rfl) (dd D_X8_hits 19 rfl) ⟨Nat.le_of_ble_eq_true rfl, Nat.le_of_ble_eq_true rfl⟩) rfl (fun H locs hP hD hS => ?_)
      refine lv_aload_n F.1 F.2.1 (dd D_X8_hits 20 rfl) rfl (lv_at hl 0 rfl) ?_
      refine lv_iload_n F.1 F.2.1 (dd D_X8_hits 21 rfl) rfl (lv_at hl 3 rfl) ?_
      obtain ⟨r5, e6, h⟩ := Option.bind_eq_some_iff.mp h
      refine ro_go (st' := [.int r5]) (rV (rest := []) F (c_X8_stonesThatHit D cA ax r3 n p3 r5 e6 l) lk_X8_326 (Nat.le_of_ble_eq_true rfl) (preRO hK hS hAb hP) (rcv_8 hK hP (q0 := (0)) (xp_0 cA ax r3)) rfl hl rfl (Nat.le_of_ble_eq_true rfl) (dd D_X8_hits 22 rfl) ⟨Nat.le_of_ble_eq_true rfl, Nat.le_of_ble_eq_true rfl⟩) rfl ?_
      obtain rfl := Option.some.inj h
      exact rw_i (R := rmOf 5 0 0) F hP hD hS hr hlk ⟨Nat.le_of_ble_eq_true rfl, Nat.le_of_ble_eq_true rfl⟩ ⟨rfl, rfl⟩ (dd D_X8_hits 23 rfl)
    · refine lv_aload_n F.1 F.2.1 (dd D_X8_hits 9 rfl) rfl (lv_at hl 0 rfl) ?_
      refine lv_bipush (v := (-2 : Int32)) F.1 F.2.1 (dd D_X8_hits 10 rfl) kb_m2 ?_
      obtain ⟨r7, e8, h⟩ := Option.bind_eq_some_iff.mp h
      refine rwe_all (st' := [.int r7.1]) hD hS hA (rV (rest := []) F (c_X8_refuse D cA ax s n (-2 : Int32) r7 e8 l H.size) lk_X8_64 (Nat.le_of_ble_eq_true rfl) (preRW hK hS hAb hP hD) (rcv_8 hK hP (q0 := (0)) (xp_0 cA ax s)) rfl hl rfl (Nat.le_of_ble_eq_true rfl) (dd D_X8_hits 11 rfl) ⟨Nat.le_of_ble_eq_true rfl, Nat.le_of_ble_eq_true rfl⟩) rfl (fun H locs hP hD hS => ?_)
      obtain rfl := Option.some.inj h
      exact rw_i (R := rmOf 5 0 0) F hP hD hS hr hlk ⟨Nat.le_of_ble_eq_true rfl, Nat.le_of_ble_eq_true rfl⟩ ⟨rfl, rfl⟩ (dd D_X8_hits 12 rfl)
def F_X8_chance (n : Nat) (s : XS) (p1 : Int32) (p2 : Int32) (p3 : Int32) : Option (Int32 × XS) := bf (F_X8_areDays p1 p2) (bf (F_X8_isIn p3 (0 : Int32) (20 : Int32)) ((((F_X3_gather n s p1 p2)).bind fun r3 => (((F_X3_degreesThatHit n r3 p3)).bind fun r5 => some (r5, r3)))) ((((F_X8_refuse n s (-2 : Int32))).bind fun r7 => some (r7.1, r7.2)))) ((((F_X8_refuse n s (-2 : Int32))).bind fun r1 => some (r1.1, r1.2)))
set_option maxHeartbeats 4000000 in
set_option maxRecDepth 100000 in
theorem c_X8_chance (D : va_G) (cA : Nat → ClassId) (ax : Nat → Nat) (s : XS) (n : Nat) (p1 : Int32) (p2 : Int32) (p3 : Int32) (r : (Int32 × XS)) (h : F_X8_chance n s p1 p2 p3 = some r) : RW m_X8_chance 5 0 0 D cA [.ref (ax 0), .int p1, .int p2, .int p3] (xW cA ax s) (exq (some (.int r.1)) (xW cA ax r.2)) := by
  refine RW.ofW gy_X8_chance.2.2 (Nat.le_of_ble_eq_true rfl) ?_
  intro l p e sM m below meth c A H locs F hr hlk hnm hK hP hD hS hA hAb ls hl
  have hl : lv_has ls 4 [(0, .ref (ax 0)), (1, .int p1), (2, .int p2), (3, .int p3)] := hl
  unfold F_X8_chance at h
  refine lv_iload_n F.1 F.2.1 (dd D_X8_chance 0 rfl) rfl (lv_at hl 1 rfl) ?_
  refine lv_iload_n F.1 F.2.1 (dd D_X8_chance 1 rfl) rfl (lv_at hl 2 rfl) ?_
  refine ro_go (st' := [.int (bI (F_X8_areDays p1 p2))]) (rS (rest := []) F (c_X8_areDays D cA p1 p2 l) lk_X8_260 (Nat.le_of_ble_eq_true rfl) (preRO hK hS hAb (emP)) rfl hl rfl (Nat.le_of_ble_eq_true rfl) (dd D_X8_chance 2 rfl) ⟨Nat.le_of_ble_eq_true rfl, Nat.le_of_ble_eq_true rfl⟩) rfl ?_
  refine x_bif_eq (tgt := 18) F.1 F.2.1 (dd D_X8_chance 3 rfl) rfl h (fun c10 h => ?_) (fun c10 h => ?_)
  · refine lv_aload_n F.1 F.2.1 (dd D_X8_chance 9 rfl) rfl (lv_at hl 0 rfl) ?_
    refine lv_bipush (v := (-2 : Int32)) F.1 F.2.1 (dd D_X8_chance 10 rfl) kb_m2 ?_
    obtain ⟨r1, e2, h⟩ := Option.bind_eq_some_iff.mp h
    refine rwe_all (st' := [.int r1.1]) hD hS hA (rV (rest := []) F (c_X8_refuse D cA ax s n (-2 : Int32) r1 e2 l H.size) lk_X8_64 (Nat.le_of_ble_eq_true rfl) (preRW hK hS hAb hP hD) (rcv_8 hK hP (q0 := (0)) (xp_0 cA ax s)) rfl hl rfl (Nat.le_of_ble_eq_true rfl) (dd D_X8_chance 11 rfl) ⟨Nat.le_of_ble_eq_true rfl, Nat.le_of_ble_eq_true rfl⟩) rfl (fun H locs hP hD hS => ?_)
    obtain rfl := Option.some.inj h
    exact rw_i (R := rmOf 5 0 0) F hP hD hS hr hlk ⟨Nat.le_of_ble_eq_true rfl, Nat.le_of_ble_eq_true rfl⟩ ⟨rfl, rfl⟩ (dd D_X8_chance 12 rfl)
  · refine lv_iload_n F.1 F.2.1 (dd D_X8_chance 4 rfl) rfl (lv_at hl 3 rfl) ?_
    refine lv_iconst (v := (0 : Int32)) F.1 F.2.1 (dd D_X8_chance 5 rfl) ki_0 ?_
    refine lv_bipush (v := (20 : Int32)) F.1 F.2.1 (dd D_X8_chance 6 rfl) kb_20 ?_
    refine ro_go (st' := [.int (bI (F_X8_isIn p3 (0 : Int32) (20 : Int32)))]) (rS (rest := []) F (c_X8_isIn D cA p3 (0 : Int32) (20 : Int32) l) lk_X8_60 (Nat.le_of_ble_eq_true rfl) (preRO hK hS hAb (emP)) rfl hl rfl (Nat.le_of_ble_eq_true rfl) (dd D_X8_chance 7 rfl) ⟨Nat.le_of_ble_eq_true rfl, Nat.le_of_ble_eq_true rfl⟩) rfl ?_
    refine x_bif_ne (tgt := 25) F.1 F.2.1 (dd D_X8_chance 8 rfl) rfl h (fun c9 h => ?_) (fun c9 h => ?_)
    · refine lv_aload_n F.1 F.2.1 (dd D_X8_chance 13 rfl) rfl (lv_at hl 0 rfl) ?_
      refine getF F hK hP lf_X8_41 (0) (xp_0 cA ax s) rfl (dd D_X8_chance 14 rfl) ?_
      refine lv_aload_n F.1 F.2.1 (dd D_X8_chance 15 rfl) rfl (lv_at hl 0 rfl) ?_
      refine getF F hK hP lf_X8_27 (0) (xp_0 cA ax s) rfl (dd D_X8_chance 16 rfl) ?_
      refine lv_iload_n F.1 F.2.1 (dd D_X8_chance 17 rfl) rfl (lv_at hl 1 rfl) ?_
      refine lv_iload_n F.1 F.2.1 (dd D_X8_chance 18 rfl) rfl (lv_at hl 2 rfl) ?_
      obtain ⟨r3, e4, h⟩ := Option.bind_eq_some_iff.mp h
      refine rwe_all (st' := []) hD hS hA (rV (rest := []) F (c_X3_gather D cA ax s n p1 p2 r3 e4 l H.size) lk_X8_322 (Nat.le_of_ble_eq_true rfl) (preRW hK hS hAb hP hD) (rcv_3 hK hP (q0 := (43)) (xp_43 cA ax s)) rfl hl rfl (Nat.le_of_ble_eq_true rfl) (dd D_X8_chance 19 rfl) ⟨Nat.le_of_ble_eq_true rfl, Nat.le_of_ble_eq_true rfl⟩) rfl (fun H locs hP hD hS => ?_)
      refine lv_aload_n F.1 F.2.1 (dd D_X8_chance 20 rfl) rfl (lv_at hl 0 rfl) ?_
      refine getF F hK hP lf_X8_41 (0) (xp_0 cA ax r3) rfl (dd D_X8_chance 21 rfl) ?_
      refine lv_iload_n F.1 F.2.1 (dd D_X8_chance 22 rfl) rfl (lv_at hl 3 rfl) ?_
      obtain ⟨r5, e6, h⟩ := Option.bind_eq_some_iff.mp h
      refine ro_go (st' := [.int r5]) (rV (rest := []) F (c_X3_degreesThatHit D cA ax r3 n p3 r5 e6 l) lk_X8_329 (Nat.le_of_ble_eq_true rfl) (preRO hK hS hAb hP) (rcv_3 hK hP (q0 := (43)) (xp_43 cA ax r3)) rfl hl rfl (Nat.le_of_ble_eq_true rfl) (dd D_X8_chance 23 rfl) ⟨Nat.le_of_ble_eq_true rfl, Nat.le_of_ble_eq_true rfl⟩) rfl ?_
      obtain rfl := Option.some.inj h
      exact rw_i (R := rmOf 5 0 0) F hP hD hS hr hlk ⟨Nat.le_of_ble_eq_true rfl, Nat.le_of_ble_eq_true rfl⟩ ⟨rfl, rfl⟩ (dd D_X8_chance 24 rfl)
    · refine lv_aload_n F.1 F.2.1 (dd D_X8_chance 9 rfl) rfl (lv_at hl 0 rfl) ?_
      refine lv_bipush (v := (-2 : Int32)) F.1 F.2.1 (dd D_X8_chance 10 rfl) kb_m2 ?_
      obtain ⟨r7, e8, h⟩ := Option.bind_eq_some_iff.mp h
      refine rwe_all (st' := [.int r7.1]) hD hS hA (rV (rest := []) F (c_X8_refuse D cA ax s n (-2 : Int32) r7 e8 l H.size) lk_X8_64 (Nat.le_of_ble_eq_true rfl) (preRW hK hS hAb hP hD) (rcv_8 hK hP (q0 := (0)) (xp_0 cA ax s)) rfl hl rfl (Nat.le_of_ble_eq_true rfl) (dd D_X8_chance 11 rfl) ⟨Nat.le_of_ble_eq_true rfl, Nat.le_of_ble_eq_true rfl⟩) rfl (fun H locs hP hD hS => ?_)
      obtain rfl := Option.some.inj h
      exact rw_i (R := rmOf 5 0 0) F hP hD hS hr hlk ⟨Nat.le_of_ble_eq_true rfl, Nat.le_of_ble_eq_true rfl⟩ ⟨rfl, rfl⟩ (dd D_X8_chance 12 rfl)
def F_X8_meets (n : Nat) (s : XS) (p1 : Int32) (p2 : Int32) (p3 : Int32) : Option (Int32 × XS) := bf (F_X8_isStone s p1) (bf (F_X8_isDay p2) (bf (F_X8_isIn p3 (0 : Int32) (20 : Int32)) ((((F_X0_at n 6 (st_stones (x_now s)) p1)).bind fun r5 => (((F_X2_pick n s (6 : Int32) (r5 - p3) (r5 + p3) (0 : Int32) none p2 (1000 : Int32) (0 : Int32))).bind fun r8 => some (r8, s)))) ((((F_X8_refuse n s (-2 : Int32))).bind fun r10 => some (r10.1, r10.2)))) ((((F_X8_refuse n s (-2 : Int32))).bind fun r3 => some (r3.1, r3.2)))) ((((F_X8_refuse n s (-2 : Int32))).bind fun r1 => some (r1.1, r1.2)))
set_option maxHeartbeats 4000000 in
set_option maxRecDepth 100000 in
theorem c_X8_meets (D : va_G) (cA : Nat → ClassId) (ax : Nat → Nat) (s : XS) (n : Nat) (p1 : Int32) (p2 : Int32) (p3 : Int32) (r : (Int32 × XS)) (h : F_X8_meets n s p1 p2 p3 = some r) : RW m_X8_meets 6 1 5 D cA [.ref (ax 0), .int p1, .int p2, .int p3] (xW cA ax s) (exq (some (.int r.1)) (xW cA ax r.2)) := by
  refine RW.ofW gy_X8_meets.2.2 (Nat.le_of_ble_eq_true rfl) ?_
  intro l p e sM m below meth c A H locs F hr hlk hnm hK hP hD hS hA hAb ls hl
  have hl : lv_has ls 5 [(0, .ref (ax 0)), (1, .int p1), (2, .int p2), (3, .int p3)] := hl
  unfold F_X8_meets at h
  refine lv_aload_n F.1 F.2.1 (dd D_X8_meets 0 rfl) rfl (lv_at hl 0 rfl) ?_
  refine lv_iload_n F.1 F.2.1 (dd D_X8_meets 1 rfl) rfl (lv_at hl 1 rfl) ?_
  refine ro_go (st' := [.int (bI (F_X8_isStone s p1))]) (rV (rest := []) F (c_X8_isStone D cA ax s p1 l) lk_X8_202 (Nat.le_of_ble_eq_true rfl) (preRO hK hS hAb hP) (rcv_8 hK hP (q0 := (0)) (xp_0 cA ax s)) rfl hl rfl (Nat.le_of_ble_eq_true rfl) (dd D_X8_meets 2 rfl) ⟨Nat.le_of_ble_eq_true rfl, Nat.le_of_ble_eq_true rfl⟩) rfl ?_
  refine x_bif_eq (tgt := 25) F.1 F.2.1 (dd D_X8_meets 3 rfl) rfl h (fun c14 h => ?_) (fun c14 h => ?_)
  · refine lv_aload_n F.1 F.2.1 (dd D_X8_meets 12 rfl) rfl (lv_at hl 0 rfl) ?_
    refine lv_bipush (v := (-2 : Int32)) F.1 F.2.1 (dd D_X8_meets 13 rfl) kb_m2 ?_
    obtain ⟨r1, e2, h⟩ := Option.bind_eq_some_iff.mp h
    refine rwe_all (st' := [.int r1.1]) hD hS hA (rV (rest := []) F (c_X8_refuse D cA ax s n (-2 : Int32) r1 e2 l H.size) lk_X8_64 (Nat.le_of_ble_eq_true rfl) (preRW hK hS hAb hP hD) (rcv_8 hK hP (q0 := (0)) (xp_0 cA ax s)) rfl hl rfl (Nat.le_of_ble_eq_true rfl) (dd D_X8_meets 14 rfl) ⟨Nat.le_of_ble_eq_true rfl, Nat.le_of_ble_eq_true rfl⟩) rfl (fun H locs hP hD hS => ?_)
    obtain rfl := Option.some.inj h
    exact rw_i (R := rmOf 6 1 5) F hP hD hS hr hlk ⟨Nat.le_of_ble_eq_true rfl, Nat.le_of_ble_eq_true rfl⟩ ⟨rfl, rfl⟩ (dd D_X8_meets 15 rfl)
  · refine lv_iload_n F.1 F.2.1 (dd D_X8_meets 4 rfl) rfl (lv_at hl 2 rfl) ?_
    refine ro_go (st' := [.int (bI (F_X8_isDay p2))]) (rS (rest := []) F (c_X8_isDay D cA p2 l) lk_X8_113 (Nat.le_of_ble_eq_true rfl) (preRO hK hS hAb (emP)) rfl hl rfl (Nat.le_of_ble_eq_true rfl) (dd D_X8_meets 5 rfl) ⟨Nat.le_of_ble_eq_true rfl, Nat.le_of_ble_eq_true rfl⟩) rfl ?_
    refine x_bif_eq (tgt := 25) F.1 F.2.1 (dd D_X8_meets 6 rfl) rfl h (fun c13 h => ?_) (fun c13 h => ?_)
    · refine lv_aload_n F.1 F.2.1 (dd D_X8_meets 12 rfl) rfl (lv_at hl 0 rfl) ?_
      refine lv_bipush (v := (-2 : Int32)) F.1 F.2.1 (dd D_X8_meets 13 rfl) kb_m2 ?_
      obtain ⟨r3, e4, h⟩ := Option.bind_eq_some_iff.mp h
      refine rwe_all (st' := [.int r3.1]) hD hS hA (rV (rest := []) F (c_X8_refuse D cA ax s n (-2 : Int32) r3 e4 l H.size) lk_X8_64 (Nat.le_of_ble_eq_true rfl) (preRW hK hS hAb hP hD) (rcv_8 hK hP (q0 := (0)) (xp_0 cA ax s)) rfl hl rfl (Nat.le_of_ble_eq_true rfl) (dd D_X8_meets 14 rfl) ⟨Nat.le_of_ble_eq_true rfl, Nat.le_of_ble_eq_true rfl⟩) rfl (fun H locs hP hD hS => ?_)
      obtain rfl := Option.some.inj h
      exact rw_i (R := rmOf 6 1 5) F hP hD hS hr hlk ⟨Nat.le_of_ble_eq_true rfl, Nat.le_of_ble_eq_true rfl⟩ ⟨rfl, rfl⟩ (dd D_X8_meets 15 rfl)
    · refine lv_iload_n F.1 F.2.1 (dd D_X8_meets 7 rfl) rfl (lv_at hl 3 rfl) ?_
      refine lv_iconst (v := (0 : Int32)) F.1 F.2.1 (dd D_X8_meets 8 rfl) ki_0 ?_
      refine lv_bipush (v := (20 : Int32)) F.1 F.2.1 (dd D_X8_meets 9 rfl) kb_20 ?_
      refine ro_go (st' := [.int (bI (F_X8_isIn p3 (0 : Int32) (20 : Int32)))]) (rS (rest := []) F (c_X8_isIn D cA p3 (0 : Int32) (20 : Int32) l) lk_X8_60 (Nat.le_of_ble_eq_true rfl) (preRO hK hS hAb (emP)) rfl hl rfl (Nat.le_of_ble_eq_true rfl) (dd D_X8_meets 10 rfl) ⟨Nat.le_of_ble_eq_true rfl, Nat.le_of_ble_eq_true rfl⟩) rfl ?_
      refine x_bif_ne (tgt := 32) F.1 F.2.1 (dd D_X8_meets 11 rfl) rfl h (fun c12 h => ?_) (fun c12 h => ?_)
      · refine lv_aload_n F.1 F.2.1 (dd D_X8_meets 16 rfl) rfl (lv_at hl 0 rfl) ?_
        refine getF F hK hP lf_X8_10 (0) (xp_0 cA ax s) rfl (dd D_X8_meets 17 rfl) ?_
        refine getF F hK hP lf_X8_163 (1) (xp_1 cA ax s) rfl (dd D_X8_meets 18 rfl) ?_
        refine lv_iload_n F.1 F.2.1 (dd D_X8_meets 19 rfl) rfl (lv_at hl 1 rfl) ?_
        obtain ⟨r5, e6, h⟩ := Option.bind_eq_some_iff.mp h
        refine ro_go (st' := [.int r5]) (rV (rest := []) F (c_X0_at D cA 6 (fun i => ax (10+i)) (st_stones (x_now s)) n p1 r5 e6 l) lk_X8_205 (Nat.le_of_ble_eq_true rfl) (preRO hK hS hAb (pg_x_10 hP)) (rcv_0 hK hP (q0 := (10)) (xp_10 cA ax s)) rfl hl rfl (Nat.le_of_ble_eq_true rfl) (dd D_X8_meets 20 rfl) ⟨Nat.le_of_ble_eq_true rfl, Nat.le_of_ble_eq_true rfl⟩) rfl ?_
        refine lv_istore (lv' := [(4, .int r5), (0, .ref (ax 0)), (1, .int p1), (2, .int p2), (3, .int p3)]) F.1 F.2.1 (dd D_X8_meets 21 rfl) hl (Nat.le_of_ble_eq_true rfl) rfl (fun ls hl => ?_)
        refine lv_aload_n F.1 F.2.1 (dd D_X8_meets 22 rfl) rfl (lv_at hl 1 rfl) ?_
        refine getF F hK hP lf_X8_27 (0) (xp_0 cA ax s) rfl (dd D_X8_meets 23 rfl) ?_
        refine lv_iload_n F.1 F.2.1 (dd D_X8_meets 24 rfl) rfl (lv_at hl 3 rfl) ?_
        refine lv_sipush (v := (1000 : Int32)) F.1 F.2.1 (dd D_X8_meets 25 rfl) ks_1000 ?_
        refine lv_iconst (v := (0 : Int32)) F.1 F.2.1 (dd D_X8_meets 26 rfl) ki_0 ?_
        refine newO F hK hP hD hS hA ln_X8_132 (Nat.le_of_ble_eq_true rfl) (Nat.le_of_ble_eq_true rfl) (dd D_X8_meets 27 rfl) (fun q7 H hP hD hS => ?_)
        refine lv_dup F.1 F.2.1 (dd D_X8_meets 28 rfl) rfl ?_
        refine lv_bipush (v := (6 : Int32)) F.1 F.2.1 (dd D_X8_meets 29 rfl) kb_6 ?_
        refine lv_iload F.1 F.2.1 (dd D_X8_meets 30 rfl) (lv_at hl 0 rfl) ?_
        refine lv_iload_n F.1 F.2.1 (dd D_X8_meets 31 rfl) rfl (lv_at hl 4 rfl) ?_
        refine lv_isub F.1 F.2.1 (dd D_X8_meets 32 rfl) ?_
        refine lv_iload F.1 F.2.1 (dd D_X8_meets 33 rfl) (lv_at hl 0 rfl) ?_
        refine lv_iload_n F.1 F.2.1 (dd D_X8_meets 34 rfl) rfl (lv_at hl 4 rfl) ?_
        refine lv_iadd F.1 F.2.1 (dd D_X8_meets 35 rfl) ?_
        refine lv_iconst (v := (0 : Int32)) F.1 F.2.1 (dd D_X8_meets 36 rfl) ki_0 ?_
        refine rwe (V := none) (wc := [(q7, .inr (4, [.int (0 : Int32), .int (0 : Int32), .int (0 : Int32), .int (0 : Int32), .null]))]) (wc' := [(q7, .inr (4, [.int (6 : Int32), .int (r5 - p3), .int (r5 + p3), .int (0 : Int32), .null]))]) (st' := [.ref (q7), .int (0 : Int32), .int (1000 : Int32), .int p2, .ref (ax 40)]) (W' := (xW cA ax s) ++ [(q7, .inr (4, [.int (6 : Int32), .int (r5 - p3), .int (r5 + p3), .int (0 : Int32), .null]))]) hP hD hS hA [63] (jc_last (xp_len cA ax s)) (Nat_nd rfl) rfl (rI (rest := [.ref (q7), .int (0 : Int32), .int (1000 : Int32), .int p2, .ref (ax 40)]) F (c_X4_init__ D cA q7 (6 : Int32) (r5 - p3) (r5 + p3) (0 : Int32) l H.size) lk_X8_263 (Nat.le_of_ble_eq_true rfl) (preRW hK hS hAb (selP hP (jc_last (xp_len cA ax s))) (selD hD (Nat_nd rfl) (jc_last (xp_len cA ax s)))) rfl hl rfl (Nat.le_of_ble_eq_true rfl) (dd D_X8_meets 37 rfl) ⟨Nat.le_of_ble_eq_true rfl, Nat.le_of_ble_eq_true rfl⟩) (js_last (xp_len cA ax s)) rfl (fun H locs hP hD hS => ?_)
        obtain ⟨r8, e9, h⟩ := Option.bind_eq_some_iff.mp h
        refine ro_go (st' := [.int r8]) (rV (rest := []) F (c_X2_pick D cA ax s q7 (6 : Int32) (r5 - p3) (r5 + p3) (0 : Int32) none n p2 (1000 : Int32) (0 : Int32) r8 e9 l) lk_X8_256 (Nat.le_of_ble_eq_true rfl) (preRO hK hS hAb hP) (rcv_2 hK hP (q0 := (40)) (gL (xp_40 cA ax s))) rfl hl rfl (Nat.le_of_ble_eq_true rfl) (dd D_X8_meets 38 rfl) ⟨Nat.le_of_ble_eq_true rfl, Nat.le_of_ble_eq_true rfl⟩) rfl ?_
        have hP := preP hP
        have hD := preD hD
        obtain rfl := Option.some.inj h
        exact rw_i (R := rmOf 6 1 5) F hP hD hS hr hlk ⟨Nat.le_of_ble_eq_true rfl, Nat.le_of_ble_eq_true rfl⟩ ⟨rfl, rfl⟩ (dd D_X8_meets 39 rfl)
      · refine lv_aload_n F.1 F.2.1 (dd D_X8_meets 12 rfl) rfl (lv_at hl 0 rfl) ?_
        refine lv_bipush (v := (-2 : Int32)) F.1 F.2.1 (dd D_X8_meets 13 rfl) kb_m2 ?_
        obtain ⟨r10, e11, h⟩ := Option.bind_eq_some_iff.mp h
        refine rwe_all (st' := [.int r10.1]) hD hS hA (rV (rest := []) F (c_X8_refuse D cA ax s n (-2 : Int32) r10 e11 l H.size) lk_X8_64 (Nat.le_of_ble_eq_true rfl) (preRW hK hS hAb hP hD) (rcv_8 hK hP (q0 := (0)) (xp_0 cA ax s)) rfl hl rfl (Nat.le_of_ble_eq_true rfl) (dd D_X8_meets 14 rfl) ⟨Nat.le_of_ble_eq_true rfl, Nat.le_of_ble_eq_true rfl⟩) rfl (fun H locs hP hD hS => ?_)
        obtain rfl := Option.some.inj h
        exact rw_i (R := rmOf 6 1 5) F hP hD hS hr hlk ⟨Nat.le_of_ble_eq_true rfl, Nat.le_of_ble_eq_true rfl⟩ ⟨rfl, rfl⟩ (dd D_X8_meets 15 rfl)
def F_X8_place (n : Nat) (s : XS) (p1 : Int32) (p2 : Int32) (p3 : Int32) : Option (Int32 × XS) := bf (F_X8_isDay p1) (bf (F_X8_isIn p2 (1 : Int32) (40 : Int32)) (bf (F_X8_isIn p3 (0 : Int32) (20 : Int32)) ((((F_X3_gather n s p1 p2)).bind fun r5 => (((F_X3_fullest n r5 p3)).bind fun r7 => some (r7, r5)))) ((((F_X8_refuse n s (-2 : Int32))).bind fun r9 => some (r9.1, r9.2)))) ((((F_X8_refuse n s (-2 : Int32))).bind fun r3 => some (r3.1, r3.2)))) ((((F_X8_refuse n s (-2 : Int32))).bind fun r1 => some (r1.1, r1.2)))
set_option maxHeartbeats 4000000 in
set_option maxRecDepth 100000 in
theorem c_X8_place (D : va_G) (cA : Nat → ClassId) (ax : Nat → Nat) (s : XS) (n : Nat) (p1 : Int32) (p2 : Int32) (p3 : Int32) (r : (Int32 × XS)) (h : F_X8_place n s p1 p2 p3 = some r) : RW m_X8_place 5 0 0 D cA [.ref (ax 0), .int p1, .int p2, .int p3] (xW cA ax s) (exq (some (.int r.1)) (xW cA ax r.2)) := by
  refine RW.ofW gy_X8_place.2.2 (Nat.le_of_ble_eq_true rfl) ?_
  intro l p e sM m below meth c A H locs F hr hlk hnm hK hP hD hS hA hAb ls hl
  have hl : lv_has ls 4 [(0, .ref (ax 0)), (1, .int p1), (2, .int p2), (3, .int p3)] := hl
  unfold F_X8_place at h
  refine lv_iload_n F.1 F.2.1 (dd D_X8_place 0 rfl) rfl (lv_at hl 1 rfl) ?_
  refine ro_go (st' := [.int (bI (F_X8_isDay p1))]) (rS (rest := []) F (c_X8_isDay D cA p1 l) lk_X8_113 (Nat.le_of_ble_eq_true rfl) (preRO hK hS hAb (emP)) rfl hl rfl (Nat.le_of_ble_eq_true rfl) (dd D_X8_place 1 rfl) ⟨Nat.le_of_ble_eq_true rfl, Nat.le_of_ble_eq_true rfl⟩) rfl ?_
  refine x_bif_eq (tgt := 27) F.1 F.2.1 (dd D_X8_place 2 rfl) rfl h (fun c13 h => ?_) (fun c13 h => ?_)
  · refine lv_aload_n F.1 F.2.1 (dd D_X8_place 13 rfl) rfl (lv_at hl 0 rfl) ?_
    refine lv_bipush (v := (-2 : Int32)) F.1 F.2.1 (dd D_X8_place 14 rfl) kb_m2 ?_
    obtain ⟨r1, e2, h⟩ := Option.bind_eq_some_iff.mp h
    refine rwe_all (st' := [.int r1.1]) hD hS hA (rV (rest := []) F (c_X8_refuse D cA ax s n (-2 : Int32) r1 e2 l H.size) lk_X8_64 (Nat.le_of_ble_eq_true rfl) (preRW hK hS hAb hP hD) (rcv_8 hK hP (q0 := (0)) (xp_0 cA ax s)) rfl hl rfl (Nat.le_of_ble_eq_true rfl) (dd D_X8_place 15 rfl) ⟨Nat.le_of_ble_eq_true rfl, Nat.le_of_ble_eq_true rfl⟩) rfl (fun H locs hP hD hS => ?_)
    obtain rfl := Option.some.inj h
    exact rw_i (R := rmOf 5 0 0) F hP hD hS hr hlk ⟨Nat.le_of_ble_eq_true rfl, Nat.le_of_ble_eq_true rfl⟩ ⟨rfl, rfl⟩ (dd D_X8_place 16 rfl)
  · refine lv_iload_n F.1 F.2.1 (dd D_X8_place 3 rfl) rfl (lv_at hl 2 rfl) ?_
    refine lv_iconst (v := (1 : Int32)) F.1 F.2.1 (dd D_X8_place 4 rfl) ki_1 ?_
    refine lv_bipush (v := (40 : Int32)) F.1 F.2.1 (dd D_X8_place 5 rfl) kb_40 ?_
    refine ro_go (st' := [.int (bI (F_X8_isIn p2 (1 : Int32) (40 : Int32)))]) (rS (rest := []) F (c_X8_isIn D cA p2 (1 : Int32) (40 : Int32) l) lk_X8_60 (Nat.le_of_ble_eq_true rfl) (preRO hK hS hAb (emP)) rfl hl rfl (Nat.le_of_ble_eq_true rfl) (dd D_X8_place 6 rfl) ⟨Nat.le_of_ble_eq_true rfl, Nat.le_of_ble_eq_true rfl⟩) rfl ?_
    refine x_bif_eq (tgt := 27) F.1 F.2.1 (dd D_X8_place 7 rfl) rfl h (fun c12 h => ?_) (fun c12 h => ?_)
    · refine lv_aload_n F.1 F.2.1 (dd D_X8_place 13 rfl) rfl (lv_at hl 0 rfl) ?_
      refine lv_bipush (v := (-2 : Int32)) F.1 F.2.1 (dd D_X8_place 14 rfl) kb_m2 ?_
      obtain ⟨r3, e4, h⟩ := Option.bind_eq_some_iff.mp h
      refine rwe_all (st' := [.int r3.1]) hD hS hA (rV (rest := []) F (c_X8_refuse D cA ax s n (-2 : Int32) r3 e4 l H.size) lk_X8_64 (Nat.le_of_ble_eq_true rfl) (preRW hK hS hAb hP hD) (rcv_8 hK hP (q0 := (0)) (xp_0 cA ax s)) rfl hl rfl (Nat.le_of_ble_eq_true rfl) (dd D_X8_place 15 rfl) ⟨Nat.le_of_ble_eq_true rfl, Nat.le_of_ble_eq_true rfl⟩) rfl (fun H locs hP hD hS => ?_)
      obtain rfl := Option.some.inj h
      exact rw_i (R := rmOf 5 0 0) F hP hD hS hr hlk ⟨Nat.le_of_ble_eq_true rfl, Nat.le_of_ble_eq_true rfl⟩ ⟨rfl, rfl⟩ (dd D_X8_place 16 rfl)
    · refine lv_iload_n F.1 F.2.1 (dd D_X8_place 8 rfl) rfl (lv_at hl 3 rfl) ?_
      refine lv_iconst (v := (0 : Int32)) F.1 F.2.1 (dd D_X8_place 9 rfl) ki_0 ?_
      refine lv_bipush (v := (20 : Int32)) F.1 F.2.1 (dd D_X8_place 10 rfl) kb_20 ?_
      refine ro_go (st' := [.int (bI (F_X8_isIn p3 (0 : Int32) (20 : Int32)))]) (rS (rest := []) F (c_X8_isIn D cA p3 (0 : Int32) (20 : Int32) l) lk_X8_60 (Nat.le_of_ble_eq_true rfl) (preRO hK hS hAb (emP)) rfl hl rfl (Nat.le_of_ble_eq_true rfl) (dd D_X8_place 11 rfl) ⟨Nat.le_of_ble_eq_true rfl, Nat.le_of_ble_eq_true rfl⟩) rfl ?_
      refine x_bif_ne (tgt := 34) F.1 F.2.1 (dd D_X8_place 12 rfl) rfl h (fun c11 h => ?_) (fun c11 h => ?_)
      · refine lv_aload_n F.1 F.2.1 (dd D_X8_place 17 rfl) rfl (lv_at hl 0 rfl) ?_
        refine getF F hK hP lf_X8_41 (0) (xp_0 cA ax s) rfl (dd D_X8_place 18 rfl) ?_
        refine lv_aload_n F.1 F.2.1 (dd D_X8_place 19 rfl) rfl (lv_at hl 0 rfl) ?_
        refine getF F hK hP lf_X8_27 (0) (xp_0 cA ax s) rfl (dd D_X8_place 20 rfl) ?_
        refine lv_iload_n F.1 F.2.1 (dd D_X8_place 21 rfl) rfl (lv_at hl 1 rfl) ?_
        refine lv_iload_n F.1 F.2.1 (dd D_X8_place 22 rfl) rfl (lv_at hl 2 rfl) ?_
        obtain ⟨r5, e6, h⟩ := Option.bind_eq_some_iff.mp h
        refine rwe_all (st' := []) hD hS hA (rV (rest := []) F (c_X3_gather D cA ax s n p1 p2 r5 e6 l H.size) lk_X8_322 (Nat.le_of_ble_eq_true rfl) (preRW hK hS hAb hP hD) (rcv_3 hK hP (q0 := (43)) (xp_43 cA ax s)) rfl hl rfl (Nat.le_of_ble_eq_true rfl) (dd D_X8_place 23 rfl) ⟨Nat.le_of_ble_eq_true rfl, Nat.le_of_ble_eq_true rfl⟩) rfl (fun H locs hP hD hS => ?_)
        refine lv_aload_n F.1 F.2.1 (dd D_X8_place 24 rfl) rfl (lv_at hl 0 rfl) ?_
        refine getF F hK hP lf_X8_41 (0) (xp_0 cA ax r5) rfl (dd D_X8_place 25 rfl) ?_
        refine lv_iload_n F.1 F.2.1 (dd D_X8_place 26 rfl) rfl (lv_at hl 3 rfl) ?_
        obtain ⟨r7, e8, h⟩ := Option.bind_eq_some_iff.mp h
        refine ro_go (st' := [.int r7]) (rV (rest := []) F (c_X3_fullest D cA ax r5 n p3 r7 e8 l) lk_X8_332 (Nat.le_of_ble_eq_true rfl) (preRO hK hS hAb hP) (rcv_3 hK hP (q0 := (43)) (xp_43 cA ax r5)) rfl hl rfl (Nat.le_of_ble_eq_true rfl) (dd D_X8_place 27 rfl) ⟨Nat.le_of_ble_eq_true rfl, Nat.le_of_ble_eq_true rfl⟩) rfl ?_
        obtain rfl := Option.some.inj h
        exact rw_i (R := rmOf 5 0 0) F hP hD hS hr hlk ⟨Nat.le_of_ble_eq_true rfl, Nat.le_of_ble_eq_true rfl⟩ ⟨rfl, rfl⟩ (dd D_X8_place 28 rfl)
      · refine lv_aload_n F.1 F.2.1 (dd D_X8_place 13 rfl) rfl (lv_at hl 0 rfl) ?_
        refine lv_bipush (v := (-2 : Int32)) F.1 F.2.1 (dd D_X8_place 14 rfl) kb_m2 ?_
        obtain ⟨r9, e10, h⟩ := Option.bind_eq_some_iff.mp h
        refine rwe_all (st' := [.int r9.1]) hD hS hA (rV (rest := []) F (c_X8_refuse D cA ax s n (-2 : Int32) r9 e10 l H.size) lk_X8_64 (Nat.le_of_ble_eq_true rfl) (preRW hK hS hAb hP hD) (rcv_8 hK hP (q0 := (0)) (xp_0 cA ax s)) rfl hl rfl (Nat.le_of_ble_eq_true rfl) (dd D_X8_place 15 rfl) ⟨Nat.le_of_ble_eq_true rfl, Nat.le_of_ble_eq_true rfl⟩) rfl (fun H locs hP hD hS => ?_)
        obtain rfl := Option.some.inj h
        exact rw_i (R := rmOf 5 0 0) F hP hD hS hr hlk ⟨Nat.le_of_ble_eq_true rfl, Nat.le_of_ble_eq_true rfl⟩ ⟨rfl, rfl⟩ (dd D_X8_place 16 rfl)
def F_X8_meant (n : Nat) (s : XS) (p1 : Int32) (p2 : Int32) (p3 : Int32) : Option (Int32 × XS) := bf (F_X8_areDays p1 p2) (bf (F_X8_isIn p3 (0 : Int32) (20 : Int32)) ((if (1 : Int32) ≤ (F_X0_count 6 (st_stones (x_now s))) then (((F_X3_gather n s p1 p2)).bind fun r4 => (((F_X8_stonesThatHit n r4 p3)).bind fun r6 => gd (decide (¬ (F_X0_count 6 (st_stones (x_now s))) = 0)) ((((F_X3_degreesThatHit n r4 p3)).bind fun r9 => some (((((F_J6_bitCount_0f7a4 r6) * (1000 : Int32)) / (F_X0_count 6 (st_stones (x_now s)))) - ((r9 * (1000 : Int32)) / (180 : Int32))), r4))))) else (((F_X8_refuseFarBelow n s (-5 : Int32))).bind fun r11 => some (r11.1, r11.2)))) ((((F_X8_refuseFarBelow n s (-2 : Int32))).bind fun r13 => some (r13.1, r13.2)))) ((((F_X8_refuseFarBelow n s (-2 : Int32))).bind fun r1 => some (r1.1, r1.2)))
set_option maxHeartbeats 4000000 in
set_option maxRecDepth 100000 in
theorem c_X8_meant (D : va_G) (cA : Nat → ClassId) (ax : Nat → Nat) (s : XS) (n : Nat) (p1 : Int32) (p2 : Int32) (p3 : Int32) (r : (Int32 × XS)) (h : F_X8_meant n s p1 p2 p3 = some r) : RW m_X8_meant 5 0 0 D cA [.ref (ax 0), .int p1, .int p2, .int p3] (xW cA ax s) (exq (some (.int r.1)) (xW cA ax r.2)) := by
  refine RW.ofW gy_X8_meant.2.2 (Nat.le_of_ble_eq_true rfl) ?_
  intro l p e sM m below meth c A H locs F hr hlk hnm hK hP hD hS hA hAb ls hl
  have hl : lv_has ls 6 [(0, .ref (ax 0)), (1, .int p1), (2, .int p2), (3, .int p3)] := hl
  unfold F_X8_meant at h
  refine lv_iload_n F.1 F.2.1 (dd D_X8_meant 0 rfl) rfl (lv_at hl 1 rfl) ?_
  refine lv_iload_n F.1 F.2.1 (dd D_X8_meant 1 rfl) rfl (lv_at hl 2 rfl) ?_
  refine ro_go (st' := [.int (bI (F_X8_areDays p1 p2))]) (rS (rest := []) F (c_X8_areDays D cA p1 p2 l) lk_X8_260 (Nat.le_of_ble_eq_true rfl) (preRO hK hS hAb (emP)) rfl hl rfl (Nat.le_of_ble_eq_true rfl) (dd D_X8_meant 2 rfl) ⟨Nat.le_of_ble_eq_true rfl, Nat.le_of_ble_eq_true rfl⟩) rfl ?_
  refine x_bif_eq (tgt := 18) F.1 F.2.1 (dd D_X8_meant 3 rfl) rfl h (fun c16 h => ?_) (fun c16 h => ?_)
  · refine lv_aload_n F.1 F.2.1 (dd D_X8_meant 9 rfl) rfl (lv_at hl 0 rfl) ?_
    refine lv_bipush (v := (-2 : Int32)) F.1 F.2.1 (dd D_X8_meant 10 rfl) kb_m2 ?_
    obtain ⟨r1, e2, h⟩ := Option.bind_eq_some_iff.mp h
    refine rwe_all (st' := [.int r1.1]) hD hS hA (rV (rest := []) F (c_X8_refuseFarBelow D cA ax s n (-2 : Int32) r1 e2 l H.size) lk_X8_240 (Nat.le_of_ble_eq_true rfl) (preRW hK hS hAb hP hD) (rcv_8 hK hP (q0 := (0)) (xp_0 cA ax s)) rfl hl rfl (Nat.le_of_ble_eq_true rfl) (dd D_X8_meant 11 rfl) ⟨Nat.le_of_ble_eq_true rfl, Nat.le_of_ble_eq_true rfl⟩) rfl (fun H locs hP hD hS => ?_)
    obtain rfl := Option.some.inj h
    exact rw_i (R := rmOf 5 0 0) F hP hD hS hr hlk ⟨Nat.le_of_ble_eq_true rfl, Nat.le_of_ble_eq_true rfl⟩ ⟨rfl, rfl⟩ (dd D_X8_meant 12 rfl)
  · refine lv_iload_n F.1 F.2.1 (dd D_X8_meant 4 rfl) rfl (lv_at hl 3 rfl) ?_
    refine lv_iconst (v := (0 : Int32)) F.1 F.2.1 (dd D_X8_meant 5 rfl) ki_0 ?_
    refine lv_bipush (v := (20 : Int32)) F.1 F.2.1 (dd D_X8_meant 6 rfl) kb_20 ?_
    refine ro_go (st' := [.int (bI (F_X8_isIn p3 (0 : Int32) (20 : Int32)))]) (rS (rest := []) F (c_X8_isIn D cA p3 (0 : Int32) (20 : Int32) l) lk_X8_60 (Nat.le_of_ble_eq_true rfl) (preRO hK hS hAb (emP)) rfl hl rfl (Nat.le_of_ble_eq_true rfl) (dd D_X8_meant 7 rfl) ⟨Nat.le_of_ble_eq_true rfl, Nat.le_of_ble_eq_true rfl⟩) rfl ?_
    refine x_bif_ne (tgt := 25) F.1 F.2.1 (dd D_X8_meant 8 rfl) rfl h (fun c15 h => ?_) (fun c15 h => ?_)
    · refine lv_aload_n F.1 F.2.1 (dd D_X8_meant 13 rfl) rfl (lv_at hl 0 rfl) ?_
      refine getF F hK hP lf_X8_10 (0) (xp_0 cA ax s) rfl (dd D_X8_meant 14 rfl) ?_
      refine getF F hK hP lf_X8_163 (1) (xp_1 cA ax s) rfl (dd D_X8_meant 15 rfl) ?_
      refine ro_go (st' := [.int (F_X0_count 6 (st_stones (x_now s)))]) (rV (rest := []) F (c_X0_count D cA 6 (fun i => ax (10+i)) (st_stones (x_now s)) l) lk_X8_172 (Nat.le_of_ble_eq_true rfl) (preRO hK hS hAb (pg_x_10 hP)) (rcv_0 hK hP (q0 := (10)) (xp_10 cA ax s)) rfl hl rfl (Nat.le_of_ble_eq_true rfl) (dd D_X8_meant 16 rfl) ⟨Nat.le_of_ble_eq_true rfl, Nat.le_of_ble_eq_true rfl⟩) rfl ?_
      refine lv_istore (lv' := [(4, .int (F_X0_count 6 (st_stones (x_now s)))), (0, .ref (ax 0)), (1, .int p1), (2, .int p2), (3, .int p3)]) F.1 F.2.1 (dd D_X8_meant 17 rfl) hl (Nat.le_of_ble_eq_true rfl) rfl (fun ls hl => ?_)
      refine lv_iload F.1 F.2.1 (dd D_X8_meant 18 rfl) (lv_at hl 0 rfl) ?_
      refine lv_iconst (v := (1 : Int32)) F.1 F.2.1 (dd D_X8_meant 19 rfl) ki_1 ?_
      refine x_icmp_ge (tgt := 50) F.1 F.2.1 (dd D_X8_meant 20 rfl) rfl h (fun c3 h => ?_) (fun c3 h => ?_)
      · refine lv_aload_n F.1 F.2.1 (dd D_X8_meant 25 rfl) rfl (lv_at hl 1 rfl) ?_
        refine getF F hK hP lf_X8_41 (0) (xp_0 cA ax s) rfl (dd D_X8_meant 26 rfl) ?_
        refine lv_aload_n F.1 F.2.1 (dd D_X8_meant 27 rfl) rfl (lv_at hl 1 rfl) ?_
        refine getF F hK hP lf_X8_27 (0) (xp_0 cA ax s) rfl (dd D_X8_meant 28 rfl) ?_
        refine lv_iload_n F.1 F.2.1 (dd D_X8_meant 29 rfl) rfl (lv_at hl 2 rfl) ?_
        refine lv_iload_n F.1 F.2.1 (dd D_X8_meant 30 rfl) rfl (lv_at hl 3 rfl) ?_
        obtain ⟨r4, e5, h⟩ := Option.bind_eq_some_iff.mp h
        refine rwe_all (st' := []) hD hS hA (rV (rest := []) F (c_X3_gather D cA ax s n p1 p2 r4 e5 l H.size) lk_X8_322 (Nat.le_of_ble_eq_true rfl) (preRW hK hS hAb hP hD) (rcv_3 hK hP (q0 := (43)) (xp_43 cA ax s)) rfl hl rfl (Nat.le_of_ble_eq_true rfl) (dd D_X8_meant 31 rfl) ⟨Nat.le_of_ble_eq_true rfl, Nat.le_of_ble_eq_true rfl⟩) rfl (fun H locs hP hD hS => ?_)
        refine lv_aload_n F.1 F.2.1 (dd D_X8_meant 32 rfl) rfl (lv_at hl 1 rfl) ?_
        refine lv_iload_n F.1 F.2.1 (dd D_X8_meant 33 rfl) rfl (lv_at hl 4 rfl) ?_
        obtain ⟨r6, e7, h⟩ := Option.bind_eq_some_iff.mp h
        refine ro_go (st' := [.int r6]) (rV (rest := []) F (c_X8_stonesThatHit D cA ax r4 n p3 r6 e7 l) lk_X8_326 (Nat.le_of_ble_eq_true rfl) (preRO hK hS hAb hP) (rcv_8 hK hP (q0 := (0)) (xp_0 cA ax r4)) rfl hl rfl (Nat.le_of_ble_eq_true rfl) (dd D_X8_meant 34 rfl) ⟨Nat.le_of_ble_eq_true rfl, Nat.le_of_ble_eq_true rfl⟩) rfl ?_
        refine ro_go (st' := [.int (F_J6_bitCount_0f7a4 r6)]) (rS (rest := []) F (c_J6_bitCount_0f7a4 D cA r6 l) lk_X8_335 (Nat.le_of_ble_eq_true rfl) (preRO hK hS hAb (emP)) rfl hl rfl (Nat.le_of_ble_eq_true rfl) (dd D_X8_meant 35 rfl) ⟨Nat.le_of_ble_eq_true rfl, Nat.le_of_ble_eq_true rfl⟩) rfl ?_
        refine lv_istore (lv' := [(5, .int (F_J6_bitCount_0f7a4 r6)), (4, .int (F_X0_count 6 (st_stones (x_now s)))), (0, .ref (ax 0)), (1, .int p1), (2, .int p2), (3, .int p3)]) F.1 F.2.1 (dd D_X8_meant 36 rfl) hl (Nat.le_of_ble_eq_true rfl) rfl (fun ls hl => ?_)
        refine lv_iload F.1 F.2.1 (dd D_X8_meant 37 rfl) (lv_at hl 0 rfl) ?_
        refine lv_sipush (v := (1000 : Int32)) F.1 F.2.1 (dd D_X8_meant 38 rfl) ks_1000 ?_
        refine lv_imul F.1 F.2.1 (dd D_X8_meant 39 rfl) ?_
        refine lv_iload F.1 F.2.1 (dd D_X8_meant 40 rfl) (lv_at hl 1 rfl) ?_
        obtain ⟨z8, h⟩ := gd_some h
        refine lv_idiv F.1 F.2.1 (dd D_X8_meant 41 rfl) (of_decide_eq_true z8) ?_
        refine lv_aload_n F.1 F.2.1 (dd D_X8_meant 42 rfl) rfl (lv_at hl 2 rfl) ?_
        refine getF F hK hP lf_X8_41 (0) (xp_0 cA ax r4) rfl (dd D_X8_meant 43 rfl) ?_
        refine lv_iload_n F.1 F.2.1 (dd D_X8_meant 44 rfl) rfl (lv_at hl 5 rfl) ?_
        obtain ⟨r9, e10, h⟩ := Option.bind_eq_some_iff.mp h
        refine ro_go (st' := [.int r9, .int (((F_J6_bitCount_0f7a4 r6) * (1000 : Int32)) / (F_X0_count 6 (st_stones (x_now s))))]) (rV (rest := [.int (((F_J6_bitCount_0f7a4 r6) * (1000 : Int32)) / (F_X0_count 6 (st_stones (x_now s))))]) F (c_X3_degreesThatHit D cA ax r4 n p3 r9 e10 l) lk_X8_329 (Nat.le_of_ble_eq_true rfl) (preRO hK hS hAb hP) (rcv_3 hK hP (q0 := (43)) (xp_43 cA ax r4)) rfl hl rfl (Nat.le_of_ble_eq_true rfl) (dd D_X8_meant 45 rfl) ⟨Nat.le_of_ble_eq_true rfl, Nat.le_of_ble_eq_true rfl⟩) rfl ?_
        refine lv_sipush (v := (1000 : Int32)) F.1 F.2.1 (dd D_X8_meant 46 rfl) ks_1000 ?_
        refine lv_imul F.1 F.2.1 (dd D_X8_meant 47 rfl) ?_
        refine lv_sipush (v := (180 : Int32)) F.1 F.2.1 (dd D_X8_meant 48 rfl) ks_180 ?_
        refine lv_idiv F.1 F.2.1 (dd D_X8_meant 49 rfl) kd_180 ?_
        refine lv_isub F.1 F.2.1 (dd D_X8_meant 50 rfl) ?_
        obtain rfl := Option.some.inj h
        exact rw_i (R := rmOf 5 0 0) F hP hD hS hr hlk ⟨Nat.le_of_ble_eq_true rfl, Nat.le_of_ble_eq_true rfl⟩ ⟨rfl, rfl⟩ (dd D_X8_meant 51 rfl)
      · refine lv_aload_n F.1 F.2.1 (dd D_X8_meant 21 rfl) rfl (lv_at hl 1 rfl) ?_
        refine lv_bipush (v := (-5 : Int32)) F.1 F.2.1 (dd D_X8_meant 22 rfl) kb_m5 ?_
        obtain ⟨r11, e12, h⟩ := Option.bind_eq_some_iff.mp h
        refine rwe_all (st' := [.int r11.1]) hD hS hA (rV (rest := []) F (c_X8_refuseFarBelow D cA ax s n (-5 : Int32) r11 e12 l H.size) lk_X8_240 (Nat.le_of_ble_eq_true rfl) (preRW hK hS hAb hP hD) (rcv_8 hK hP (q0 := (0)) (xp_0 cA ax s)) rfl hl rfl (Nat.le_of_ble_eq_true rfl) (dd D_X8_meant 23 rfl) ⟨Nat.le_of_ble_eq_true rfl, Nat.le_of_ble_eq_true rfl⟩) rfl (fun H locs hP hD hS => ?_)
        obtain rfl := Option.some.inj h
        exact rw_i (R := rmOf 5 0 0) F hP hD hS hr hlk ⟨Nat.le_of_ble_eq_true rfl, Nat.le_of_ble_eq_true rfl⟩ ⟨rfl, rfl⟩ (dd D_X8_meant 24 rfl)
    · refine lv_aload_n F.1 F.2.1 (dd D_X8_meant 9 rfl) rfl (lv_at hl 0 rfl) ?_
      refine lv_bipush (v := (-2 : Int32)) F.1 F.2.1 (dd D_X8_meant 10 rfl) kb_m2 ?_
      obtain ⟨r13, e14, h⟩ := Option.bind_eq_some_iff.mp h
      refine rwe_all (st' := [.int r13.1]) hD hS hA (rV (rest := []) F (c_X8_refuseFarBelow D cA ax s n (-2 : Int32) r13 e14 l H.size) lk_X8_240 (Nat.le_of_ble_eq_true rfl) (preRW hK hS hAb hP hD) (rcv_8 hK hP (q0 := (0)) (xp_0 cA ax s)) rfl hl rfl (Nat.le_of_ble_eq_true rfl) (dd D_X8_meant 11 rfl) ⟨Nat.le_of_ble_eq_true rfl, Nat.le_of_ble_eq_true rfl⟩) rfl (fun H locs hP hD hS => ?_)
      obtain rfl := Option.some.inj h
      exact rw_i (R := rmOf 5 0 0) F hP hD hS hr hlk ⟨Nat.le_of_ble_eq_true rfl, Nat.le_of_ble_eq_true rfl⟩ ⟨rfl, rfl⟩ (dd D_X8_meant 12 rfl)
