def F_X8_shelfAt (n : Nat) (s : XS) (p1 : Int32) : Option (Option Nat) := (if p1 < 0 then some (none) else (if (8 : Int32) ≤ p1 then some (none) else gd (inb p1 8) (some (some (Int32.toNatClampNeg p1)))))
set_option maxHeartbeats 4000000 in
set_option maxRecDepth 100000 in
theorem c_X8_shelfAt (D : va_G) (cA : Nat → ClassId) (ax : Nat → Nat) (s : XS) (n : Nat) (p1 : Int32) (r : (Option Nat)) (h : F_X8_shelfAt n s p1 = some r) : RO m_X8_shelfAt 0 D cA [.ref (ax 0), .int p1] (xW cA ax s) (some (va_rf (Option.map (fun j => ax (46+2*j)) r))) := by
  refine RO.ofW gy_X8_shelfAt.2.2 (Nat.le_of_ble_eq_true rfl) ?_
  intro l p e sM m below meth c F hr hlk hK hP hS hAb ls hl
  have hl : lv_has ls 2 [(0, .ref (ax 0)), (1, .int p1)] := hl
  unfold F_X8_shelfAt at h
  refine lv_iload_n F.1 F.2.1 (dd D_X8_shelfAt 0 rfl) rfl (lv_at hl 1 rfl) ?_
  refine x_if_lt (tgt := 22) F.1 F.2.1 (dd D_X8_shelfAt 1 rfl) rfl h (fun c1 h => ?_) (fun c1 h => ?_)
  · refine lv_null F.1 F.2.1 (dd D_X8_shelfAt 12 rfl) ?_
    exact ro_a (R := rmOf 0 0 0) F hr (Or.inl ⟨_, rfl⟩) (Or.inl rfl) hlk (congrArg (Option.map fun z => va_rf (Option.map (fun j => ax (46+2*j)) z)) h) (dd D_X8_shelfAt 13 rfl)
  · refine lv_iload_n F.1 F.2.1 (dd D_X8_shelfAt 2 rfl) rfl (lv_at hl 1 rfl) ?_
    refine lv_aload_n F.1 F.2.1 (dd D_X8_shelfAt 3 rfl) rfl (lv_at hl 0 rfl) ?_
    refine getF F hK hP lf_X8_47 (0) (xp_0 cA ax s) rfl (dd D_X8_shelfAt 4 rfl) ?_
    refine alen F hK hP (45) 3 (xp_45 cA ax s) rfl (v := (8 : Int32)) kn_8 (dd D_X8_shelfAt 5 rfl) ?_
    refine x_icmp_ge (tgt := 22) F.1 F.2.1 (dd D_X8_shelfAt 6 rfl) rfl h (fun c2 h => ?_) (fun c2 h => ?_)
    · refine lv_null F.1 F.2.1 (dd D_X8_shelfAt 12 rfl) ?_
      exact ro_a (R := rmOf 0 0 0) F hr (Or.inl ⟨_, rfl⟩) (Or.inl rfl) hlk (congrArg (Option.map fun z => va_rf (Option.map (fun j => ax (46+2*j)) z)) h) (dd D_X8_shelfAt 13 rfl)
    · refine lv_aload_n F.1 F.2.1 (dd D_X8_shelfAt 7 rfl) rfl (lv_at hl 0 rfl) ?_
      refine getF F hK hP lf_X8_47 (0) (xp_0 cA ax s) rfl (dd D_X8_shelfAt 8 rfl) ?_
      refine lv_iload_n F.1 F.2.1 (dd D_X8_shelfAt 9 rfl) rfl (lv_at hl 1 rfl) ?_
      refine aldS (g := fun j => ax (46+2*j)) F hK hP (45) (xp_45 cA ax s) 3 rfl (fun _ => rfl) h (dd D_X8_shelfAt 10 rfl) (fun z3 h => ?_)
      have hk4 : (Int32.toNatClampNeg p1) < 8 := inb_lt z3
      refine lv_goto (tgt := 23) F.1 F.2.1 (dd D_X8_shelfAt 11 rfl) rfl ?_
      exact ro_a (R := rmOf 0 0 0) F hr (Or.inl ⟨_, rfl⟩) (Or.inr ⟨_, rfl⟩) hlk (congrArg (Option.map fun z => va_rf (Option.map (fun j => ax (46+2*j)) z)) h) (dd D_X8_shelfAt 13 rfl)
def F_X8_refuse (n : Nat) (s : XS) (p1 : Int32) : Option (Int32 × XS) := (if ((-2 : Int32) - p1) < 0 then some (p1, s) else (if (5 : Int32) ≤ ((-2 : Int32) - p1) then some (p1, s) else gd (inb ((-2 : Int32) - p1) 5) (gd (inb ((-2 : Int32) - p1) 5) (some (p1, (x_set_ref s (upd (x_ref s) (Int32.toNatClampNeg ((-2 : Int32) - p1)) (((x_ref s) (Int32.toNatClampNeg ((-2 : Int32) - p1))) + (1 : Int32)))))))))
set_option maxHeartbeats 4000000 in
set_option maxRecDepth 100000 in
theorem c_X8_refuse (D : va_G) (cA : Nat → ClassId) (ax : Nat → Nat) (s : XS) (n : Nat) (p1 : Int32) (r : (Int32 × XS)) (h : F_X8_refuse n s p1 = some r) : RW m_X8_refuse 0 0 0 D cA [.ref (ax 0), .int p1] (xW cA ax s) (exq (some (.int r.1)) (xW cA ax r.2)) := by
  refine RW.ofW gy_X8_refuse.2.2 (Nat.le_of_ble_eq_true rfl) ?_
  intro l p e sM m below meth c A H locs F hr hlk hnm hK hP hD hS hA hAb ls hl
  have hl : lv_has ls 3 [(0, .ref (ax 0)), (1, .int p1)] := hl
  unfold F_X8_refuse at h
  refine lv_bipush (v := (-2 : Int32)) F.1 F.2.1 (dd D_X8_refuse 0 rfl) kb_m2 ?_
  refine lv_iload_n F.1 F.2.1 (dd D_X8_refuse 1 rfl) rfl (lv_at hl 1 rfl) ?_
  refine lv_isub F.1 F.2.1 (dd D_X8_refuse 2 rfl) ?_
  refine lv_istore_n (lv' := [(2, .int ((-2 : Int32) - p1)), (0, .ref (ax 0)), (1, .int p1)]) F.1 F.2.1 (dd D_X8_refuse 3 rfl) rfl hl (Nat.le_of_ble_eq_true rfl) rfl (fun ls hl => ?_)
  refine lv_iload_n F.1 F.2.1 (dd D_X8_refuse 4 rfl) rfl (lv_at hl 0 rfl) ?_
  refine x_if_lt (tgt := 28) F.1 F.2.1 (dd D_X8_refuse 5 rfl) rfl h (fun c1 h => ?_) (fun c1 h => ?_)
  · refine lv_iload_n F.1 F.2.1 (dd D_X8_refuse 19 rfl) rfl (lv_at hl 2 rfl) ?_
    obtain rfl := Option.some.inj h
    exact rw_i (R := rmOf 0 0 0) F hP hD hS hr hlk ⟨Nat.le_of_ble_eq_true rfl, Nat.le_of_ble_eq_true rfl⟩ ⟨rfl, rfl⟩ (dd D_X8_refuse 20 rfl)
  · refine lv_iload_n F.1 F.2.1 (dd D_X8_refuse 6 rfl) rfl (lv_at hl 0 rfl) ?_
    refine lv_aload_n F.1 F.2.1 (dd D_X8_refuse 7 rfl) rfl (lv_at hl 1 rfl) ?_
    refine getF F hK hP lf_X8_51 (0) (xp_0 cA ax s) rfl (dd D_X8_refuse 8 rfl) ?_
    refine alen F hK hP (62) 0 (xp_62 cA ax s) rfl (v := (5 : Int32)) kn_5 (dd D_X8_refuse 9 rfl) ?_
    refine x_icmp_ge (tgt := 28) F.1 F.2.1 (dd D_X8_refuse 10 rfl) rfl h (fun c2 h => ?_) (fun c2 h => ?_)
    · refine lv_iload_n F.1 F.2.1 (dd D_X8_refuse 19 rfl) rfl (lv_at hl 2 rfl) ?_
      obtain rfl := Option.some.inj h
      exact rw_i (R := rmOf 0 0 0) F hP hD hS hr hlk ⟨Nat.le_of_ble_eq_true rfl, Nat.le_of_ble_eq_true rfl⟩ ⟨rfl, rfl⟩ (dd D_X8_refuse 20 rfl)
    · refine lv_aload_n F.1 F.2.1 (dd D_X8_refuse 11 rfl) rfl (lv_at hl 1 rfl) ?_
      refine getF F hK hP lf_X8_51 (0) (xp_0 cA ax s) rfl (dd D_X8_refuse 12 rfl) ?_
      refine lv_iload_n F.1 F.2.1 (dd D_X8_refuse 13 rfl) rfl (lv_at hl 0 rfl) ?_
      refine lv_dup2_11 F.1 F.2.1 (dd D_X8_refuse 14 rfl) rfl rfl ?_
      refine aldI F hK hP (62) (xp_62 cA ax s) h (dd D_X8_refuse 15 rfl) (fun z3 h => ?_)
      refine lv_iconst (v := (1 : Int32)) F.1 F.2.1 (dd D_X8_refuse 16 rfl) ki_1 ?_
      refine lv_iadd F.1 F.2.1 (dd D_X8_refuse 17 rfl) ?_
      refine astI F hK hP hD hS (62) (xp_62 cA ax s) h (ws' := (xW cA ax (x_set_ref s (upd (x_ref s) (Int32.toNatClampNeg ((-2 : Int32) - p1)) (((x_ref s) (Int32.toNatClampNeg ((-2 : Int32) - p1))) + (1 : Int32)))))) (xs_62 cA ax s (upd (x_ref s) (Int32.toNatClampNeg ((-2 : Int32) - p1)) (((x_ref s) (Int32.toNatClampNeg ((-2 : Int32) - p1))) + (1 : Int32)))) (dd D_X8_refuse 18 rfl) (fun z4 h H locs hP hD hS => ?_)
      refine lv_iload_n F.1 F.2.1 (dd D_X8_refuse 19 rfl) rfl (lv_at hl 2 rfl) ?_
      obtain rfl := Option.some.inj h
      exact rw_i (R := rmOf 0 0 0) F hP hD hS hr hlk ⟨Nat.le_of_ble_eq_true rfl, Nat.le_of_ble_eq_true rfl⟩ ⟨rfl, rfl⟩ (dd D_X8_refuse 20 rfl)
def F_X8_row (n : Nat) (s : XS) (p1 : Int32) (p2 : Int32) (p3 : Int32) : Option (Int32 × XS) := (((F_X8_shelfAt n s p1)).bind fun r1 => oM r1 ((((F_X8_refuse n s (-2 : Int32))).bind fun r5 => some (r5.1, r5.2))) (fun k3 => gd (decide (k3 < 8)) (bf (F_X8_isIn p2 (0 : Int32) (4 : Int32)) (bf (F_X8_isIn p3 (0 : Int32) (40 : Int32)) ((((F_X5_putRow n (x_sh s k3) p2 p3)).bind fun r9 => some ((1 : Int32), (x_set_sh s (va_up (x_sh s) k3 r9))))) ((((F_X8_refuse n s (-2 : Int32))).bind fun r11 => some (r11.1, r11.2)))) ((((F_X8_refuse n s (-2 : Int32))).bind fun r7 => some (r7.1, r7.2))))))
set_option maxHeartbeats 4000000 in
set_option maxRecDepth 100000 in
theorem c_X8_row (D : va_G) (cA : Nat → ClassId) (ax : Nat → Nat) (s : XS) (n : Nat) (p1 : Int32) (p2 : Int32) (p3 : Int32) (r : (Int32 × XS)) (h : F_X8_row n s p1 p2 p3 = some r) : RW m_X8_row 2 0 0 D cA [.ref (ax 0), .int p1, .int p2, .int p3] (xW cA ax s) (exq (some (.int r.1)) (xW cA ax r.2)) := by
  refine RW.ofW gy_X8_row.2.2 (Nat.le_of_ble_eq_true rfl) ?_
  intro l p e sM m below meth c A H locs F hr hlk hnm hK hP hD hS hA hAb ls hl
  have hl : lv_has ls 5 [(0, .ref (ax 0)), (1, .int p1), (2, .int p2), (3, .int p3)] := hl
  unfold F_X8_row at h
  refine lv_aload_n F.1 F.2.1 (dd D_X8_row 0 rfl) rfl (lv_at hl 0 rfl) ?_
  refine lv_iload_n F.1 F.2.1 (dd D_X8_row 1 rfl) rfl (lv_at hl 1 rfl) ?_
  obtain ⟨r1, e2, h⟩ := Option.bind_eq_some_iff.mp h
  refine ro_go (st' := [va_rf (Option.map (fun j => ax (46+2*j)) r1)]) (rV (rest := []) F (c_X8_shelfAt D cA ax s n p1 r1 e2 l) lk_X8_56 (Nat.le_of_ble_eq_true rfl) (preRO hK hS hAb hP) (rcv_8 hK hP (q0 := (0)) (xp_0 cA ax s)) rfl hl rfl (Nat.le_of_ble_eq_true rfl) (dd D_X8_row 2 rfl) ⟨Nat.le_of_ble_eq_true rfl, Nat.le_of_ble_eq_true rfl⟩) rfl ?_
  cases r1 with
  | none =>
    dsimp only [oM] at h
    refine lv_astoreN (lv' := [(4, .null), (0, .ref (ax 0)), (1, .int p1), (2, .int p2), (3, .int p3)]) F.1 F.2.1 (dd D_X8_row 3 rfl) hl (Nat.le_of_ble_eq_true rfl) rfl (fun ls hl => ?_)
    refine lv_aloadN F.1 F.2.1 (dd D_X8_row 4 rfl) (lv_at hl 0 rfl) ?_
    refine lv_ifnullN (tgt := 31) F.1 F.2.1 (dd D_X8_row 5 rfl) rfl ?_
    refine lv_aload_n F.1 F.2.1 (dd D_X8_row 16 rfl) rfl (lv_at hl 1 rfl) ?_
    refine lv_bipush (v := (-2 : Int32)) F.1 F.2.1 (dd D_X8_row 17 rfl) kb_m2 ?_
    obtain ⟨r5, e6, h⟩ := Option.bind_eq_some_iff.mp h
    refine rwe_all (st' := [.int r5.1]) hD hS hA (rV (rest := []) F (c_X8_refuse D cA ax s n (-2 : Int32) r5 e6 l H.size) lk_X8_64 (Nat.le_of_ble_eq_true rfl) (preRW hK hS hAb hP hD) (rcv_8 hK hP (q0 := (0)) (xp_0 cA ax s)) rfl hl rfl (Nat.le_of_ble_eq_true rfl) (dd D_X8_row 18 rfl) ⟨Nat.le_of_ble_eq_true rfl, Nat.le_of_ble_eq_true rfl⟩) rfl (fun H locs hP hD hS => ?_)
    obtain rfl := Option.some.inj h
    exact rw_i (R := rmOf 2 0 0) F hP hD hS hr hlk ⟨Nat.le_of_ble_eq_true rfl, Nat.le_of_ble_eq_true rfl⟩ ⟨rfl, rfl⟩ (dd D_X8_row 19 rfl)
  | some k3 =>
    dsimp only [oM] at h
    obtain ⟨hk4, h⟩ := gd_some (b := decide (k3 < 8)) h
    have hk4 := of_decide_eq_true hk4
    refine lv_astore (lv' := [(4, .ref (ax (46+2*k3))), (0, .ref (ax 0)), (1, .int p1), (2, .int p2), (3, .int p3)]) F.1 F.2.1 (dd D_X8_row 3 rfl) hl (Nat.le_of_ble_eq_true rfl) rfl (fun ls hl => ?_)
    refine lv_aload F.1 F.2.1 (dd D_X8_row 4 rfl) (lv_at hl 0 rfl) ?_
    refine lv_ifnull F.1 F.2.1 (dd D_X8_row 5 rfl) ?_
    refine lv_iload_n F.1 F.2.1 (dd D_X8_row 6 rfl) rfl (lv_at hl 3 rfl) ?_
    refine lv_iconst (v := (0 : Int32)) F.1 F.2.1 (dd D_X8_row 7 rfl) ki_0 ?_
    refine lv_iconst (v := (4 : Int32)) F.1 F.2.1 (dd D_X8_row 8 rfl) ki_4 ?_
    refine ro_go (st' := [.int (bI (F_X8_isIn p2 (0 : Int32) (4 : Int32)))]) (rS (rest := []) F (c_X8_isIn D cA p2 (0 : Int32) (4 : Int32) l) lk_X8_60 (Nat.le_of_ble_eq_true rfl) (preRO hK hS hAb (emP)) rfl hl rfl (Nat.le_of_ble_eq_true rfl) (dd D_X8_row 9 rfl) ⟨Nat.le_of_ble_eq_true rfl, Nat.le_of_ble_eq_true rfl⟩) rfl ?_
    refine x_bif_eq (tgt := 31) F.1 F.2.1 (dd D_X8_row 10 rfl) rfl h (fun c14 h => ?_) (fun c14 h => ?_)
    · refine lv_aload_n F.1 F.2.1 (dd D_X8_row 16 rfl) rfl (lv_at hl 1 rfl) ?_
      refine lv_bipush (v := (-2 : Int32)) F.1 F.2.1 (dd D_X8_row 17 rfl) kb_m2 ?_
      obtain ⟨r7, e8, h⟩ := Option.bind_eq_some_iff.mp h
      refine rwe_all (st' := [.int r7.1]) hD hS hA (rV (rest := []) F (c_X8_refuse D cA ax s n (-2 : Int32) r7 e8 l H.size) lk_X8_64 (Nat.le_of_ble_eq_true rfl) (preRW hK hS hAb hP hD) (rcv_8 hK hP (q0 := (0)) (xp_0 cA ax s)) rfl hl rfl (Nat.le_of_ble_eq_true rfl) (dd D_X8_row 18 rfl) ⟨Nat.le_of_ble_eq_true rfl, Nat.le_of_ble_eq_true rfl⟩) rfl (fun H locs hP hD hS => ?_)
      obtain rfl := Option.some.inj h
      exact rw_i (R := rmOf 2 0 0) F hP hD hS hr hlk ⟨Nat.le_of_ble_eq_true rfl, Nat.le_of_ble_eq_true rfl⟩ ⟨rfl, rfl⟩ (dd D_X8_row 19 rfl)
    · refine lv_iload_n F.1 F.2.1 (dd D_X8_row 11 rfl) rfl (lv_at hl 4 rfl) ?_
      refine lv_iconst (v := (0 : Int32)) F.1 F.2.1 (dd D_X8_row 12 rfl) ki_0 ?_
      refine lv_bipush (v := (40 : Int32)) F.1 F.2.1 (dd D_X8_row 13 rfl) kb_40 ?_
      refine ro_go (st' := [.int (bI (F_X8_isIn p3 (0 : Int32) (40 : Int32)))]) (rS (rest := []) F (c_X8_isIn D cA p3 (0 : Int32) (40 : Int32) l) lk_X8_60 (Nat.le_of_ble_eq_true rfl) (preRO hK hS hAb (emP)) rfl hl rfl (Nat.le_of_ble_eq_true rfl) (dd D_X8_row 14 rfl) ⟨Nat.le_of_ble_eq_true rfl, Nat.le_of_ble_eq_true rfl⟩) rfl ?_
      refine x_bif_ne (tgt := 38) F.1 F.2.1 (dd D_X8_row 15 rfl) rfl h (fun c13 h => ?_) (fun c13 h => ?_)
      · refine lv_aload F.1 F.2.1 (dd D_X8_row 20 rfl) (lv_at hl 0 rfl) ?_
        refine lv_iload_n F.1 F.2.1 (dd D_X8_row 21 rfl) rfl (lv_at hl 3 rfl) ?_
        refine lv_iload_n F.1 F.2.1 (dd D_X8_row 22 rfl) rfl (lv_at hl 4 rfl) ?_
        obtain ⟨r9, e10, h⟩ := Option.bind_eq_some_iff.mp h
        refine rwe (V := none) (wc := (shelfW cA (fun i => ax (46+2*k3+i)) (x_sh s k3))) (wc' := (shelfW cA (fun i => ax (46+2*k3+i)) r9)) (st' := []) (W' := (xW cA ax (x_set_sh s (va_up (x_sh s) k3 r9)))) hP hD hS hA [46+2*k3, 46+2*k3+1] (jc_sh cA ax s k3 hk4) (nd_sh k3) rfl (rV (rest := []) F (c_X5_putRow D cA (fun i => ax (46+2*k3+i)) (x_sh s k3) n p2 p3 r9 e10 l H.size) lk_X8_68 (Nat.le_of_ble_eq_true rfl) (preRW hK hS hAb (selP (is := [46+2*k3, 46+2*k3+1]) hP (jc_sh cA ax s k3 hk4)) (selD (is := [46+2*k3, 46+2*k3+1]) hD (nd_sh k3) (jc_sh cA ax s k3 hk4))) (rcv_5 hK hP (q0 := (46+2*k3)) (xp_sh cA ax s k3 hk4)) rfl hl rfl (Nat.le_of_ble_eq_true rfl) (dd D_X8_row 23 rfl) ⟨Nat.le_of_ble_eq_true rfl, Nat.le_of_ble_eq_true rfl⟩) (js_sh cA ax s r9 k3 hk4) rfl (fun H locs hP hD hS => ?_)
        refine lv_iconst (v := (1 : Int32)) F.1 F.2.1 (dd D_X8_row 24 rfl) ki_1 ?_
        obtain rfl := Option.some.inj h
        exact rw_i (R := rmOf 2 0 0) F hP hD hS hr hlk ⟨Nat.le_of_ble_eq_true rfl, Nat.le_of_ble_eq_true rfl⟩ ⟨rfl, rfl⟩ (dd D_X8_row 25 rfl)
      · refine lv_aload_n F.1 F.2.1 (dd D_X8_row 16 rfl) rfl (lv_at hl 1 rfl) ?_
        refine lv_bipush (v := (-2 : Int32)) F.1 F.2.1 (dd D_X8_row 17 rfl) kb_m2 ?_
        obtain ⟨r11, e12, h⟩ := Option.bind_eq_some_iff.mp h
        refine rwe_all (st' := [.int r11.1]) hD hS hA (rV (rest := []) F (c_X8_refuse D cA ax s n (-2 : Int32) r11 e12 l H.size) lk_X8_64 (Nat.le_of_ble_eq_true rfl) (preRW hK hS hAb hP hD) (rcv_8 hK hP (q0 := (0)) (xp_0 cA ax s)) rfl hl rfl (Nat.le_of_ble_eq_true rfl) (dd D_X8_row 18 rfl) ⟨Nat.le_of_ble_eq_true rfl, Nat.le_of_ble_eq_true rfl⟩) rfl (fun H locs hP hD hS => ?_)
        obtain rfl := Option.some.inj h
        exact rw_i (R := rmOf 2 0 0) F hP hD hS hr hlk ⟨Nat.le_of_ble_eq_true rfl, Nat.le_of_ble_eq_true rfl⟩ ⟨rfl, rfl⟩ (dd D_X8_row 19 rfl)
def F_X8_set (n : Nat) (s : XS) (p1 : Int32) (p2 : Int32) (p3 : Int64) : Option (Int32 × XS) := (((F_X8_shelfAt n s p1)).bind fun r1 => oM r1 ((((F_X8_refuse n s (-2 : Int32))).bind fun r5 => some (r5.1, r5.2))) (fun k3 => gd (decide (k3 < 8)) ((if (F_X5_refusalAsRow (x_sh s k3) (0 : Int32)) = 0 then bf (F_X5_hasPlaces (x_sh s k3) p2 (1 : Int32)) ((((F_X5_put n (x_sh s k3) p2 p3)).bind fun r8 => some ((1 : Int32), (x_set_sh s (va_up (x_sh s) k3 r8))))) ((((F_X8_refuse n s (-2 : Int32))).bind fun r10 => some (r10.1, r10.2))) else (((F_X8_refuse n s (F_X5_refusalAsRow (x_sh s k3) (0 : Int32)))).bind fun r13 => some (r13.1, r13.2))))))
set_option maxHeartbeats 4000000 in
set_option maxRecDepth 100000 in
theorem c_X8_set (D : va_G) (cA : Nat → ClassId) (ax : Nat → Nat) (s : XS) (n : Nat) (p1 : Int32) (p2 : Int32) (p3 : Int64) (r : (Int32 × XS)) (h : F_X8_set n s p1 p2 p3 = some r) : RW m_X8_set 2 0 0 D cA [.ref (ax 0), .int p1, .int p2, .long p3] (xW cA ax s) (exq (some (.int r.1)) (xW cA ax r.2)) := by
  refine RW.ofW gy_X8_set.2.2 (Nat.le_of_ble_eq_true rfl) ?_
  intro l p e sM m below meth c A H locs F hr hlk hnm hK hP hD hS hA hAb ls hl
  have hl : lv_has ls 7 [(0, .ref (ax 0)), (1, .int p1), (2, .int p2), (3, .long p3)] := hl
  unfold F_X8_set at h
  refine lv_aload_n F.1 F.2.1 (dd D_X8_set 0 rfl) rfl (lv_at hl 0 rfl) ?_
  refine lv_iload_n F.1 F.2.1 (dd D_X8_set 1 rfl) rfl (lv_at hl 1 rfl) ?_
  obtain ⟨r1, e2, h⟩ := Option.bind_eq_some_iff.mp h
  refine ro_go (st' := [va_rf (Option.map (fun j => ax (46+2*j)) r1)]) (rV (rest := []) F (c_X8_shelfAt D cA ax s n p1 r1 e2 l) lk_X8_56 (Nat.le_of_ble_eq_true rfl) (preRO hK hS hAb hP) (rcv_8 hK hP (q0 := (0)) (xp_0 cA ax s)) rfl hl rfl (Nat.le_of_ble_eq_true rfl) (dd D_X8_set 2 rfl) ⟨Nat.le_of_ble_eq_true rfl, Nat.le_of_ble_eq_true rfl⟩) rfl ?_
  cases r1 with
  | none =>
    dsimp only [oM] at h
    refine lv_astoreN (lv' := [(5, .null), (0, .ref (ax 0)), (1, .int p1), (2, .int p2), (3, .long p3)]) F.1 F.2.1 (dd D_X8_set 3 rfl) hl (Nat.le_of_ble_eq_true rfl) rfl (fun ls hl => ?_)
    refine lv_aloadN F.1 F.2.1 (dd D_X8_set 4 rfl) (lv_at hl 0 rfl) ?_
    refine lv_ifnonnullN F.1 F.2.1 (dd D_X8_set 5 rfl) ?_
    refine lv_aload_n F.1 F.2.1 (dd D_X8_set 6 rfl) rfl (lv_at hl 1 rfl) ?_
    refine lv_bipush (v := (-2 : Int32)) F.1 F.2.1 (dd D_X8_set 7 rfl) kb_m2 ?_
    obtain ⟨r5, e6, h⟩ := Option.bind_eq_some_iff.mp h
    refine rwe_all (st' := [.int r5.1]) hD hS hA (rV (rest := []) F (c_X8_refuse D cA ax s n (-2 : Int32) r5 e6 l H.size) lk_X8_64 (Nat.le_of_ble_eq_true rfl) (preRW hK hS hAb hP hD) (rcv_8 hK hP (q0 := (0)) (xp_0 cA ax s)) rfl hl rfl (Nat.le_of_ble_eq_true rfl) (dd D_X8_set 8 rfl) ⟨Nat.le_of_ble_eq_true rfl, Nat.le_of_ble_eq_true rfl⟩) rfl (fun H locs hP hD hS => ?_)
    obtain rfl := Option.some.inj h
    exact rw_i (R := rmOf 2 0 0) F hP hD hS hr hlk ⟨Nat.le_of_ble_eq_true rfl, Nat.le_of_ble_eq_true rfl⟩ ⟨rfl, rfl⟩ (dd D_X8_set 9 rfl)
  | some k3 =>
    dsimp only [oM] at h
    obtain ⟨hk4, h⟩ := gd_some (b := decide (k3 < 8)) h
    have hk4 := of_decide_eq_true hk4
    refine lv_astore (lv' := [(5, .ref (ax (46+2*k3))), (0, .ref (ax 0)), (1, .int p1), (2, .int p2), (3, .long p3)]) F.1 F.2.1 (dd D_X8_set 3 rfl) hl (Nat.le_of_ble_eq_true rfl) rfl (fun ls hl => ?_)
    refine lv_aload F.1 F.2.1 (dd D_X8_set 4 rfl) (lv_at hl 0 rfl) ?_
    refine lv_ifnonnull (tgt := 19) F.1 F.2.1 (dd D_X8_set 5 rfl) rfl ?_
    refine lv_aload F.1 F.2.1 (dd D_X8_set 10 rfl) (lv_at hl 0 rfl) ?_
    refine lv_iconst (v := (0 : Int32)) F.1 F.2.1 (dd D_X8_set 11 rfl) ki_0 ?_
    refine ro_go (st' := [.int (F_X5_refusalAsRow (x_sh s k3) (0 : Int32))]) (rV (rest := []) F (c_X5_refusalAsRow D cA (fun i => ax (46+2*k3+i)) (x_sh s k3) (0 : Int32) l) lk_X8_72 (Nat.le_of_ble_eq_true rfl) (preRO hK hS hAb (pg_sh hk4 hP)) (rcv_5 hK hP (q0 := (46+2*k3)) (xp_sh cA ax s k3 hk4)) rfl hl rfl (Nat.le_of_ble_eq_true rfl) (dd D_X8_set 12 rfl) ⟨Nat.le_of_ble_eq_true rfl, Nat.le_of_ble_eq_true rfl⟩) rfl ?_
    refine lv_istore (lv' := [(6, .int (F_X5_refusalAsRow (x_sh s k3) (0 : Int32))), (5, .ref (ax (46+2*k3))), (0, .ref (ax 0)), (1, .int p1), (2, .int p2), (3, .long p3)]) F.1 F.2.1 (dd D_X8_set 13 rfl) hl (Nat.le_of_ble_eq_true rfl) rfl (fun ls hl => ?_)
    refine lv_iload F.1 F.2.1 (dd D_X8_set 14 rfl) (lv_at hl 0 rfl) ?_
    refine x_if_eq (tgt := 39) F.1 F.2.1 (dd D_X8_set 15 rfl) rfl h (fun c7 h => ?_) (fun c7 h => ?_)
    · refine lv_aload F.1 F.2.1 (dd D_X8_set 20 rfl) (lv_at hl 1 rfl) ?_
      refine lv_iload_n F.1 F.2.1 (dd D_X8_set 21 rfl) rfl (lv_at hl 4 rfl) ?_
      refine lv_iconst (v := (1 : Int32)) F.1 F.2.1 (dd D_X8_set 22 rfl) ki_1 ?_
      refine ro_go (st' := [.int (bI (F_X5_hasPlaces (x_sh s k3) p2 (1 : Int32)))]) (rV (rest := []) F (c_X5_hasPlaces D cA (fun i => ax (46+2*k3+i)) (x_sh s k3) p2 (1 : Int32) l) lk_X8_75 (Nat.le_of_ble_eq_true rfl) (preRO hK hS hAb (pg_sh hk4 hP)) (rcv_5 hK hP (q0 := (46+2*k3)) (xp_sh cA ax s k3 hk4)) rfl hl rfl (Nat.le_of_ble_eq_true rfl) (dd D_X8_set 23 rfl) ⟨Nat.le_of_ble_eq_true rfl, Nat.le_of_ble_eq_true rfl⟩) rfl ?_
      refine x_bif_ne (tgt := 56) F.1 F.2.1 (dd D_X8_set 24 rfl) rfl h (fun c12 h => ?_) (fun c12 h => ?_)
      · refine lv_aload F.1 F.2.1 (dd D_X8_set 29 rfl) (lv_at hl 1 rfl) ?_
        refine lv_iload_n F.1 F.2.1 (dd D_X8_set 30 rfl) rfl (lv_at hl 4 rfl) ?_
        refine lv_lload_n F.1 F.2.1 (dd D_X8_set 31 rfl) rfl (lv_at hl 5 rfl) ?_
        obtain ⟨r8, e9, h⟩ := Option.bind_eq_some_iff.mp h
        refine rwe (V := none) (wc := (shelfW cA (fun i => ax (46+2*k3+i)) (x_sh s k3))) (wc' := (shelfW cA (fun i => ax (46+2*k3+i)) r8)) (st' := []) (W' := (xW cA ax (x_set_sh s (va_up (x_sh s) k3 r8)))) hP hD hS hA [46+2*k3, 46+2*k3+1] (jc_sh cA ax s k3 hk4) (nd_sh k3) rfl (rV (rest := []) F (c_X5_put D cA (fun i => ax (46+2*k3+i)) (x_sh s k3) n p2 p3 r8 e9 l H.size) lk_X8_79 (Nat.le_of_ble_eq_true rfl) (preRW hK hS hAb (selP (is := [46+2*k3, 46+2*k3+1]) hP (jc_sh cA ax s k3 hk4)) (selD (is := [46+2*k3, 46+2*k3+1]) hD (nd_sh k3) (jc_sh cA ax s k3 hk4))) (rcv_5 hK hP (q0 := (46+2*k3)) (xp_sh cA ax s k3 hk4)) rfl hl rfl (Nat.le_of_ble_eq_true rfl) (dd D_X8_set 32 rfl) ⟨Nat.le_of_ble_eq_true rfl, Nat.le_of_ble_eq_true rfl⟩) (js_sh cA ax s r8 k3 hk4) rfl (fun H locs hP hD hS => ?_)
        refine lv_iconst (v := (1 : Int32)) F.1 F.2.1 (dd D_X8_set 33 rfl) ki_1 ?_
        obtain rfl := Option.some.inj h
        exact rw_i (R := rmOf 2 0 0) F hP hD hS hr hlk ⟨Nat.le_of_ble_eq_true rfl, Nat.le_of_ble_eq_true rfl⟩ ⟨rfl, rfl⟩ (dd D_X8_set 34 rfl)
      · refine lv_aload_n F.1 F.2.1 (dd D_X8_set 25 rfl) rfl (lv_at hl 2 rfl) ?_
        refine lv_bipush (v := (-2 : Int32)) F.1 F.2.1 (dd D_X8_set 26 rfl) kb_m2 ?_
        obtain ⟨r10, e11, h⟩ := Option.bind_eq_some_iff.mp h
        refine rwe_all (st' := [.int r10.1]) hD hS hA (rV (rest := []) F (c_X8_refuse D cA ax s n (-2 : Int32) r10 e11 l H.size) lk_X8_64 (Nat.le_of_ble_eq_true rfl) (preRW hK hS hAb hP hD) (rcv_8 hK hP (q0 := (0)) (xp_0 cA ax s)) rfl hl rfl (Nat.le_of_ble_eq_true rfl) (dd D_X8_set 27 rfl) ⟨Nat.le_of_ble_eq_true rfl, Nat.le_of_ble_eq_true rfl⟩) rfl (fun H locs hP hD hS => ?_)
        obtain rfl := Option.some.inj h
        exact rw_i (R := rmOf 2 0 0) F hP hD hS hr hlk ⟨Nat.le_of_ble_eq_true rfl, Nat.le_of_ble_eq_true rfl⟩ ⟨rfl, rfl⟩ (dd D_X8_set 28 rfl)
    · refine lv_aload_n F.1 F.2.1 (dd D_X8_set 16 rfl) rfl (lv_at hl 2 rfl) ?_
      refine lv_iload F.1 F.2.1 (dd D_X8_set 17 rfl) (lv_at hl 0 rfl) ?_
      obtain ⟨r13, e14, h⟩ := Option.bind_eq_some_iff.mp h
      refine rwe_all (st' := [.int r13.1]) hD hS hA (rV (rest := []) F (c_X8_refuse D cA ax s n (F_X5_refusalAsRow (x_sh s k3) (0 : Int32)) r13 e14 l H.size) lk_X8_64 (Nat.le_of_ble_eq_true rfl) (preRW hK hS hAb hP hD) (rcv_8 hK hP (q0 := (0)) (xp_0 cA ax s)) rfl hl rfl (Nat.le_of_ble_eq_true rfl) (dd D_X8_set 18 rfl) ⟨Nat.le_of_ble_eq_true rfl, Nat.le_of_ble_eq_true rfl⟩) rfl (fun H locs hP hD hS => ?_)
      obtain rfl := Option.some.inj h
      exact rw_i (R := rmOf 2 0 0) F hP hD hS hr hlk ⟨Nat.le_of_ble_eq_true rfl, Nat.le_of_ble_eq_true rfl⟩ ⟨rfl, rfl⟩ (dd D_X8_set 19 rfl)
def F_X8_copy (n : Nat) (s : XS) (p1 : Int32) (p2 : Int32) (p3 : Int32) (p4 : Int32) (p5 : Int32) : Option (Int32 × XS) := (((F_X8_shelfAt n s p1)).bind fun r1 => oM r1 ((((F_X8_shelfAt n s p2)).bind fun r5 => oM r5 ((((F_X8_refuse n s (-2 : Int32))).bind fun r9 => some (r9.1, r9.2))) (fun k7 => gd (decide (k7 < 8)) ((((F_X8_refuse n s (-2 : Int32))).bind fun r11 => some (r11.1, r11.2)))))) (fun k3 => gd (decide (k3 < 8)) ((((F_X8_shelfAt n s p2)).bind fun r13 => oM r13 ((((F_X8_refuse n s (-2 : Int32))).bind fun r17 => some (r17.1, r17.2))) (fun k15 => gd (decide (k15 < 8)) (bf (F_X5_isEvening (x_sh s k3)) ((((F_X8_refuse n s (-3 : Int32))).bind fun r19 => some (r19.1, r19.2))) (bf (F_X5_isEvening (x_sh s k15)) ((((F_X8_refuse n s (-3 : Int32))).bind fun r21 => some (r21.1, r21.2))) (bf (F_X5_isRowOfOtherSort (x_sh s k3) (x_sh s k15)) ((((F_X8_refuse n s (-3 : Int32))).bind fun r40 => some (r40.1, r40.2))) (bf (F_X5_isBare (x_sh s k3)) ((((F_X8_refuse n s (-4 : Int32))).bind fun r23 => some (r23.1, r23.2))) (bf (F_X5_isBare (x_sh s k15)) ((((F_X8_refuse n s (-4 : Int32))).bind fun r36 => some (r36.1, r36.2))) (bf (F_X5_hasPlaces (x_sh s k3) p3 p5) (bf (F_X5_hasPlaces (x_sh s k15) p4 p5) ((if k15 = k3 then (((F_X5_take_same n (x_sh s k15) p3 p4 p5)).bind fun r28 => some (p5, (x_set_sh s (va_up (x_sh s) k15 r28)))) else (((F_X5_take n (x_sh s k15) (x_sh s k3) p3 p4 p5)).bind fun r30 => some (p5, (x_set_sh s (va_up (x_sh s) k15 r30)))))) ((((F_X8_refuse n s (-2 : Int32))).bind fun r32 => some (r32.1, r32.2)))) ((((F_X8_refuse n s (-2 : Int32))).bind fun r25 => some (r25.1, r25.2))))))))))))))
set_option maxHeartbeats 4000000 in
set_option maxRecDepth 100000 in
theorem c_X8_copy (D : va_G) (cA : Nat → ClassId) (ax : Nat → Nat) (s : XS) (n : Nat) (p1 : Int32) (p2 : Int32) (p3 : Int32) (p4 : Int32) (p5 : Int32) (r : (Int32 × XS)) (h : F_X8_copy n s p1 p2 p3 p4 p5 = some r) : RW m_X8_copy 2 0 0 D cA [.ref (ax 0), .int p1, .int p2, .int p3, .int p4, .int p5] (xW cA ax s) (exq (some (.int r.1)) (xW cA ax r.2)) := by
  refine RW.ofW gy_X8_copy.2.2 (Nat.le_of_ble_eq_true rfl) ?_
  intro l p e sM m below meth c A H locs F hr hlk hnm hK hP hD hS hA hAb ls hl
  have hl : lv_has ls 8 [(0, .ref (ax 0)), (1, .int p1), (2, .int p2), (3, .int p3), (4, .int p4), (5, .int p5)] := hl
  unfold F_X8_copy at h
  refine lv_aload_n F.1 F.2.1 (dd D_X8_copy 0 rfl) rfl (lv_at hl 0 rfl) ?_
  refine lv_iload_n F.1 F.2.1 (dd D_X8_copy 1 rfl) rfl (lv_at hl 1 rfl) ?_
  obtain ⟨r1, e2, h⟩ := Option.bind_eq_some_iff.mp h
  refine ro_go (st' := [va_rf (Option.map (fun j => ax (46+2*j)) r1)]) (rV (rest := []) F (c_X8_shelfAt D cA ax s n p1 r1 e2 l) lk_X8_56 (Nat.le_of_ble_eq_true rfl) (preRO hK hS hAb hP) (rcv_8 hK hP (q0 := (0)) (xp_0 cA ax s)) rfl hl rfl (Nat.le_of_ble_eq_true rfl) (dd D_X8_copy 2 rfl) ⟨Nat.le_of_ble_eq_true rfl, Nat.le_of_ble_eq_true rfl⟩) rfl ?_
  cases r1 with
  | none =>
    dsimp only [oM] at h
    refine lv_astoreN (lv' := [(6, .null), (0, .ref (ax 0)), (1, .int p1), (2, .int p2), (3, .int p3), (4, .int p4), (5, .int p5)]) F.1 F.2.1 (dd D_X8_copy 3 rfl) hl (Nat.le_of_ble_eq_true rfl) rfl (fun ls hl => ?_)
    refine lv_aload_n F.1 F.2.1 (dd D_X8_copy 4 rfl) rfl (lv_at hl 1 rfl) ?_
    refine lv_iload_n F.1 F.2.1 (dd D_X8_copy 5 rfl) rfl (lv_at hl 3 rfl) ?_
    obtain ⟨r5, e6, h⟩ := Option.bind_eq_some_iff.mp h
    refine ro_go (st' := [va_rf (Option.map (fun j => ax (46+2*j)) r5)]) (rV (rest := []) F (c_X8_shelfAt D cA ax s n p2 r5 e6 l) lk_X8_56 (Nat.le_of_ble_eq_true rfl) (preRO hK hS hAb hP) (rcv_8 hK hP (q0 := (0)) (xp_0 cA ax s)) rfl hl rfl (Nat.le_of_ble_eq_true rfl) (dd D_X8_copy 6 rfl) ⟨Nat.le_of_ble_eq_true rfl, Nat.le_of_ble_eq_true rfl⟩) rfl ?_
    cases r5 with
    | none =>
      dsimp only [oM] at h
      refine lv_astoreN (lv' := [(7, .null), (6, .null), (0, .ref (ax 0)), (1, .int p1), (2, .int p2), (3, .int p3), (4, .int p4), (5, .int p5)]) F.1 F.2.1 (dd D_X8_copy 7 rfl) hl (Nat.le_of_ble_eq_true rfl) rfl (fun ls hl => ?_)
      refine lv_aloadN F.1 F.2.1 (dd D_X8_copy 8 rfl) (lv_at hl 1 rfl) ?_
      refine lv_ifnullN (tgt := 24) F.1 F.2.1 (dd D_X8_copy 9 rfl) rfl ?_
      refine lv_aload_n F.1 F.2.1 (dd D_X8_copy 12 rfl) rfl (lv_at hl 2 rfl) ?_
      refine lv_bipush (v := (-2 : Int32)) F.1 F.2.1 (dd D_X8_copy 13 rfl) kb_m2 ?_
      obtain ⟨r9, e10, h⟩ := Option.bind_eq_some_iff.mp h
      refine rwe_all (st' := [.int r9.1]) hD hS hA (rV (rest := []) F (c_X8_refuse D cA ax s n (-2 : Int32) r9 e10 l H.size) lk_X8_64 (Nat.le_of_ble_eq_true rfl) (preRW hK hS hAb hP hD) (rcv_8 hK hP (q0 := (0)) (xp_0 cA ax s)) rfl hl rfl (Nat.le_of_ble_eq_true rfl) (dd D_X8_copy 14 rfl) ⟨Nat.le_of_ble_eq_true rfl, Nat.le_of_ble_eq_true rfl⟩) rfl (fun H locs hP hD hS => ?_)
      obtain rfl := Option.some.inj h
      exact rw_i (R := rmOf 2 0 0) F hP hD hS hr hlk ⟨Nat.le_of_ble_eq_true rfl, Nat.le_of_ble_eq_true rfl⟩ ⟨rfl, rfl⟩ (dd D_X8_copy 15 rfl)
    | some k7 =>
      dsimp only [oM] at h
      obtain ⟨hk8, h⟩ := gd_some (b := decide (k7 < 8)) h
      have hk8 := of_decide_eq_true hk8
      refine lv_astore (lv' := [(7, .ref (ax (46+2*k7))), (6, .null), (0, .ref (ax 0)), (1, .int p1), (2, .int p2), (3, .int p3), (4, .int p4), (5, .int p5)]) F.1 F.2.1 (dd D_X8_copy 7 rfl) hl (Nat.le_of_ble_eq_true rfl) rfl (fun ls hl => ?_)
      refine lv_aloadN F.1 F.2.1 (dd D_X8_copy 8 rfl) (lv_at hl 1 rfl) ?_
      refine lv_ifnullN (tgt := 24) F.1 F.2.1 (dd D_X8_copy 9 rfl) rfl ?_
      refine lv_aload_n F.1 F.2.1 (dd D_X8_copy 12 rfl) rfl (lv_at hl 2 rfl) ?_
      refine lv_bipush (v := (-2 : Int32)) F.1 F.2.1 (dd D_X8_copy 13 rfl) kb_m2 ?_
      obtain ⟨r11, e12, h⟩ := Option.bind_eq_some_iff.mp h
      refine rwe_all (st' := [.int r11.1]) hD hS hA (rV (rest := []) F (c_X8_refuse D cA ax s n (-2 : Int32) r11 e12 l H.size) lk_X8_64 (Nat.le_of_ble_eq_true rfl) (preRW hK hS hAb hP hD) (rcv_8 hK hP (q0 := (0)) (xp_0 cA ax s)) rfl hl rfl (Nat.le_of_ble_eq_true rfl) (dd D_X8_copy 14 rfl) ⟨Nat.le_of_ble_eq_true rfl, Nat.le_of_ble_eq_true rfl⟩) rfl (fun H locs hP hD hS => ?_)
      obtain rfl := Option.some.inj h
      exact rw_i (R := rmOf 2 0 0) F hP hD hS hr hlk ⟨Nat.le_of_ble_eq_true rfl, Nat.le_of_ble_eq_true rfl⟩ ⟨rfl, rfl⟩ (dd D_X8_copy 15 rfl)
  | some k3 =>
    dsimp only [oM] at h
    obtain ⟨hk4, h⟩ := gd_some (b := decide (k3 < 8)) h
    have hk4 := of_decide_eq_true hk4
    refine lv_astore (lv' := [(6, .ref (ax (46+2*k3))), (0, .ref (ax 0)), (1, .int p1), (2, .int p2), (3, .int p3), (4, .int p4), (5, .int p5)]) F.1 F.2.1 (dd D_X8_copy 3 rfl) hl (Nat.le_of_ble_eq_true rfl) rfl (fun ls hl => ?_)
    refine lv_aload_n F.1 F.2.1 (dd D_X8_copy 4 rfl) rfl (lv_at hl 1 rfl) ?_
    refine lv_iload_n F.1 F.2.1 (dd D_X8_copy 5 rfl) rfl (lv_at hl 3 rfl) ?_
    obtain ⟨r13, e14, h⟩ := Option.bind_eq_some_iff.mp h
    refine ro_go (st' := [va_rf (Option.map (fun j => ax (46+2*j)) r13)]) (rV (rest := []) F (c_X8_shelfAt D cA ax s n p2 r13 e14 l) lk_X8_56 (Nat.le_of_ble_eq_true rfl) (preRO hK hS hAb hP) (rcv_8 hK hP (q0 := (0)) (xp_0 cA ax s)) rfl hl rfl (Nat.le_of_ble_eq_true rfl) (dd D_X8_copy 6 rfl) ⟨Nat.le_of_ble_eq_true rfl, Nat.le_of_ble_eq_true rfl⟩) rfl ?_
    cases r13 with
    | none =>
      dsimp only [oM] at h
      refine lv_astoreN (lv' := [(7, .null), (6, .ref (ax (46+2*k3))), (0, .ref (ax 0)), (1, .int p1), (2, .int p2), (3, .int p3), (4, .int p4), (5, .int p5)]) F.1 F.2.1 (dd D_X8_copy 7 rfl) hl (Nat.le_of_ble_eq_true rfl) rfl (fun ls hl => ?_)
      refine lv_aload F.1 F.2.1 (dd D_X8_copy 8 rfl) (lv_at hl 1 rfl) ?_
      refine lv_ifnull F.1 F.2.1 (dd D_X8_copy 9 rfl) ?_
      refine lv_aloadN F.1 F.2.1 (dd D_X8_copy 10 rfl) (lv_at hl 0 rfl) ?_
      refine lv_ifnonnullN F.1 F.2.1 (dd D_X8_copy 11 rfl) ?_
      refine lv_aload_n F.1 F.2.1 (dd D_X8_copy 12 rfl) rfl (lv_at hl 2 rfl) ?_
      refine lv_bipush (v := (-2 : Int32)) F.1 F.2.1 (dd D_X8_copy 13 rfl) kb_m2 ?_
      obtain ⟨r17, e18, h⟩ := Option.bind_eq_some_iff.mp h
      refine rwe_all (st' := [.int r17.1]) hD hS hA (rV (rest := []) F (c_X8_refuse D cA ax s n (-2 : Int32) r17 e18 l H.size) lk_X8_64 (Nat.le_of_ble_eq_true rfl) (preRW hK hS hAb hP hD) (rcv_8 hK hP (q0 := (0)) (xp_0 cA ax s)) rfl hl rfl (Nat.le_of_ble_eq_true rfl) (dd D_X8_copy 14 rfl) ⟨Nat.le_of_ble_eq_true rfl, Nat.le_of_ble_eq_true rfl⟩) rfl (fun H locs hP hD hS => ?_)
      obtain rfl := Option.some.inj h
      exact rw_i (R := rmOf 2 0 0) F hP hD hS hr hlk ⟨Nat.le_of_ble_eq_true rfl, Nat.le_of_ble_eq_true rfl⟩ ⟨rfl, rfl⟩ (dd D_X8_copy 15 rfl)
    | some k15 =>
      dsimp only [oM] at h
      obtain ⟨hk16, h⟩ := gd_some (b := decide (k15 < 8)) h
      have hk16 := of_decide_eq_true hk16
      refine lv_astore (lv' := [(7, .ref (ax (46+2*k15))), (6, .ref (ax (46+2*k3))), (0, .ref (ax 0)), (1, .int p1), (2, .int p2), (3, .int p3), (4, .int p4), (5, .int p5)]) F.1 F.2.1 (dd D_X8_copy 7 rfl) hl (Nat.le_of_ble_eq_true rfl) rfl (fun ls hl => ?_)
      refine lv_aload F.1 F.2.1 (dd D_X8_copy 8 rfl) (lv_at hl 1 rfl) ?_
      refine lv_ifnull F.1 F.2.1 (dd D_X8_copy 9 rfl) ?_
      refine lv_aload F.1 F.2.1 (dd D_X8_copy 10 rfl) (lv_at hl 0 rfl) ?_
      refine lv_ifnonnull (tgt := 31) F.1 F.2.1 (dd D_X8_copy 11 rfl) rfl ?_
      refine lv_aload F.1 F.2.1 (dd D_X8_copy 16 rfl) (lv_at hl 1 rfl) ?_
      refine ro_go (st' := [.int (bI (F_X5_isEvening (x_sh s k3)))]) (rV (rest := []) F (c_X5_isEvening D cA (fun i => ax (46+2*k3+i)) (x_sh s k3) l) lk_X8_83 (Nat.le_of_ble_eq_true rfl) (preRO hK hS hAb (pg_sh hk4 hP)) (rcv_5 hK hP (q0 := (46+2*k3)) (xp_sh cA ax s k3 hk4)) rfl hl rfl (Nat.le_of_ble_eq_true rfl) (dd D_X8_copy 17 rfl) ⟨Nat.le_of_ble_eq_true rfl, Nat.le_of_ble_eq_true rfl⟩) rfl ?_
      refine x_bif_ne (tgt := 57) F.1 F.2.1 (dd D_X8_copy 18 rfl) rfl h (fun c44 h => ?_) (fun c44 h => ?_)
      · refine lv_aload_n F.1 F.2.1 (dd D_X8_copy 26 rfl) rfl (lv_at hl 2 rfl) ?_
        refine lv_bipush (v := (-3 : Int32)) F.1 F.2.1 (dd D_X8_copy 27 rfl) kb_m3 ?_
        obtain ⟨r19, e20, h⟩ := Option.bind_eq_some_iff.mp h
        refine rwe_all (st' := [.int r19.1]) hD hS hA (rV (rest := []) F (c_X8_refuse D cA ax s n (-3 : Int32) r19 e20 l H.size) lk_X8_64 (Nat.le_of_ble_eq_true rfl) (preRW hK hS hAb hP hD) (rcv_8 hK hP (q0 := (0)) (xp_0 cA ax s)) rfl hl rfl (Nat.le_of_ble_eq_true rfl) (dd D_X8_copy 28 rfl) ⟨Nat.le_of_ble_eq_true rfl, Nat.le_of_ble_eq_true rfl⟩) rfl (fun H locs hP hD hS => ?_)
        obtain rfl := Option.some.inj h
        exact rw_i (R := rmOf 2 0 0) F hP hD hS hr hlk ⟨Nat.le_of_ble_eq_true rfl, Nat.le_of_ble_eq_true rfl⟩ ⟨rfl, rfl⟩ (dd D_X8_copy 29 rfl)
      · refine lv_aload F.1 F.2.1 (dd D_X8_copy 19 rfl) (lv_at hl 0 rfl) ?_
        refine ro_go (st' := [.int (bI (F_X5_isEvening (x_sh s k15)))]) (rV (rest := []) F (c_X5_isEvening D cA (fun i => ax (46+2*k15+i)) (x_sh s k15) l) lk_X8_83 (Nat.le_of_ble_eq_true rfl) (preRO hK hS hAb (pg_sh hk16 hP)) (rcv_5 hK hP (q0 := (46+2*k15)) (xp_sh cA ax s k15 hk16)) rfl hl rfl (Nat.le_of_ble_eq_true rfl) (dd D_X8_copy 20 rfl) ⟨Nat.le_of_ble_eq_true rfl, Nat.le_of_ble_eq_true rfl⟩) rfl ?_
        refine x_bif_ne (tgt := 57) F.1 F.2.1 (dd D_X8_copy 21 rfl) rfl h (fun c43 h => ?_) (fun c43 h => ?_)
        · refine lv_aload_n F.1 F.2.1 (dd D_X8_copy 26 rfl) rfl (lv_at hl 2 rfl) ?_
          refine lv_bipush (v := (-3 : Int32)) F.1 F.2.1 (dd D_X8_copy 27 rfl) kb_m3 ?_
          obtain ⟨r21, e22, h⟩ := Option.bind_eq_some_iff.mp h
          refine rwe_all (st' := [.int r21.1]) hD hS hA (rV (rest := []) F (c_X8_refuse D cA ax s n (-3 : Int32) r21 e22 l H.size) lk_X8_64 (Nat.le_of_ble_eq_true rfl) (preRW hK hS hAb hP hD) (rcv_8 hK hP (q0 := (0)) (xp_0 cA ax s)) rfl hl rfl (Nat.le_of_ble_eq_true rfl) (dd D_X8_copy 28 rfl) ⟨Nat.le_of_ble_eq_true rfl, Nat.le_of_ble_eq_true rfl⟩) rfl (fun H locs hP hD hS => ?_)
          obtain rfl := Option.some.inj h
          exact rw_i (R := rmOf 2 0 0) F hP hD hS hr hlk ⟨Nat.le_of_ble_eq_true rfl, Nat.le_of_ble_eq_true rfl⟩ ⟨rfl, rfl⟩ (dd D_X8_copy 29 rfl)
        · refine lv_aload F.1 F.2.1 (dd D_X8_copy 22 rfl) (lv_at hl 1 rfl) ?_
          refine lv_aload F.1 F.2.1 (dd D_X8_copy 23 rfl) (lv_at hl 0 rfl) ?_
          refine ro_go (st' := [.int (bI (F_X5_isRowOfOtherSort (x_sh s k3) (x_sh s k15)))]) (rV (rest := []) F (c_X5_isRowOfOtherSort D cA (fun i => ax (46+2*k3+i)) (x_sh s k3) (fun i => ax (46+2*k15+i)) (x_sh s k15) l) lk_X8_87 (Nat.le_of_ble_eq_true rfl) (preRO hK hS hAb (va_P.app (pg_sh hk4 hP) (pg_sh hk16 hP))) (rcv_5 hK hP (q0 := (46+2*k3)) (xp_sh cA ax s k3 hk4)) rfl hl rfl (Nat.le_of_ble_eq_true rfl) (dd D_X8_copy 24 rfl) ⟨Nat.le_of_ble_eq_true rfl, Nat.le_of_ble_eq_true rfl⟩) rfl ?_
          refine x_bif_eq (tgt := 64) F.1 F.2.1 (dd D_X8_copy 25 rfl) rfl h (fun c42 h => ?_) (fun c42 h => ?_)
          · refine lv_aload F.1 F.2.1 (dd D_X8_copy 30 rfl) (lv_at hl 1 rfl) ?_
            refine ro_go (st' := [.int (bI (F_X5_isBare (x_sh s k3)))]) (rV (rest := []) F (c_X5_isBare D cA (fun i => ax (46+2*k3+i)) (x_sh s k3) l) lk_X8_91 (Nat.le_of_ble_eq_true rfl) (preRO hK hS hAb (pg_sh hk4 hP)) (rcv_5 hK hP (q0 := (46+2*k3)) (xp_sh cA ax s k3 hk4)) rfl hl rfl (Nat.le_of_ble_eq_true rfl) (dd D_X8_copy 31 rfl) ⟨Nat.le_of_ble_eq_true rfl, Nat.le_of_ble_eq_true rfl⟩) rfl ?_
            refine x_bif_ne (tgt := 80) F.1 F.2.1 (dd D_X8_copy 32 rfl) rfl h (fun c39 h => ?_) (fun c39 h => ?_)
            · refine lv_aload_n F.1 F.2.1 (dd D_X8_copy 36 rfl) rfl (lv_at hl 2 rfl) ?_
              refine lv_bipush (v := (-4 : Int32)) F.1 F.2.1 (dd D_X8_copy 37 rfl) kb_m4 ?_
              obtain ⟨r23, e24, h⟩ := Option.bind_eq_some_iff.mp h
              refine rwe_all (st' := [.int r23.1]) hD hS hA (rV (rest := []) F (c_X8_refuse D cA ax s n (-4 : Int32) r23 e24 l H.size) lk_X8_64 (Nat.le_of_ble_eq_true rfl) (preRW hK hS hAb hP hD) (rcv_8 hK hP (q0 := (0)) (xp_0 cA ax s)) rfl hl rfl (Nat.le_of_ble_eq_true rfl) (dd D_X8_copy 38 rfl) ⟨Nat.le_of_ble_eq_true rfl, Nat.le_of_ble_eq_true rfl⟩) rfl (fun H locs hP hD hS => ?_)
              obtain rfl := Option.some.inj h
              exact rw_i (R := rmOf 2 0 0) F hP hD hS hr hlk ⟨Nat.le_of_ble_eq_true rfl, Nat.le_of_ble_eq_true rfl⟩ ⟨rfl, rfl⟩ (dd D_X8_copy 39 rfl)
            · refine lv_aload F.1 F.2.1 (dd D_X8_copy 33 rfl) (lv_at hl 0 rfl) ?_
              refine ro_go (st' := [.int (bI (F_X5_isBare (x_sh s k15)))]) (rV (rest := []) F (c_X5_isBare D cA (fun i => ax (46+2*k15+i)) (x_sh s k15) l) lk_X8_91 (Nat.le_of_ble_eq_true rfl) (preRO hK hS hAb (pg_sh hk16 hP)) (rcv_5 hK hP (q0 := (46+2*k15)) (xp_sh cA ax s k15 hk16)) rfl hl rfl (Nat.le_of_ble_eq_true rfl) (dd D_X8_copy 34 rfl) ⟨Nat.le_of_ble_eq_true rfl, Nat.le_of_ble_eq_true rfl⟩) rfl ?_
              refine x_bif_eq (tgt := 87) F.1 F.2.1 (dd D_X8_copy 35 rfl) rfl h (fun c38 h => ?_) (fun c38 h => ?_)
              · refine lv_aload F.1 F.2.1 (dd D_X8_copy 40 rfl) (lv_at hl 1 rfl) ?_
                refine lv_iload_n F.1 F.2.1 (dd D_X8_copy 41 rfl) rfl (lv_at hl 5 rfl) ?_
                refine lv_iload F.1 F.2.1 (dd D_X8_copy 42 rfl) (lv_at hl 7 rfl) ?_
                refine ro_go (st' := [.int (bI (F_X5_hasPlaces (x_sh s k3) p3 p5))]) (rV (rest := []) F (c_X5_hasPlaces D cA (fun i => ax (46+2*k3+i)) (x_sh s k3) p3 p5 l) lk_X8_75 (Nat.le_of_ble_eq_true rfl) (preRO hK hS hAb (pg_sh hk4 hP)) (rcv_5 hK hP (q0 := (46+2*k3)) (xp_sh cA ax s k3 hk4)) rfl hl rfl (Nat.le_of_ble_eq_true rfl) (dd D_X8_copy 43 rfl) ⟨Nat.le_of_ble_eq_true rfl, Nat.le_of_ble_eq_true rfl⟩) rfl ?_
                refine x_bif_eq (tgt := 110) F.1 F.2.1 (dd D_X8_copy 44 rfl) rfl h (fun c35 h => ?_) (fun c35 h => ?_)
                · refine lv_aload_n F.1 F.2.1 (dd D_X8_copy 50 rfl) rfl (lv_at hl 2 rfl) ?_
                  refine lv_bipush (v := (-2 : Int32)) F.1 F.2.1 (dd D_X8_copy 51 rfl) kb_m2 ?_
                  obtain ⟨r25, e26, h⟩ := Option.bind_eq_some_iff.mp h
                  refine rwe_all (st' := [.int r25.1]) hD hS hA (rV (rest := []) F (c_X8_refuse D cA ax s n (-2 : Int32) r25 e26 l H.size) lk_X8_64 (Nat.le_of_ble_eq_true rfl) (preRW hK hS hAb hP hD) (rcv_8 hK hP (q0 := (0)) (xp_0 cA ax s)) rfl hl rfl (Nat.le_of_ble_eq_true rfl) (dd D_X8_copy 52 rfl) ⟨Nat.le_of_ble_eq_true rfl, Nat.le_of_ble_eq_true rfl⟩) rfl (fun H locs hP hD hS => ?_)
                  obtain rfl := Option.some.inj h
                  exact rw_i (R := rmOf 2 0 0) F hP hD hS hr hlk ⟨Nat.le_of_ble_eq_true rfl, Nat.le_of_ble_eq_true rfl⟩ ⟨rfl, rfl⟩ (dd D_X8_copy 53 rfl)
                · refine lv_aload F.1 F.2.1 (dd D_X8_copy 45 rfl) (lv_at hl 0 rfl) ?_
                  refine lv_iload F.1 F.2.1 (dd D_X8_copy 46 rfl) (lv_at hl 6 rfl) ?_
                  refine lv_iload F.1 F.2.1 (dd D_X8_copy 47 rfl) (lv_at hl 7 rfl) ?_
                  refine ro_go (st' := [.int (bI (F_X5_hasPlaces (x_sh s k15) p4 p5))]) (rV (rest := []) F (c_X5_hasPlaces D cA (fun i => ax (46+2*k15+i)) (x_sh s k15) p4 p5 l) lk_X8_75 (Nat.le_of_ble_eq_true rfl) (preRO hK hS hAb (pg_sh hk16 hP)) (rcv_5 hK hP (q0 := (46+2*k15)) (xp_sh cA ax s k15 hk16)) rfl hl rfl (Nat.le_of_ble_eq_true rfl) (dd D_X8_copy 48 rfl) ⟨Nat.le_of_ble_eq_true rfl, Nat.le_of_ble_eq_true rfl⟩) rfl ?_
                  refine x_bif_ne (tgt := 117) F.1 F.2.1 (dd D_X8_copy 49 rfl) rfl h (fun c34 h => ?_) (fun c34 h => ?_)
                  · refine lv_aload F.1 F.2.1 (dd D_X8_copy 54 rfl) (lv_at hl 0 rfl) ?_
                    refine lv_aload F.1 F.2.1 (dd D_X8_copy 55 rfl) (lv_at hl 1 rfl) ?_
                    refine lv_iload_n F.1 F.2.1 (dd D_X8_copy 56 rfl) rfl (lv_at hl 5 rfl) ?_
                    refine lv_iload F.1 F.2.1 (dd D_X8_copy 57 rfl) (lv_at hl 6 rfl) ?_
                    refine lv_iload F.1 F.2.1 (dd D_X8_copy 58 rfl) (lv_at hl 7 rfl) ?_
                    rcases pick h with ⟨c27, h_c27⟩ | ⟨c27, h_c27⟩
                    · subst c27
                      have h := h_c27
                      obtain ⟨r28, e29, h⟩ := Option.bind_eq_some_iff.mp h
                      refine rwe (V := none) (wc := (shelfW cA (fun i => ax (46+2*k15+i)) (x_sh s k15))) (wc' := (shelfW cA (fun i => ax (46+2*k15+i)) r28)) (st' := []) (W' := (xW cA ax (x_set_sh s (va_up (x_sh s) k15 r28)))) hP hD hS hA [46+2*k15, 46+2*k15+1] (jc_sh cA ax s k15 hk16) (nd_sh k15) rfl (rV (rest := []) F (c_X5_take_same D cA (fun i => ax (46+2*k15+i)) (x_sh s k15) n p3 p4 p5 r28 e29 l H.size) lk_X8_94 (Nat.le_of_ble_eq_true rfl) (preRW hK hS hAb (selP (is := [46+2*k15, 46+2*k15+1]) hP (jc_sh cA ax s k15 hk16)) (selD (is := [46+2*k15, 46+2*k15+1]) hD (nd_sh k15) (jc_sh cA ax s k15 hk16))) (rcv_5 hK hP (q0 := (46+2*k15)) (xp_sh cA ax s k15 hk16)) rfl hl rfl (Nat.le_of_ble_eq_true rfl) (dd D_X8_copy 59 rfl) ⟨Nat.le_of_ble_eq_true rfl, Nat.le_of_ble_eq_true rfl⟩) (js_sh cA ax s r28 k15 hk16) rfl (fun H locs hP hD hS => ?_)
                      refine lv_iload F.1 F.2.1 (dd D_X8_copy 60 rfl) (lv_at hl 7 rfl) ?_
                      obtain rfl := Option.some.inj h
                      exact rw_i (R := rmOf 2 0 0) F hP hD hS hr hlk ⟨Nat.le_of_ble_eq_true rfl, Nat.le_of_ble_eq_true rfl⟩ ⟨rfl, rfl⟩ (dd D_X8_copy 61 rfl)
                    · have h := h_c27
                      obtain ⟨r30, e31, h⟩ := Option.bind_eq_some_iff.mp h
                      refine rwe (V := none) (wc := ((shelfW cA (fun i => ax (46+2*k15+i)) (x_sh s k15)) ++ (shelfW cA (fun i => ax (46+2*k3+i)) (x_sh s k3)))) (wc' := ((shelfW cA (fun i => ax (46+2*k15+i)) r30) ++ (shelfW cA (fun i => ax (46+2*k3+i)) (x_sh s k3)))) (st' := []) (W' := (xW cA ax (x_set_sh s (va_up (x_sh s) k15 r30)))) hP hD hS hA [46+2*k15, 46+2*k15+1, 46+2*k3, 46+2*k3+1] (jc_sh2 cA ax s k15 k3 hk16 hk4) (nd_sh2 c27) rfl (rV (rest := []) F (c_X5_take D cA (fun i => ax (46+2*k15+i)) (x_sh s k15) (fun i => ax (46+2*k3+i)) (x_sh s k3) n p3 p4 p5 r30 e31 l H.size) lk_X8_94 (Nat.le_of_ble_eq_true rfl) (preRW hK hS hAb (selP (is := [46+2*k15, 46+2*k15+1, 46+2*k3, 46+2*k3+1]) hP (jc_sh2 cA ax s k15 k3 hk16 hk4)) (selD (is := [46+2*k15, 46+2*k15+1, 46+2*k3, 46+2*k3+1]) hD (nd_sh2 c27) (jc_sh2 cA ax s k15 k3 hk16 hk4))) (rcv_5 hK hP (q0 := (46+2*k15)) (xp_sh cA ax s k15 hk16)) rfl hl rfl (Nat.le_of_ble_eq_true rfl) (dd D_X8_copy 59 rfl) ⟨Nat.le_of_ble_eq_true rfl, Nat.le_of_ble_eq_true rfl⟩) (js_sh2 cA ax s k15 k3 r30 hk16 hk4 c27) rfl (fun H locs hP hD hS => ?_)
                      refine lv_iload F.1 F.2.1 (dd D_X8_copy 60 rfl) (lv_at hl 7 rfl) ?_
                      obtain rfl := Option.some.inj h
                      exact rw_i (R := rmOf 2 0 0) F hP hD hS hr hlk ⟨Nat.le_of_ble_eq_true rfl, Nat.le_of_ble_eq_true rfl⟩ ⟨rfl, rfl⟩ (dd D_X8_copy 61 rfl)
                  · refine lv_aload_n F.1 F.2.1 (dd D_X8_copy 50 rfl) rfl (lv_at hl 2 rfl) ?_
                    refine lv_bipush (v := (-2 : Int32)) F.1 F.2.1 (dd D_X8_copy 51 rfl) kb_m2 ?_
                    obtain ⟨r32, e33, h⟩ := Option.bind_eq_some_iff.mp h
                    refine rwe_all (st' := [.int r32.1]) hD hS hA (rV (rest := []) F (c_X8_refuse D cA ax s n (-2 : Int32) r32 e33 l H.size) lk_X8_64 (Nat.le_of_ble_eq_true rfl) (preRW hK hS hAb hP hD) (rcv_8 hK hP (q0 := (0)) (xp_0 cA ax s)) rfl hl rfl (Nat.le_of_ble_eq_true rfl) (dd D_X8_copy 52 rfl) ⟨Nat.le_of_ble_eq_true rfl, Nat.le_of_ble_eq_true rfl⟩) rfl (fun H locs hP hD hS => ?_)
                    obtain rfl := Option.some.inj h
                    exact rw_i (R := rmOf 2 0 0) F hP hD hS hr hlk ⟨Nat.le_of_ble_eq_true rfl, Nat.le_of_ble_eq_true rfl⟩ ⟨rfl, rfl⟩ (dd D_X8_copy 53 rfl)
              · refine lv_aload_n F.1 F.2.1 (dd D_X8_copy 36 rfl) rfl (lv_at hl 2 rfl) ?_
                refine lv_bipush (v := (-4 : Int32)) F.1 F.2.1 (dd D_X8_copy 37 rfl) kb_m4 ?_
                obtain ⟨r36, e37, h⟩ := Option.bind_eq_some_iff.mp h
                refine rwe_all (st' := [.int r36.1]) hD hS hA (rV (rest := []) F (c_X8_refuse D cA ax s n (-4 : Int32) r36 e37 l H.size) lk_X8_64 (Nat.le_of_ble_eq_true rfl) (preRW hK hS hAb hP hD) (rcv_8 hK hP (q0 := (0)) (xp_0 cA ax s)) rfl hl rfl (Nat.le_of_ble_eq_true rfl) (dd D_X8_copy 38 rfl) ⟨Nat.le_of_ble_eq_true rfl, Nat.le_of_ble_eq_true rfl⟩) rfl (fun H locs hP hD hS => ?_)
                obtain rfl := Option.some.inj h
                exact rw_i (R := rmOf 2 0 0) F hP hD hS hr hlk ⟨Nat.le_of_ble_eq_true rfl, Nat.le_of_ble_eq_true rfl⟩ ⟨rfl, rfl⟩ (dd D_X8_copy 39 rfl)
          · refine lv_aload_n F.1 F.2.1 (dd D_X8_copy 26 rfl) rfl (lv_at hl 2 rfl) ?_
            refine lv_bipush (v := (-3 : Int32)) F.1 F.2.1 (dd D_X8_copy 27 rfl) kb_m3 ?_
            obtain ⟨r40, e41, h⟩ := Option.bind_eq_some_iff.mp h
            refine rwe_all (st' := [.int r40.1]) hD hS hA (rV (rest := []) F (c_X8_refuse D cA ax s n (-3 : Int32) r40 e41 l H.size) lk_X8_64 (Nat.le_of_ble_eq_true rfl) (preRW hK hS hAb hP hD) (rcv_8 hK hP (q0 := (0)) (xp_0 cA ax s)) rfl hl rfl (Nat.le_of_ble_eq_true rfl) (dd D_X8_copy 28 rfl) ⟨Nat.le_of_ble_eq_true rfl, Nat.le_of_ble_eq_true rfl⟩) rfl (fun H locs hP hD hS => ?_)
            obtain rfl := Option.some.inj h
            exact rw_i (R := rmOf 2 0 0) F hP hD hS hr hlk ⟨Nat.le_of_ble_eq_true rfl, Nat.le_of_ble_eq_true rfl⟩ ⟨rfl, rfl⟩ (dd D_X8_copy 29 rfl)
def F_X8_element (n : Nat) (s : XS) (p1 : Int32) (p2 : Int32) : Option Int64 := (((F_X8_shelfAt n s p1)).bind fun r1 => oM r1 (some ((0 : Int64))) (fun k3 => gd (decide (k3 < 8)) (bf (F_X5_isRow (x_sh s k3)) ((((F_X5_at n (x_sh s k3) p2)).bind fun r5 => some (r5))) (some ((0 : Int64))))))
set_option maxHeartbeats 4000000 in
set_option maxRecDepth 100000 in
theorem c_X8_element (D : va_G) (cA : Nat → ClassId) (ax : Nat → Nat) (s : XS) (n : Nat) (p1 : Int32) (p2 : Int32) (r : Int64) (h : F_X8_element n s p1 p2 = some r) : RO m_X8_element 1 D cA [.ref (ax 0), .int p1, .int p2] (xW cA ax s) (some (.long r)) := by
  refine RO.ofW gy_X8_element.2.2 (Nat.le_of_ble_eq_true rfl) ?_
  intro l p e sM m below meth c F hr hlk hK hP hS hAb ls hl
  have hl : lv_has ls 4 [(0, .ref (ax 0)), (1, .int p1), (2, .int p2)] := hl
  unfold F_X8_element at h
  refine lv_aload_n F.1 F.2.1 (dd D_X8_element 0 rfl) rfl (lv_at hl 0 rfl) ?_
  refine lv_iload_n F.1 F.2.1 (dd D_X8_element 1 rfl) rfl (lv_at hl 1 rfl) ?_
  obtain ⟨r1, e2, h⟩ := Option.bind_eq_some_iff.mp h
  refine ro_go (st' := [va_rf (Option.map (fun j => ax (46+2*j)) r1)]) (rV (rest := []) F (c_X8_shelfAt D cA ax s n p1 r1 e2 l) lk_X8_56 (Nat.le_of_ble_eq_true rfl) (preRO hK hS hAb hP) (rcv_8 hK hP (q0 := (0)) (xp_0 cA ax s)) rfl hl rfl (Nat.le_of_ble_eq_true rfl) (dd D_X8_element 2 rfl) ⟨Nat.le_of_ble_eq_true rfl, Nat.le_of_ble_eq_true rfl⟩) rfl ?_
  cases r1 with
  | none =>
    dsimp only [oM] at h
    refine lv_astore_nN (lv' := [(3, .null), (0, .ref (ax 0)), (1, .int p1), (2, .int p2)]) F.1 F.2.1 (dd D_X8_element 3 rfl) rfl hl (Nat.le_of_ble_eq_true rfl) rfl (fun ls hl => ?_)
    refine lv_aload_nN F.1 F.2.1 (dd D_X8_element 4 rfl) rfl (lv_at hl 0 rfl) ?_
    refine lv_ifnullN (tgt := 17) F.1 F.2.1 (dd D_X8_element 5 rfl) rfl ?_
    refine lv_lconst (v := (0 : Int64)) F.1 F.2.1 (dd D_X8_element 9 rfl) kl_0 ?_
    refine lv_goto (tgt := 26) F.1 F.2.1 (dd D_X8_element 10 rfl) rfl ?_
    exact ro_l (R := rmOf 1 0 0) F hr hlk (congrArg (Option.map Value.long) h) (dd D_X8_element 14 rfl)
  | some k3 =>
    dsimp only [oM] at h
    obtain ⟨hk4, h⟩ := gd_some (b := decide (k3 < 8)) h
    have hk4 := of_decide_eq_true hk4
    refine lv_astore_n (lv' := [(3, .ref (ax (46+2*k3))), (0, .ref (ax 0)), (1, .int p1), (2, .int p2)]) F.1 F.2.1 (dd D_X8_element 3 rfl) rfl hl (Nat.le_of_ble_eq_true rfl) rfl (fun ls hl => ?_)
    refine lv_aload_n F.1 F.2.1 (dd D_X8_element 4 rfl) rfl (lv_at hl 0 rfl) ?_
    refine lv_ifnull F.1 F.2.1 (dd D_X8_element 5 rfl) ?_
    refine lv_aload_n F.1 F.2.1 (dd D_X8_element 6 rfl) rfl (lv_at hl 0 rfl) ?_
    refine ro_go (st' := [.int (bI (F_X5_isRow (x_sh s k3)))]) (rV (rest := []) F (c_X5_isRow D cA (fun i => ax (46+2*k3+i)) (x_sh s k3) l) lk_X8_98 (Nat.le_of_ble_eq_true rfl) (preRO hK hS hAb (pg_sh hk4 hP)) (rcv_5 hK hP (q0 := (46+2*k3)) (xp_sh cA ax s k3 hk4)) rfl hl rfl (Nat.le_of_ble_eq_true rfl) (dd D_X8_element 7 rfl) ⟨Nat.le_of_ble_eq_true rfl, Nat.le_of_ble_eq_true rfl⟩) rfl ?_
    refine x_bif_ne (tgt := 21) F.1 F.2.1 (dd D_X8_element 8 rfl) rfl h (fun c7 h => ?_) (fun c7 h => ?_)
    · refine lv_aload_n F.1 F.2.1 (dd D_X8_element 11 rfl) rfl (lv_at hl 0 rfl) ?_
      refine lv_iload_n F.1 F.2.1 (dd D_X8_element 12 rfl) rfl (lv_at hl 3 rfl) ?_
      obtain ⟨r5, e6, h⟩ := Option.bind_eq_some_iff.mp h
      refine ro_go (st' := [.long r5]) (rV (rest := []) F (c_X5_at D cA (fun i => ax (46+2*k3+i)) (x_sh s k3) n p2 r5 e6 l) lk_X8_101 (Nat.le_of_ble_eq_true rfl) (preRO hK hS hAb (pg_sh hk4 hP)) (rcv_5 hK hP (q0 := (46+2*k3)) (xp_sh cA ax s k3 hk4)) rfl hl rfl (Nat.le_of_ble_eq_true rfl) (dd D_X8_element 13 rfl) ⟨Nat.le_of_ble_eq_true rfl, Nat.le_of_ble_eq_true rfl⟩) rfl ?_
      exact ro_l (R := rmOf 1 0 0) F hr hlk (congrArg (Option.map Value.long) h) (dd D_X8_element 14 rfl)
    · refine lv_lconst (v := (0 : Int64)) F.1 F.2.1 (dd D_X8_element 9 rfl) kl_0 ?_
      refine lv_goto (tgt := 26) F.1 F.2.1 (dd D_X8_element 10 rfl) rfl ?_
      exact ro_l (R := rmOf 1 0 0) F hr hlk (congrArg (Option.map Value.long) h) (dd D_X8_element 14 rfl)
def F_X8_holds (n : Nat) (s : XS) (p1 : Int32) : Option Int32 := (((F_X8_shelfAt n s p1)).bind fun r1 => oM r1 (some ((-1 : Int32))) (fun k3 => gd (decide (k3 < 8)) (some ((F_X5_content (x_sh s k3))))))
set_option maxHeartbeats 4000000 in
set_option maxRecDepth 100000 in
theorem c_X8_holds (D : va_G) (cA : Nat → ClassId) (ax : Nat → Nat) (s : XS) (n : Nat) (p1 : Int32) (r : Int32) (h : F_X8_holds n s p1 = some r) : RO m_X8_holds 1 D cA [.ref (ax 0), .int p1] (xW cA ax s) (some (.int r)) := by
  refine RO.ofW gy_X8_holds.2.2 (Nat.le_of_ble_eq_true rfl) ?_
  intro l p e sM m below meth c F hr hlk hK hP hS hAb ls hl
  have hl : lv_has ls 3 [(0, .ref (ax 0)), (1, .int p1)] := hl
  unfold F_X8_holds at h
  refine lv_aload_n F.1 F.2.1 (dd D_X8_holds 0 rfl) rfl (lv_at hl 0 rfl) ?_
  refine lv_iload_n F.1 F.2.1 (dd D_X8_holds 1 rfl) rfl (lv_at hl 1 rfl) ?_
  obtain ⟨r1, e2, h⟩ := Option.bind_eq_some_iff.mp h
  refine ro_go (st' := [va_rf (Option.map (fun j => ax (46+2*j)) r1)]) (rV (rest := []) F (c_X8_shelfAt D cA ax s n p1 r1 e2 l) lk_X8_56 (Nat.le_of_ble_eq_true rfl) (preRO hK hS hAb hP) (rcv_8 hK hP (q0 := (0)) (xp_0 cA ax s)) rfl hl rfl (Nat.le_of_ble_eq_true rfl) (dd D_X8_holds 2 rfl) ⟨Nat.le_of_ble_eq_true rfl, Nat.le_of_ble_eq_true rfl⟩) rfl ?_
  cases r1 with
  | none =>
    dsimp only [oM] at h
    refine lv_astore_nN (lv' := [(2, .null), (0, .ref (ax 0)), (1, .int p1)]) F.1 F.2.1 (dd D_X8_holds 3 rfl) rfl hl (Nat.le_of_ble_eq_true rfl) rfl (fun ls hl => ?_)
    refine lv_aload_nN F.1 F.2.1 (dd D_X8_holds 4 rfl) rfl (lv_at hl 0 rfl) ?_
    refine lv_ifnonnullN F.1 F.2.1 (dd D_X8_holds 5 rfl) ?_
    refine lv_iconst (v := (-1 : Int32)) F.1 F.2.1 (dd D_X8_holds 6 rfl) ki_m1 ?_
    refine lv_goto (tgt := 18) F.1 F.2.1 (dd D_X8_holds 7 rfl) rfl ?_
    exact ro_i (R := rmOf 1 0 0) F hr hlk (congrArg (Option.map Value.int) h) (dd D_X8_holds 10 rfl)
  | some k3 =>
    dsimp only [oM] at h
    obtain ⟨hk4, h⟩ := gd_some (b := decide (k3 < 8)) h
    have hk4 := of_decide_eq_true hk4
    refine lv_astore_n (lv' := [(2, .ref (ax (46+2*k3))), (0, .ref (ax 0)), (1, .int p1)]) F.1 F.2.1 (dd D_X8_holds 3 rfl) rfl hl (Nat.le_of_ble_eq_true rfl) rfl (fun ls hl => ?_)
    refine lv_aload_n F.1 F.2.1 (dd D_X8_holds 4 rfl) rfl (lv_at hl 0 rfl) ?_
    refine lv_ifnonnull (tgt := 14) F.1 F.2.1 (dd D_X8_holds 5 rfl) rfl ?_
    refine lv_aload_n F.1 F.2.1 (dd D_X8_holds 8 rfl) rfl (lv_at hl 0 rfl) ?_
    refine ro_go (st' := [.int (F_X5_content (x_sh s k3))]) (rV (rest := []) F (c_X5_content D cA (fun i => ax (46+2*k3+i)) (x_sh s k3) l) lk_X8_105 (Nat.le_of_ble_eq_true rfl) (preRO hK hS hAb (pg_sh hk4 hP)) (rcv_5 hK hP (q0 := (46+2*k3)) (xp_sh cA ax s k3 hk4)) rfl hl rfl (Nat.le_of_ble_eq_true rfl) (dd D_X8_holds 9 rfl) ⟨Nat.le_of_ble_eq_true rfl, Nat.le_of_ble_eq_true rfl⟩) rfl ?_
    exact ro_i (R := rmOf 1 0 0) F hr hlk (congrArg (Option.map Value.int) h) (dd D_X8_holds 10 rfl)
def F_X8_evening (n : Nat) (s : XS) (p1 : Int32) (p2 : Int32) (p3 : Int32) : Option (Int32 × XS) := (((F_X8_shelfAt n s p1)).bind fun r1 => oM r1 ((((F_X8_refuse n s (-2 : Int32))).bind fun r5 => some (r5.1, r5.2))) (fun k3 => gd (decide (k3 < 8)) (bf (F_X8_isKind p2) (bf (F_X8_isDay p3) (some ((1 : Int32), (x_set_sh s (va_up (x_sh s) k3 (F_X5_putEvening (x_sh s k3) p2 p3))))) ((((F_X8_refuse n s (-2 : Int32))).bind fun r9 => some (r9.1, r9.2)))) ((((F_X8_refuse n s (-2 : Int32))).bind fun r7 => some (r7.1, r7.2))))))
set_option maxHeartbeats 4000000 in
set_option maxRecDepth 100000 in
theorem c_X8_evening (D : va_G) (cA : Nat → ClassId) (ax : Nat → Nat) (s : XS) (n : Nat) (p1 : Int32) (p2 : Int32) (p3 : Int32) (r : (Int32 × XS)) (h : F_X8_evening n s p1 p2 p3 = some r) : RW m_X8_evening 2 0 0 D cA [.ref (ax 0), .int p1, .int p2, .int p3] (xW cA ax s) (exq (some (.int r.1)) (xW cA ax r.2)) := by
  refine RW.ofW gy_X8_evening.2.2 (Nat.le_of_ble_eq_true rfl) ?_
  intro l p e sM m below meth c A H locs F hr hlk hnm hK hP hD hS hA hAb ls hl
  have hl : lv_has ls 5 [(0, .ref (ax 0)), (1, .int p1), (2, .int p2), (3, .int p3)] := hl
  unfold F_X8_evening at h
  refine lv_aload_n F.1 F.2.1 (dd D_X8_evening 0 rfl) rfl (lv_at hl 0 rfl) ?_
  refine lv_iload_n F.1 F.2.1 (dd D_X8_evening 1 rfl) rfl (lv_at hl 1 rfl) ?_
  obtain ⟨r1, e2, h⟩ := Option.bind_eq_some_iff.mp h
  refine ro_go (st' := [va_rf (Option.map (fun j => ax (46+2*j)) r1)]) (rV (rest := []) F (c_X8_shelfAt D cA ax s n p1 r1 e2 l) lk_X8_56 (Nat.le_of_ble_eq_true rfl) (preRO hK hS hAb hP) (rcv_8 hK hP (q0 := (0)) (xp_0 cA ax s)) rfl hl rfl (Nat.le_of_ble_eq_true rfl) (dd D_X8_evening 2 rfl) ⟨Nat.le_of_ble_eq_true rfl, Nat.le_of_ble_eq_true rfl⟩) rfl ?_
  cases r1 with
  | none =>
    dsimp only [oM] at h
    refine lv_astoreN (lv' := [(4, .null), (0, .ref (ax 0)), (1, .int p1), (2, .int p2), (3, .int p3)]) F.1 F.2.1 (dd D_X8_evening 3 rfl) hl (Nat.le_of_ble_eq_true rfl) rfl (fun ls hl => ?_)
    refine lv_aloadN F.1 F.2.1 (dd D_X8_evening 4 rfl) (lv_at hl 0 rfl) ?_
    refine lv_ifnullN (tgt := 26) F.1 F.2.1 (dd D_X8_evening 5 rfl) rfl ?_
    refine lv_aload_n F.1 F.2.1 (dd D_X8_evening 12 rfl) rfl (lv_at hl 1 rfl) ?_
    refine lv_bipush (v := (-2 : Int32)) F.1 F.2.1 (dd D_X8_evening 13 rfl) kb_m2 ?_
    obtain ⟨r5, e6, h⟩ := Option.bind_eq_some_iff.mp h
    refine rwe_all (st' := [.int r5.1]) hD hS hA (rV (rest := []) F (c_X8_refuse D cA ax s n (-2 : Int32) r5 e6 l H.size) lk_X8_64 (Nat.le_of_ble_eq_true rfl) (preRW hK hS hAb hP hD) (rcv_8 hK hP (q0 := (0)) (xp_0 cA ax s)) rfl hl rfl (Nat.le_of_ble_eq_true rfl) (dd D_X8_evening 14 rfl) ⟨Nat.le_of_ble_eq_true rfl, Nat.le_of_ble_eq_true rfl⟩) rfl (fun H locs hP hD hS => ?_)
    obtain rfl := Option.some.inj h
    exact rw_i (R := rmOf 2 0 0) F hP hD hS hr hlk ⟨Nat.le_of_ble_eq_true rfl, Nat.le_of_ble_eq_true rfl⟩ ⟨rfl, rfl⟩ (dd D_X8_evening 15 rfl)
  | some k3 =>
    dsimp only [oM] at h
    obtain ⟨hk4, h⟩ := gd_some (b := decide (k3 < 8)) h
    have hk4 := of_decide_eq_true hk4
    refine lv_astore (lv' := [(4, .ref (ax (46+2*k3))), (0, .ref (ax 0)), (1, .int p1), (2, .int p2), (3, .int p3)]) F.1 F.2.1 (dd D_X8_evening 3 rfl) hl (Nat.le_of_ble_eq_true rfl) rfl (fun ls hl => ?_)
    refine lv_aload F.1 F.2.1 (dd D_X8_evening 4 rfl) (lv_at hl 0 rfl) ?_
    refine lv_ifnull F.1 F.2.1 (dd D_X8_evening 5 rfl) ?_
    refine lv_iload_n F.1 F.2.1 (dd D_X8_evening 6 rfl) rfl (lv_at hl 3 rfl) ?_
    refine ro_go (st' := [.int (bI (F_X8_isKind p2))]) (rS (rest := []) F (c_X8_isKind D cA p2 l) lk_X8_109 (Nat.le_of_ble_eq_true rfl) (preRO hK hS hAb (emP)) rfl hl rfl (Nat.le_of_ble_eq_true rfl) (dd D_X8_evening 7 rfl) ⟨Nat.le_of_ble_eq_true rfl, Nat.le_of_ble_eq_true rfl⟩) rfl ?_
    refine x_bif_eq (tgt := 26) F.1 F.2.1 (dd D_X8_evening 8 rfl) rfl h (fun c12 h => ?_) (fun c12 h => ?_)
    · refine lv_aload_n F.1 F.2.1 (dd D_X8_evening 12 rfl) rfl (lv_at hl 1 rfl) ?_
      refine lv_bipush (v := (-2 : Int32)) F.1 F.2.1 (dd D_X8_evening 13 rfl) kb_m2 ?_
      obtain ⟨r7, e8, h⟩ := Option.bind_eq_some_iff.mp h
      refine rwe_all (st' := [.int r7.1]) hD hS hA (rV (rest := []) F (c_X8_refuse D cA ax s n (-2 : Int32) r7 e8 l H.size) lk_X8_64 (Nat.le_of_ble_eq_true rfl) (preRW hK hS hAb hP hD) (rcv_8 hK hP (q0 := (0)) (xp_0 cA ax s)) rfl hl rfl (Nat.le_of_ble_eq_true rfl) (dd D_X8_evening 14 rfl) ⟨Nat.le_of_ble_eq_true rfl, Nat.le_of_ble_eq_true rfl⟩) rfl (fun H locs hP hD hS => ?_)
      obtain rfl := Option.some.inj h
      exact rw_i (R := rmOf 2 0 0) F hP hD hS hr hlk ⟨Nat.le_of_ble_eq_true rfl, Nat.le_of_ble_eq_true rfl⟩ ⟨rfl, rfl⟩ (dd D_X8_evening 15 rfl)
    · refine lv_iload_n F.1 F.2.1 (dd D_X8_evening 9 rfl) rfl (lv_at hl 4 rfl) ?_
      refine ro_go (st' := [.int (bI (F_X8_isDay p3))]) (rS (rest := []) F (c_X8_isDay D cA p3 l) lk_X8_113 (Nat.le_of_ble_eq_true rfl) (preRO hK hS hAb (emP)) rfl hl rfl (Nat.le_of_ble_eq_true rfl) (dd D_X8_evening 10 rfl) ⟨Nat.le_of_ble_eq_true rfl, Nat.le_of_ble_eq_true rfl⟩) rfl ?_
      refine x_bif_ne (tgt := 33) F.1 F.2.1 (dd D_X8_evening 11 rfl) rfl h (fun c11 h => ?_) (fun c11 h => ?_)
      · refine lv_aload F.1 F.2.1 (dd D_X8_evening 16 rfl) (lv_at hl 0 rfl) ?_
        refine lv_iload_n F.1 F.2.1 (dd D_X8_evening 17 rfl) rfl (lv_at hl 3 rfl) ?_
        refine lv_iload_n F.1 F.2.1 (dd D_X8_evening 18 rfl) rfl (lv_at hl 4 rfl) ?_
        refine rwe (V := none) (wc := (shelfW cA (fun i => ax (46+2*k3+i)) (x_sh s k3))) (wc' := (shelfW cA (fun i => ax (46+2*k3+i)) (F_X5_putEvening (x_sh s k3) p2 p3))) (st' := []) (W' := (xW cA ax (x_set_sh s (va_up (x_sh s) k3 (F_X5_putEvening (x_sh s k3) p2 p3))))) hP hD hS hA [46+2*k3, 46+2*k3+1] (jc_sh cA ax s k3 hk4) (nd_sh k3) rfl (rV (rest := []) F (c_X5_putEvening D cA (fun i => ax (46+2*k3+i)) (x_sh s k3) p2 p3 l H.size) lk_X8_116 (Nat.le_of_ble_eq_true rfl) (preRW hK hS hAb (selP (is := [46+2*k3, 46+2*k3+1]) hP (jc_sh cA ax s k3 hk4)) (selD (is := [46+2*k3, 46+2*k3+1]) hD (nd_sh k3) (jc_sh cA ax s k3 hk4))) (rcv_5 hK hP (q0 := (46+2*k3)) (xp_sh cA ax s k3 hk4)) rfl hl rfl (Nat.le_of_ble_eq_true rfl) (dd D_X8_evening 19 rfl) ⟨Nat.le_of_ble_eq_true rfl, Nat.le_of_ble_eq_true rfl⟩) (js_sh cA ax s (F_X5_putEvening (x_sh s k3) p2 p3) k3 hk4) rfl (fun H locs hP hD hS => ?_)
        refine lv_iconst (v := (1 : Int32)) F.1 F.2.1 (dd D_X8_evening 20 rfl) ki_1 ?_
        obtain rfl := Option.some.inj h
        exact rw_i (R := rmOf 2 0 0) F hP hD hS hr hlk ⟨Nat.le_of_ble_eq_true rfl, Nat.le_of_ble_eq_true rfl⟩ ⟨rfl, rfl⟩ (dd D_X8_evening 21 rfl)
      · refine lv_aload_n F.1 F.2.1 (dd D_X8_evening 12 rfl) rfl (lv_at hl 1 rfl) ?_
        refine lv_bipush (v := (-2 : Int32)) F.1 F.2.1 (dd D_X8_evening 13 rfl) kb_m2 ?_
        obtain ⟨r9, e10, h⟩ := Option.bind_eq_some_iff.mp h
        refine rwe_all (st' := [.int r9.1]) hD hS hA (rV (rest := []) F (c_X8_refuse D cA ax s n (-2 : Int32) r9 e10 l H.size) lk_X8_64 (Nat.le_of_ble_eq_true rfl) (preRW hK hS hAb hP hD) (rcv_8 hK hP (q0 := (0)) (xp_0 cA ax s)) rfl hl rfl (Nat.le_of_ble_eq_true rfl) (dd D_X8_evening 14 rfl) ⟨Nat.le_of_ble_eq_true rfl, Nat.le_of_ble_eq_true rfl⟩) rfl (fun H locs hP hD hS => ?_)
        obtain rfl := Option.some.inj h
        exact rw_i (R := rmOf 2 0 0) F hP hD hS hr hlk ⟨Nat.le_of_ble_eq_true rfl, Nat.le_of_ble_eq_true rfl⟩ ⟨rfl, rfl⟩ (dd D_X8_evening 15 rfl)
def F_X8_says (n : Nat) (s : XS) (p1 : Int32) (p2 : Int32) : Option (Int32 × XS) := (((F_X8_shelfAt n s p1)).bind fun r1 => oM r1 ((((F_X8_refuse n s (-2 : Int32))).bind fun r5 => some (r5.1, r5.2))) (fun k3 => gd (decide (k3 < 8)) (bf (F_X8_isKind p2) (bf (F_X5_isBare (x_sh s k3)) ((((F_X8_refuse n s (-4 : Int32))).bind fun r15 => some (r15.1, r15.2))) (bf (F_X5_isRow (x_sh s k3)) ((((F_X8_refuse n s (-3 : Int32))).bind fun r7 => some (r7.1, r7.2))) (bf (F_X8_isUnder (F_X5_kind (x_sh s k3)) p2) ((((F_X2_saysOf n s (F_X5_day (x_sh s k3)) p2)).bind fun r9 => some (r9, s))) ((((F_X8_refuse n s (-3 : Int32))).bind fun r11 => some (r11.1, r11.2)))))) ((((F_X8_refuse n s (-2 : Int32))).bind fun r18 => some (r18.1, r18.2))))))
set_option maxHeartbeats 4000000 in
set_option maxRecDepth 100000 in
theorem c_X8_says (D : va_G) (cA : Nat → ClassId) (ax : Nat → Nat) (s : XS) (n : Nat) (p1 : Int32) (p2 : Int32) (r : (Int32 × XS)) (h : F_X8_says n s p1 p2 = some r) : RW m_X8_says 5 0 0 D cA [.ref (ax 0), .int p1, .int p2] (xW cA ax s) (exq (some (.int r.1)) (xW cA ax r.2)) := by
  refine RW.ofW gy_X8_says.2.2 (Nat.le_of_ble_eq_true rfl) ?_
  intro l p e sM m below meth c A H locs F hr hlk hnm hK hP hD hS hA hAb ls hl
  have hl : lv_has ls 4 [(0, .ref (ax 0)), (1, .int p1), (2, .int p2)] := hl
  unfold F_X8_says at h
  refine lv_aload_n F.1 F.2.1 (dd D_X8_says 0 rfl) rfl (lv_at hl 0 rfl) ?_
  refine lv_iload_n F.1 F.2.1 (dd D_X8_says 1 rfl) rfl (lv_at hl 1 rfl) ?_
  obtain ⟨r1, e2, h⟩ := Option.bind_eq_some_iff.mp h
  refine ro_go (st' := [va_rf (Option.map (fun j => ax (46+2*j)) r1)]) (rV (rest := []) F (c_X8_shelfAt D cA ax s n p1 r1 e2 l) lk_X8_56 (Nat.le_of_ble_eq_true rfl) (preRO hK hS hAb hP) (rcv_8 hK hP (q0 := (0)) (xp_0 cA ax s)) rfl hl rfl (Nat.le_of_ble_eq_true rfl) (dd D_X8_says 2 rfl) ⟨Nat.le_of_ble_eq_true rfl, Nat.le_of_ble_eq_true rfl⟩) rfl ?_
  cases r1 with
  | none =>
    dsimp only [oM] at h
    refine lv_astore_nN (lv' := [(3, .null), (0, .ref (ax 0)), (1, .int p1), (2, .int p2)]) F.1 F.2.1 (dd D_X8_says 3 rfl) rfl hl (Nat.le_of_ble_eq_true rfl) rfl (fun ls hl => ?_)
    refine lv_aload_nN F.1 F.2.1 (dd D_X8_says 4 rfl) rfl (lv_at hl 0 rfl) ?_
    refine lv_ifnullN (tgt := 17) F.1 F.2.1 (dd D_X8_says 5 rfl) rfl ?_
    refine lv_aload_n F.1 F.2.1 (dd D_X8_says 9 rfl) rfl (lv_at hl 1 rfl) ?_
    refine lv_bipush (v := (-2 : Int32)) F.1 F.2.1 (dd D_X8_says 10 rfl) kb_m2 ?_
    obtain ⟨r5, e6, h⟩ := Option.bind_eq_some_iff.mp h
    refine rwe_all (st' := [.int r5.1]) hD hS hA (rV (rest := []) F (c_X8_refuse D cA ax s n (-2 : Int32) r5 e6 l H.size) lk_X8_64 (Nat.le_of_ble_eq_true rfl) (preRW hK hS hAb hP hD) (rcv_8 hK hP (q0 := (0)) (xp_0 cA ax s)) rfl hl rfl (Nat.le_of_ble_eq_true rfl) (dd D_X8_says 11 rfl) ⟨Nat.le_of_ble_eq_true rfl, Nat.le_of_ble_eq_true rfl⟩) rfl (fun H locs hP hD hS => ?_)
    obtain rfl := Option.some.inj h
    exact rw_i (R := rmOf 5 0 0) F hP hD hS hr hlk ⟨Nat.le_of_ble_eq_true rfl, Nat.le_of_ble_eq_true rfl⟩ ⟨rfl, rfl⟩ (dd D_X8_says 12 rfl)
  | some k3 =>
    dsimp only [oM] at h
    obtain ⟨hk4, h⟩ := gd_some (b := decide (k3 < 8)) h
    have hk4 := of_decide_eq_true hk4
    refine lv_astore_n (lv' := [(3, .ref (ax (46+2*k3))), (0, .ref (ax 0)), (1, .int p1), (2, .int p2)]) F.1 F.2.1 (dd D_X8_says 3 rfl) rfl hl (Nat.le_of_ble_eq_true rfl) rfl (fun ls hl => ?_)
    refine lv_aload_n F.1 F.2.1 (dd D_X8_says 4 rfl) rfl (lv_at hl 0 rfl) ?_
    refine lv_ifnull F.1 F.2.1 (dd D_X8_says 5 rfl) ?_
    refine lv_iload_n F.1 F.2.1 (dd D_X8_says 6 rfl) rfl (lv_at hl 3 rfl) ?_
    refine ro_go (st' := [.int (bI (F_X8_isKind p2))]) (rS (rest := []) F (c_X8_isKind D cA p2 l) lk_X8_109 (Nat.le_of_ble_eq_true rfl) (preRO hK hS hAb (emP)) rfl hl rfl (Nat.le_of_ble_eq_true rfl) (dd D_X8_says 7 rfl) ⟨Nat.le_of_ble_eq_true rfl, Nat.le_of_ble_eq_true rfl⟩) rfl ?_
    refine x_bif_ne (tgt := 24) F.1 F.2.1 (dd D_X8_says 8 rfl) rfl h (fun c20 h => ?_) (fun c20 h => ?_)
    · refine lv_aload_n F.1 F.2.1 (dd D_X8_says 13 rfl) rfl (lv_at hl 0 rfl) ?_
      refine ro_go (st' := [.int (bI (F_X5_isBare (x_sh s k3)))]) (rV (rest := []) F (c_X5_isBare D cA (fun i => ax (46+2*k3+i)) (x_sh s k3) l) lk_X8_91 (Nat.le_of_ble_eq_true rfl) (preRO hK hS hAb (pg_sh hk4 hP)) (rcv_5 hK hP (q0 := (46+2*k3)) (xp_sh cA ax s k3 hk4)) rfl hl rfl (Nat.le_of_ble_eq_true rfl) (dd D_X8_says 14 rfl) ⟨Nat.le_of_ble_eq_true rfl, Nat.le_of_ble_eq_true rfl⟩) rfl ?_
      refine x_bif_eq (tgt := 38) F.1 F.2.1 (dd D_X8_says 15 rfl) rfl h (fun c17 h => ?_) (fun c17 h => ?_)
      · refine lv_aload_n F.1 F.2.1 (dd D_X8_says 20 rfl) rfl (lv_at hl 0 rfl) ?_
        refine ro_go (st' := [.int (bI (F_X5_isRow (x_sh s k3)))]) (rV (rest := []) F (c_X5_isRow D cA (fun i => ax (46+2*k3+i)) (x_sh s k3) l) lk_X8_98 (Nat.le_of_ble_eq_true rfl) (preRO hK hS hAb (pg_sh hk4 hP)) (rcv_5 hK hP (q0 := (46+2*k3)) (xp_sh cA ax s k3 hk4)) rfl hl rfl (Nat.le_of_ble_eq_true rfl) (dd D_X8_says 21 rfl) ⟨Nat.le_of_ble_eq_true rfl, Nat.le_of_ble_eq_true rfl⟩) rfl ?_
        refine x_bif_ne (tgt := 56) F.1 F.2.1 (dd D_X8_says 22 rfl) rfl h (fun c14 h => ?_) (fun c14 h => ?_)
        · refine lv_aload_n F.1 F.2.1 (dd D_X8_says 28 rfl) rfl (lv_at hl 1 rfl) ?_
          refine lv_bipush (v := (-3 : Int32)) F.1 F.2.1 (dd D_X8_says 29 rfl) kb_m3 ?_
          obtain ⟨r7, e8, h⟩ := Option.bind_eq_some_iff.mp h
          refine rwe_all (st' := [.int r7.1]) hD hS hA (rV (rest := []) F (c_X8_refuse D cA ax s n (-3 : Int32) r7 e8 l H.size) lk_X8_64 (Nat.le_of_ble_eq_true rfl) (preRW hK hS hAb hP hD) (rcv_8 hK hP (q0 := (0)) (xp_0 cA ax s)) rfl hl rfl (Nat.le_of_ble_eq_true rfl) (dd D_X8_says 30 rfl) ⟨Nat.le_of_ble_eq_true rfl, Nat.le_of_ble_eq_true rfl⟩) rfl (fun H locs hP hD hS => ?_)
          obtain rfl := Option.some.inj h
          exact rw_i (R := rmOf 5 0 0) F hP hD hS hr hlk ⟨Nat.le_of_ble_eq_true rfl, Nat.le_of_ble_eq_true rfl⟩ ⟨rfl, rfl⟩ (dd D_X8_says 31 rfl)
        · refine lv_aload_n F.1 F.2.1 (dd D_X8_says 23 rfl) rfl (lv_at hl 0 rfl) ?_
          refine ro_go (st' := [.int (F_X5_kind (x_sh s k3))]) (rV (rest := []) F (c_X5_kind D cA (fun i => ax (46+2*k3+i)) (x_sh s k3) l) lk_X8_119 (Nat.le_of_ble_eq_true rfl) (preRO hK hS hAb (pg_sh hk4 hP)) (rcv_5 hK hP (q0 := (46+2*k3)) (xp_sh cA ax s k3 hk4)) rfl hl rfl (Nat.le_of_ble_eq_true rfl) (dd D_X8_says 24 rfl) ⟨Nat.le_of_ble_eq_true rfl, Nat.le_of_ble_eq_true rfl⟩) rfl ?_
          refine lv_iload_n F.1 F.2.1 (dd D_X8_says 25 rfl) rfl (lv_at hl 3 rfl) ?_
          refine ro_go (st' := [.int (bI (F_X8_isUnder (F_X5_kind (x_sh s k3)) p2))]) (rS (rest := []) F (c_X8_isUnder D cA (F_X5_kind (x_sh s k3)) p2 l) lk_X8_122 (Nat.le_of_ble_eq_true rfl) (preRO hK hS hAb (emP)) rfl hl rfl (Nat.le_of_ble_eq_true rfl) (dd D_X8_says 26 rfl) ⟨Nat.le_of_ble_eq_true rfl, Nat.le_of_ble_eq_true rfl⟩) rfl ?_
          refine x_bif_ne (tgt := 63) F.1 F.2.1 (dd D_X8_says 27 rfl) rfl h (fun c13 h => ?_) (fun c13 h => ?_)
          · refine lv_aload_n F.1 F.2.1 (dd D_X8_says 32 rfl) rfl (lv_at hl 1 rfl) ?_
            refine getF F hK hP lf_X8_27 (0) (xp_0 cA ax s) rfl (dd D_X8_says 33 rfl) ?_
            refine lv_aload_n F.1 F.2.1 (dd D_X8_says 34 rfl) rfl (lv_at hl 0 rfl) ?_
            refine ro_go (st' := [.int (F_X5_day (x_sh s k3)), .ref (ax 40)]) (rV (rest := [.ref (ax 40)]) F (c_X5_day D cA (fun i => ax (46+2*k3+i)) (x_sh s k3) l) lk_X8_125 (Nat.le_of_ble_eq_true rfl) (preRO hK hS hAb (pg_sh hk4 hP)) (rcv_5 hK hP (q0 := (46+2*k3)) (xp_sh cA ax s k3 hk4)) rfl hl rfl (Nat.le_of_ble_eq_true rfl) (dd D_X8_says 35 rfl) ⟨Nat.le_of_ble_eq_true rfl, Nat.le_of_ble_eq_true rfl⟩) rfl ?_
            refine lv_iload_n F.1 F.2.1 (dd D_X8_says 36 rfl) rfl (lv_at hl 3 rfl) ?_
            obtain ⟨r9, e10, h⟩ := Option.bind_eq_some_iff.mp h
            refine ro_go (st' := [.int r9]) (rV (rest := []) F (c_X2_saysOf D cA ax s n (F_X5_day (x_sh s k3)) p2 r9 e10 l) lk_X8_128 (Nat.le_of_ble_eq_true rfl) (preRO hK hS hAb hP) (rcv_2 hK hP (q0 := (40)) (xp_40 cA ax s)) rfl hl rfl (Nat.le_of_ble_eq_true rfl) (dd D_X8_says 37 rfl) ⟨Nat.le_of_ble_eq_true rfl, Nat.le_of_ble_eq_true rfl⟩) rfl ?_
            obtain rfl := Option.some.inj h
            exact rw_i (R := rmOf 5 0 0) F hP hD hS hr hlk ⟨Nat.le_of_ble_eq_true rfl, Nat.le_of_ble_eq_true rfl⟩ ⟨rfl, rfl⟩ (dd D_X8_says 38 rfl)
          · refine lv_aload_n F.1 F.2.1 (dd D_X8_says 28 rfl) rfl (lv_at hl 1 rfl) ?_
            refine lv_bipush (v := (-3 : Int32)) F.1 F.2.1 (dd D_X8_says 29 rfl) kb_m3 ?_
            obtain ⟨r11, e12, h⟩ := Option.bind_eq_some_iff.mp h
            refine rwe_all (st' := [.int r11.1]) hD hS hA (rV (rest := []) F (c_X8_refuse D cA ax s n (-3 : Int32) r11 e12 l H.size) lk_X8_64 (Nat.le_of_ble_eq_true rfl) (preRW hK hS hAb hP hD) (rcv_8 hK hP (q0 := (0)) (xp_0 cA ax s)) rfl hl rfl (Nat.le_of_ble_eq_true rfl) (dd D_X8_says 30 rfl) ⟨Nat.le_of_ble_eq_true rfl, Nat.le_of_ble_eq_true rfl⟩) rfl (fun H locs hP hD hS => ?_)
            obtain rfl := Option.some.inj h
            exact rw_i (R := rmOf 5 0 0) F hP hD hS hr hlk ⟨Nat.le_of_ble_eq_true rfl, Nat.le_of_ble_eq_true rfl⟩ ⟨rfl, rfl⟩ (dd D_X8_says 31 rfl)
      · refine lv_aload_n F.1 F.2.1 (dd D_X8_says 16 rfl) rfl (lv_at hl 1 rfl) ?_
        refine lv_bipush (v := (-4 : Int32)) F.1 F.2.1 (dd D_X8_says 17 rfl) kb_m4 ?_
        obtain ⟨r15, e16, h⟩ := Option.bind_eq_some_iff.mp h
        refine rwe_all (st' := [.int r15.1]) hD hS hA (rV (rest := []) F (c_X8_refuse D cA ax s n (-4 : Int32) r15 e16 l H.size) lk_X8_64 (Nat.le_of_ble_eq_true rfl) (preRW hK hS hAb hP hD) (rcv_8 hK hP (q0 := (0)) (xp_0 cA ax s)) rfl hl rfl (Nat.le_of_ble_eq_true rfl) (dd D_X8_says 18 rfl) ⟨Nat.le_of_ble_eq_true rfl, Nat.le_of_ble_eq_true rfl⟩) rfl (fun H locs hP hD hS => ?_)
        obtain rfl := Option.some.inj h
        exact rw_i (R := rmOf 5 0 0) F hP hD hS hr hlk ⟨Nat.le_of_ble_eq_true rfl, Nat.le_of_ble_eq_true rfl⟩ ⟨rfl, rfl⟩ (dd D_X8_says 19 rfl)
    · refine lv_aload_n F.1 F.2.1 (dd D_X8_says 9 rfl) rfl (lv_at hl 1 rfl) ?_
      refine lv_bipush (v := (-2 : Int32)) F.1 F.2.1 (dd D_X8_says 10 rfl) kb_m2 ?_
      obtain ⟨r18, e19, h⟩ := Option.bind_eq_some_iff.mp h
      refine rwe_all (st' := [.int r18.1]) hD hS hA (rV (rest := []) F (c_X8_refuse D cA ax s n (-2 : Int32) r18 e19 l H.size) lk_X8_64 (Nat.le_of_ble_eq_true rfl) (preRW hK hS hAb hP hD) (rcv_8 hK hP (q0 := (0)) (xp_0 cA ax s)) rfl hl rfl (Nat.le_of_ble_eq_true rfl) (dd D_X8_says 11 rfl) ⟨Nat.le_of_ble_eq_true rfl, Nat.le_of_ble_eq_true rfl⟩) rfl (fun H locs hP hD hS => ?_)
      obtain rfl := Option.some.inj h
      exact rw_i (R := rmOf 5 0 0) F hP hD hS hr hlk ⟨Nat.le_of_ble_eq_true rfl, Nat.le_of_ble_eq_true rfl⟩ ⟨rfl, rfl⟩ (dd D_X8_says 12 rfl)
def F_X8_isSo (n : Nat) (s : XS) (p1 : Int32) : Option (Int32 × XS) := (((F_X8_shelfAt n s p1)).bind fun r1 => oM r1 ((((F_X8_refuse n s (-2 : Int32))).bind fun r5 => some (r5.1, r5.2))) (fun k3 => gd (decide (k3 < 8)) (bf (F_X5_isBare (x_sh s k3)) ((((F_X8_refuse n s (-4 : Int32))).bind fun r14 => some (r14.1, r14.2))) (bf (F_X5_isRow (x_sh s k3)) ((((F_X8_refuse n s (-3 : Int32))).bind fun r11 => some (r11.1, r11.2))) ((((F_X2_fits n s (F_X5_kind (x_sh s k3)) (0 : Int32) (0 : Int32) (0 : Int32) none (F_X5_day (x_sh s k3)))).bind fun r8 => bf r8 (some ((1 : Int32), s)) (some ((0 : Int32), s))))))))
set_option maxHeartbeats 4000000 in
set_option maxRecDepth 100000 in
theorem c_X8_isSo (D : va_G) (cA : Nat → ClassId) (ax : Nat → Nat) (s : XS) (n : Nat) (p1 : Int32) (r : (Int32 × XS)) (h : F_X8_isSo n s p1 = some r) : RW m_X8_isSo 5 1 5 D cA [.ref (ax 0), .int p1] (xW cA ax s) (exq (some (.int r.1)) (xW cA ax r.2)) := by
  refine RW.ofW gy_X8_isSo.2.2 (Nat.le_of_ble_eq_true rfl) ?_
  intro l p e sM m below meth c A H locs F hr hlk hnm hK hP hD hS hA hAb ls hl
  have hl : lv_has ls 3 [(0, .ref (ax 0)), (1, .int p1)] := hl
  unfold F_X8_isSo at h
  refine lv_aload_n F.1 F.2.1 (dd D_X8_isSo 0 rfl) rfl (lv_at hl 0 rfl) ?_
  refine lv_iload_n F.1 F.2.1 (dd D_X8_isSo 1 rfl) rfl (lv_at hl 1 rfl) ?_
  obtain ⟨r1, e2, h⟩ := Option.bind_eq_some_iff.mp h
  refine ro_go (st' := [va_rf (Option.map (fun j => ax (46+2*j)) r1)]) (rV (rest := []) F (c_X8_shelfAt D cA ax s n p1 r1 e2 l) lk_X8_56 (Nat.le_of_ble_eq_true rfl) (preRO hK hS hAb hP) (rcv_8 hK hP (q0 := (0)) (xp_0 cA ax s)) rfl hl rfl (Nat.le_of_ble_eq_true rfl) (dd D_X8_isSo 2 rfl) ⟨Nat.le_of_ble_eq_true rfl, Nat.le_of_ble_eq_true rfl⟩) rfl ?_
  cases r1 with
  | none =>
    dsimp only [oM] at h
    refine lv_astore_nN (lv' := [(2, .null), (0, .ref (ax 0)), (1, .int p1)]) F.1 F.2.1 (dd D_X8_isSo 3 rfl) rfl hl (Nat.le_of_ble_eq_true rfl) rfl (fun ls hl => ?_)
    refine lv_aload_nN F.1 F.2.1 (dd D_X8_isSo 4 rfl) rfl (lv_at hl 0 rfl) ?_
    refine lv_ifnonnullN F.1 F.2.1 (dd D_X8_isSo 5 rfl) ?_
    refine lv_aload_n F.1 F.2.1 (dd D_X8_isSo 6 rfl) rfl (lv_at hl 1 rfl) ?_
    refine lv_bipush (v := (-2 : Int32)) F.1 F.2.1 (dd D_X8_isSo 7 rfl) kb_m2 ?_
    obtain ⟨r5, e6, h⟩ := Option.bind_eq_some_iff.mp h
    refine rwe_all (st' := [.int r5.1]) hD hS hA (rV (rest := []) F (c_X8_refuse D cA ax s n (-2 : Int32) r5 e6 l H.size) lk_X8_64 (Nat.le_of_ble_eq_true rfl) (preRW hK hS hAb hP hD) (rcv_8 hK hP (q0 := (0)) (xp_0 cA ax s)) rfl hl rfl (Nat.le_of_ble_eq_true rfl) (dd D_X8_isSo 8 rfl) ⟨Nat.le_of_ble_eq_true rfl, Nat.le_of_ble_eq_true rfl⟩) rfl (fun H locs hP hD hS => ?_)
    obtain rfl := Option.some.inj h
    exact rw_i (R := rmOf 5 1 5) F hP hD hS hr hlk ⟨Nat.le_of_ble_eq_true rfl, Nat.le_of_ble_eq_true rfl⟩ ⟨rfl, rfl⟩ (dd D_X8_isSo 9 rfl)
  | some k3 =>
    dsimp only [oM] at h
    obtain ⟨hk4, h⟩ := gd_some (b := decide (k3 < 8)) h
    have hk4 := of_decide_eq_true hk4
    refine lv_astore_n (lv' := [(2, .ref (ax (46+2*k3))), (0, .ref (ax 0)), (1, .int p1)]) F.1 F.2.1 (dd D_X8_isSo 3 rfl) rfl hl (Nat.le_of_ble_eq_true rfl) rfl (fun ls hl => ?_)
    refine lv_aload_n F.1 F.2.1 (dd D_X8_isSo 4 rfl) rfl (lv_at hl 0 rfl) ?_
    refine lv_ifnonnull (tgt := 17) F.1 F.2.1 (dd D_X8_isSo 5 rfl) rfl ?_
    refine lv_aload_n F.1 F.2.1 (dd D_X8_isSo 10 rfl) rfl (lv_at hl 0 rfl) ?_
    refine ro_go (st' := [.int (bI (F_X5_isBare (x_sh s k3)))]) (rV (rest := []) F (c_X5_isBare D cA (fun i => ax (46+2*k3+i)) (x_sh s k3) l) lk_X8_91 (Nat.le_of_ble_eq_true rfl) (preRO hK hS hAb (pg_sh hk4 hP)) (rcv_5 hK hP (q0 := (46+2*k3)) (xp_sh cA ax s k3 hk4)) rfl hl rfl (Nat.le_of_ble_eq_true rfl) (dd D_X8_isSo 11 rfl) ⟨Nat.le_of_ble_eq_true rfl, Nat.le_of_ble_eq_true rfl⟩) rfl ?_
    refine x_bif_eq (tgt := 31) F.1 F.2.1 (dd D_X8_isSo 12 rfl) rfl h (fun c16 h => ?_) (fun c16 h => ?_)
    · refine lv_aload_n F.1 F.2.1 (dd D_X8_isSo 17 rfl) rfl (lv_at hl 0 rfl) ?_
      refine ro_go (st' := [.int (bI (F_X5_isRow (x_sh s k3)))]) (rV (rest := []) F (c_X5_isRow D cA (fun i => ax (46+2*k3+i)) (x_sh s k3) l) lk_X8_98 (Nat.le_of_ble_eq_true rfl) (preRO hK hS hAb (pg_sh hk4 hP)) (rcv_5 hK hP (q0 := (46+2*k3)) (xp_sh cA ax s k3 hk4)) rfl hl rfl (Nat.le_of_ble_eq_true rfl) (dd D_X8_isSo 18 rfl) ⟨Nat.le_of_ble_eq_true rfl, Nat.le_of_ble_eq_true rfl⟩) rfl ?_
      refine x_bif_eq (tgt := 45) F.1 F.2.1 (dd D_X8_isSo 19 rfl) rfl h (fun c13 h => ?_) (fun c13 h => ?_)
      · refine lv_aload_n F.1 F.2.1 (dd D_X8_isSo 24 rfl) rfl (lv_at hl 1 rfl) ?_
        refine getF F hK hP lf_X8_27 (0) (xp_0 cA ax s) rfl (dd D_X8_isSo 25 rfl) ?_
        refine newO F hK hP hD hS hA ln_X8_132 (Nat.le_of_ble_eq_true rfl) (Nat.le_of_ble_eq_true rfl) (dd D_X8_isSo 26 rfl) (fun q7 H hP hD hS => ?_)
        refine lv_dup F.1 F.2.1 (dd D_X8_isSo 27 rfl) rfl ?_
        refine lv_aload_n F.1 F.2.1 (dd D_X8_isSo 28 rfl) rfl (lv_at hl 0 rfl) ?_
        refine ro_go (st' := [.int (F_X5_kind (x_sh s k3)), .ref (q7), .ref (q7), .ref (ax 40)]) (rV (rest := [.ref (q7), .ref (q7), .ref (ax 40)]) F (c_X5_kind D cA (fun i => ax (46+2*k3+i)) (x_sh s k3) l) lk_X8_119 (Nat.le_of_ble_eq_true rfl) (preRO hK hS hAb (pg_sh hk4 (preP hP))) (rcv_5 hK hP (q0 := (46+2*k3)) (gL (xp_sh cA ax s k3 hk4))) rfl hl rfl (Nat.le_of_ble_eq_true rfl) (dd D_X8_isSo 29 rfl) ⟨Nat.le_of_ble_eq_true rfl, Nat.le_of_ble_eq_true rfl⟩) rfl ?_
        refine rwe (V := none) (wc := [(q7, .inr (4, [.int (0 : Int32), .int (0 : Int32), .int (0 : Int32), .int (0 : Int32), .null]))]) (wc' := [(q7, .inr (4, [.int (F_X5_kind (x_sh s k3)), .int (0 : Int32), .int (0 : Int32), .int (0 : Int32), .null]))]) (st' := [.ref (q7), .ref (ax 40)]) (W' := (xW cA ax s) ++ [(q7, .inr (4, [.int (F_X5_kind (x_sh s k3)), .int (0 : Int32), .int (0 : Int32), .int (0 : Int32), .null]))]) hP hD hS hA [63] (jc_last (xp_len cA ax s)) (Nat_nd rfl) rfl (rI (rest := [.ref (q7), .ref (ax 40)]) F (c_X4_init_ D cA q7 (F_X5_kind (x_sh s k3)) l H.size) lk_X8_134 (Nat.le_of_ble_eq_true rfl) (preRW hK hS hAb (selP hP (jc_last (xp_len cA ax s))) (selD hD (Nat_nd rfl) (jc_last (xp_len cA ax s)))) rfl hl rfl (Nat.le_of_ble_eq_true rfl) (dd D_X8_isSo 30 rfl) ⟨Nat.le_of_ble_eq_true rfl, Nat.le_of_ble_eq_true rfl⟩) (js_last (xp_len cA ax s)) rfl (fun H locs hP hD hS => ?_)
        refine lv_aload_n F.1 F.2.1 (dd D_X8_isSo 31 rfl) rfl (lv_at hl 0 rfl) ?_
        refine ro_go (st' := [.int (F_X5_day (x_sh s k3)), .ref (q7), .ref (ax 40)]) (rV (rest := [.ref (q7), .ref (ax 40)]) F (c_X5_day D cA (fun i => ax (46+2*k3+i)) (x_sh s k3) l) lk_X8_125 (Nat.le_of_ble_eq_true rfl) (preRO hK hS hAb (pg_sh hk4 (preP hP))) (rcv_5 hK hP (q0 := (46+2*k3)) (gL (xp_sh cA ax s k3 hk4))) rfl hl rfl (Nat.le_of_ble_eq_true rfl) (dd D_X8_isSo 32 rfl) ⟨Nat.le_of_ble_eq_true rfl, Nat.le_of_ble_eq_true rfl⟩) rfl ?_
        obtain ⟨r8, e9, h⟩ := Option.bind_eq_some_iff.mp h
        refine ro_go (st' := [.int (bI r8)]) (rV (rest := []) F (c_X2_fits D cA ax s q7 (F_X5_kind (x_sh s k3)) (0 : Int32) (0 : Int32) (0 : Int32) none n (F_X5_day (x_sh s k3)) r8 e9 l) lk_X8_137 (Nat.le_of_ble_eq_true rfl) (preRO hK hS hAb hP) (rcv_2 hK hP (q0 := (40)) (gL (xp_40 cA ax s))) rfl hl rfl (Nat.le_of_ble_eq_true rfl) (dd D_X8_isSo 33 rfl) ⟨Nat.le_of_ble_eq_true rfl, Nat.le_of_ble_eq_true rfl⟩) rfl ?_
        refine x_bif_eq (tgt := 74) F.1 F.2.1 (dd D_X8_isSo 34 rfl) rfl h (fun c10 h => ?_) (fun c10 h => ?_)
        · refine lv_iconst (v := (0 : Int32)) F.1 F.2.1 (dd D_X8_isSo 37 rfl) ki_0 ?_
          have hP := preP hP
          have hD := preD hD
          obtain rfl := Option.some.inj h
          exact rw_i (R := rmOf 5 1 5) F hP hD hS hr hlk ⟨Nat.le_of_ble_eq_true rfl, Nat.le_of_ble_eq_true rfl⟩ ⟨rfl, rfl⟩ (dd D_X8_isSo 38 rfl)
        · refine lv_iconst (v := (1 : Int32)) F.1 F.2.1 (dd D_X8_isSo 35 rfl) ki_1 ?_
          refine lv_goto (tgt := 75) F.1 F.2.1 (dd D_X8_isSo 36 rfl) rfl ?_
          have hP := preP hP
          have hD := preD hD
          obtain rfl := Option.some.inj h
          exact rw_i (R := rmOf 5 1 5) F hP hD hS hr hlk ⟨Nat.le_of_ble_eq_true rfl, Nat.le_of_ble_eq_true rfl⟩ ⟨rfl, rfl⟩ (dd D_X8_isSo 38 rfl)
      · refine lv_aload_n F.1 F.2.1 (dd D_X8_isSo 20 rfl) rfl (lv_at hl 1 rfl) ?_
        refine lv_bipush (v := (-3 : Int32)) F.1 F.2.1 (dd D_X8_isSo 21 rfl) kb_m3 ?_
        obtain ⟨r11, e12, h⟩ := Option.bind_eq_some_iff.mp h
        refine rwe_all (st' := [.int r11.1]) hD hS hA (rV (rest := []) F (c_X8_refuse D cA ax s n (-3 : Int32) r11 e12 l H.size) lk_X8_64 (Nat.le_of_ble_eq_true rfl) (preRW hK hS hAb hP hD) (rcv_8 hK hP (q0 := (0)) (xp_0 cA ax s)) rfl hl rfl (Nat.le_of_ble_eq_true rfl) (dd D_X8_isSo 22 rfl) ⟨Nat.le_of_ble_eq_true rfl, Nat.le_of_ble_eq_true rfl⟩) rfl (fun H locs hP hD hS => ?_)
        obtain rfl := Option.some.inj h
        exact rw_i (R := rmOf 5 1 5) F hP hD hS hr hlk ⟨Nat.le_of_ble_eq_true rfl, Nat.le_of_ble_eq_true rfl⟩ ⟨rfl, rfl⟩ (dd D_X8_isSo 23 rfl)
    · refine lv_aload_n F.1 F.2.1 (dd D_X8_isSo 13 rfl) rfl (lv_at hl 1 rfl) ?_
      refine lv_bipush (v := (-4 : Int32)) F.1 F.2.1 (dd D_X8_isSo 14 rfl) kb_m4 ?_
      obtain ⟨r14, e15, h⟩ := Option.bind_eq_some_iff.mp h
      refine rwe_all (st' := [.int r14.1]) hD hS hA (rV (rest := []) F (c_X8_refuse D cA ax s n (-4 : Int32) r14 e15 l H.size) lk_X8_64 (Nat.le_of_ble_eq_true rfl) (preRW hK hS hAb hP hD) (rcv_8 hK hP (q0 := (0)) (xp_0 cA ax s)) rfl hl rfl (Nat.le_of_ble_eq_true rfl) (dd D_X8_isSo 15 rfl) ⟨Nat.le_of_ble_eq_true rfl, Nat.le_of_ble_eq_true rfl⟩) rfl (fun H locs hP hD hS => ?_)
      obtain rfl := Option.some.inj h
      exact rw_i (R := rmOf 5 1 5) F hP hD hS hr hlk ⟨Nat.le_of_ble_eq_true rfl, Nat.le_of_ble_eq_true rfl⟩ ⟨rfl, rfl⟩ (dd D_X8_isSo 16 rfl)
def F_X8_ask (n : Nat) (s : XS) (p1 : Int32) (p2 : Int32) : Option (Int32 × XS) := bf (F_X8_isIn p1 (0 : Int32) (3 : Int32)) ((if p1 = (3 : Int32) then bf (F_X8_isIn p2 (0 : Int32) (9 : Int32)) (some ((F_X6_askedOf (x_now s) p1), (x_set_now s (F_X6_setAsked (x_now s) p1 p2)))) ((((F_X8_refuse n s (-2 : Int32))).bind fun r7 => some (r7.1, r7.2))) else bf (F_X8_isIn p2 (0 : Int32) (9999 : Int32)) (some ((F_X6_askedOf (x_now s) p1), (x_set_now s (F_X6_setAsked (x_now s) p1 p2)))) ((((F_X8_refuse n s (-2 : Int32))).bind fun r4 => some (r4.1, r4.2))))) ((((F_X8_refuse n s (-2 : Int32))).bind fun r1 => some (r1.1, r1.2)))
set_option maxHeartbeats 4000000 in
set_option maxRecDepth 100000 in
theorem c_X8_ask (D : va_G) (cA : Nat → ClassId) (ax : Nat → Nat) (s : XS) (n : Nat) (p1 : Int32) (p2 : Int32) (r : (Int32 × XS)) (h : F_X8_ask n s p1 p2 = some r) : RW m_X8_ask 1 0 0 D cA [.ref (ax 0), .int p1, .int p2] (xW cA ax s) (exq (some (.int r.1)) (xW cA ax r.2)) := by
  refine RW.ofW gy_X8_ask.2.2 (Nat.le_of_ble_eq_true rfl) ?_
  intro l p e sM m below meth c A H locs F hr hlk hnm hK hP hD hS hA hAb ls hl
  have hl : lv_has ls 4 [(0, .ref (ax 0)), (1, .int p1), (2, .int p2)] := hl
  unfold F_X8_ask at h
  refine lv_iload_n F.1 F.2.1 (dd D_X8_ask 0 rfl) rfl (lv_at hl 1 rfl) ?_
  refine lv_iconst (v := (0 : Int32)) F.1 F.2.1 (dd D_X8_ask 1 rfl) ki_0 ?_
  refine lv_iconst (v := (3 : Int32)) F.1 F.2.1 (dd D_X8_ask 2 rfl) ki_3 ?_
  refine ro_go (st' := [.int (bI (F_X8_isIn p1 (0 : Int32) (3 : Int32)))]) (rS (rest := []) F (c_X8_isIn D cA p1 (0 : Int32) (3 : Int32) l) lk_X8_60 (Nat.le_of_ble_eq_true rfl) (preRO hK hS hAb (emP)) rfl hl rfl (Nat.le_of_ble_eq_true rfl) (dd D_X8_ask 3 rfl) ⟨Nat.le_of_ble_eq_true rfl, Nat.le_of_ble_eq_true rfl⟩) rfl ?_
  refine x_bif_eq (tgt := 30) F.1 F.2.1 (dd D_X8_ask 4 rfl) rfl h (fun c10 h => ?_) (fun c10 h => ?_)
  · refine lv_aload_n F.1 F.2.1 (dd D_X8_ask 15 rfl) rfl (lv_at hl 0 rfl) ?_
    refine lv_bipush (v := (-2 : Int32)) F.1 F.2.1 (dd D_X8_ask 16 rfl) kb_m2 ?_
    obtain ⟨r1, e2, h⟩ := Option.bind_eq_some_iff.mp h
    refine rwe_all (st' := [.int r1.1]) hD hS hA (rV (rest := []) F (c_X8_refuse D cA ax s n (-2 : Int32) r1 e2 l H.size) lk_X8_64 (Nat.le_of_ble_eq_true rfl) (preRW hK hS hAb hP hD) (rcv_8 hK hP (q0 := (0)) (xp_0 cA ax s)) rfl hl rfl (Nat.le_of_ble_eq_true rfl) (dd D_X8_ask 17 rfl) ⟨Nat.le_of_ble_eq_true rfl, Nat.le_of_ble_eq_true rfl⟩) rfl (fun H locs hP hD hS => ?_)
    obtain rfl := Option.some.inj h
    exact rw_i (R := rmOf 1 0 0) F hP hD hS hr hlk ⟨Nat.le_of_ble_eq_true rfl, Nat.le_of_ble_eq_true rfl⟩ ⟨rfl, rfl⟩ (dd D_X8_ask 18 rfl)
  · refine lv_iload_n F.1 F.2.1 (dd D_X8_ask 5 rfl) rfl (lv_at hl 2 rfl) ?_
    refine lv_iconst (v := (0 : Int32)) F.1 F.2.1 (dd D_X8_ask 6 rfl) ki_0 ?_
    refine lv_iload_n F.1 F.2.1 (dd D_X8_ask 7 rfl) rfl (lv_at hl 1 rfl) ?_
    refine lv_iconst (v := (3 : Int32)) F.1 F.2.1 (dd D_X8_ask 8 rfl) ki_3 ?_
    refine x_icmp_ne (tgt := 21) F.1 F.2.1 (dd D_X8_ask 9 rfl) rfl h (fun c3 h => ?_) (fun c3 h => ?_)
    · refine lv_sipush (v := (9999 : Int32)) F.1 F.2.1 (dd D_X8_ask 12 rfl) ks_9999 ?_
      refine ro_go (st' := [.int (bI (F_X8_isIn p2 (0 : Int32) (9999 : Int32)))]) (rS (rest := []) F (c_X8_isIn D cA p2 (0 : Int32) (9999 : Int32) l) lk_X8_60 (Nat.le_of_ble_eq_true rfl) (preRO hK hS hAb (emP)) rfl hl rfl (Nat.le_of_ble_eq_true rfl) (dd D_X8_ask 13 rfl) ⟨Nat.le_of_ble_eq_true rfl, Nat.le_of_ble_eq_true rfl⟩) rfl ?_
      refine x_bif_ne (tgt := 37) F.1 F.2.1 (dd D_X8_ask 14 rfl) rfl h (fun c6 h => ?_) (fun c6 h => ?_)
      · refine lv_aload_n F.1 F.2.1 (dd D_X8_ask 19 rfl) rfl (lv_at hl 0 rfl) ?_
        refine getF F hK hP lf_X8_10 (0) (xp_0 cA ax s) rfl (dd D_X8_ask 20 rfl) ?_
        refine lv_iload_n F.1 F.2.1 (dd D_X8_ask 21 rfl) rfl (lv_at hl 1 rfl) ?_
        refine ro_go (st' := [.int (F_X6_askedOf (x_now s) p1)]) (rV (rest := []) F (c_X6_askedOf D cA (fun i => ax (1+i)) (x_now s) p1 l) lk_X8_141 (Nat.le_of_ble_eq_true rfl) (preRO hK hS hAb (pg_x_1 hP)) (rcv_6 hK hP (q0 := (1)) (xp_1 cA ax s)) rfl hl rfl (Nat.le_of_ble_eq_true rfl) (dd D_X8_ask 22 rfl) ⟨Nat.le_of_ble_eq_true rfl, Nat.le_of_ble_eq_true rfl⟩) rfl ?_
        refine lv_istore_n (lv' := [(3, .int (F_X6_askedOf (x_now s) p1)), (0, .ref (ax 0)), (1, .int p1), (2, .int p2)]) F.1 F.2.1 (dd D_X8_ask 23 rfl) rfl hl (Nat.le_of_ble_eq_true rfl) rfl (fun ls hl => ?_)
        refine lv_aload_n F.1 F.2.1 (dd D_X8_ask 24 rfl) rfl (lv_at hl 1 rfl) ?_
        refine getF F hK hP lf_X8_10 (0) (xp_0 cA ax s) rfl (dd D_X8_ask 25 rfl) ?_
        refine lv_iload_n F.1 F.2.1 (dd D_X8_ask 26 rfl) rfl (lv_at hl 2 rfl) ?_
        refine lv_iload_n F.1 F.2.1 (dd D_X8_ask 27 rfl) rfl (lv_at hl 3 rfl) ?_
        refine rwe (V := none) (wc := (stateW cA (fun i => ax (1+i)) (x_now s))) (wc' := (stateW cA (fun i => ax (1+i)) (F_X6_setAsked (x_now s) p1 p2))) (st' := []) (W' := (xW cA ax (x_set_now s (F_X6_setAsked (x_now s) p1 p2)))) hP hD hS hA [1, 2, 3, 4, 5, 6, 7, 8, 9, 10, 11, 12, 13] (jc_x_1 cA ax s) (Nat_nd rfl) rfl (rV (rest := []) F (c_X6_setAsked D cA (fun i => ax (1+i)) (x_now s) p1 p2 l H.size) lk_X8_144 (Nat.le_of_ble_eq_true rfl) (preRW hK hS hAb (selP (is := [1, 2, 3, 4, 5, 6, 7, 8, 9, 10, 11, 12, 13]) hP (jc_x_1 cA ax s)) (selD (is := [1, 2, 3, 4, 5, 6, 7, 8, 9, 10, 11, 12, 13]) hD (Nat_nd rfl) (jc_x_1 cA ax s))) (rcv_6 hK hP (q0 := (1)) (xp_1 cA ax s)) rfl hl rfl (Nat.le_of_ble_eq_true rfl) (dd D_X8_ask 28 rfl) ⟨Nat.le_of_ble_eq_true rfl, Nat.le_of_ble_eq_true rfl⟩) (js_x_1 cA ax s (F_X6_setAsked (x_now s) p1 p2)) rfl (fun H locs hP hD hS => ?_)
        refine lv_iload_n F.1 F.2.1 (dd D_X8_ask 29 rfl) rfl (lv_at hl 0 rfl) ?_
        obtain rfl := Option.some.inj h
        exact rw_i (R := rmOf 1 0 0) F hP hD hS hr hlk ⟨Nat.le_of_ble_eq_true rfl, Nat.le_of_ble_eq_true rfl⟩ ⟨rfl, rfl⟩ (dd D_X8_ask 30 rfl)
      · refine lv_aload_n F.1 F.2.1 (dd D_X8_ask 15 rfl) rfl (lv_at hl 0 rfl) ?_
        refine lv_bipush (v := (-2 : Int32)) F.1 F.2.1 (dd D_X8_ask 16 rfl) kb_m2 ?_
        obtain ⟨r4, e5, h⟩ := Option.bind_eq_some_iff.mp h
        refine rwe_all (st' := [.int r4.1]) hD hS hA (rV (rest := []) F (c_X8_refuse D cA ax s n (-2 : Int32) r4 e5 l H.size) lk_X8_64 (Nat.le_of_ble_eq_true rfl) (preRW hK hS hAb hP hD) (rcv_8 hK hP (q0 := (0)) (xp_0 cA ax s)) rfl hl rfl (Nat.le_of_ble_eq_true rfl) (dd D_X8_ask 17 rfl) ⟨Nat.le_of_ble_eq_true rfl, Nat.le_of_ble_eq_true rfl⟩) rfl (fun H locs hP hD hS => ?_)
        obtain rfl := Option.some.inj h
        exact rw_i (R := rmOf 1 0 0) F hP hD hS hr hlk ⟨Nat.le_of_ble_eq_true rfl, Nat.le_of_ble_eq_true rfl⟩ ⟨rfl, rfl⟩ (dd D_X8_ask 18 rfl)
    · refine lv_bipush (v := (9 : Int32)) F.1 F.2.1 (dd D_X8_ask 10 rfl) kb_9 ?_
      refine lv_goto (tgt := 24) F.1 F.2.1 (dd D_X8_ask 11 rfl) rfl ?_
      refine ro_go (st' := [.int (bI (F_X8_isIn p2 (0 : Int32) (9 : Int32)))]) (rS (rest := []) F (c_X8_isIn D cA p2 (0 : Int32) (9 : Int32) l) lk_X8_60 (Nat.le_of_ble_eq_true rfl) (preRO hK hS hAb (emP)) rfl hl rfl (Nat.le_of_ble_eq_true rfl) (dd D_X8_ask 13 rfl) ⟨Nat.le_of_ble_eq_true rfl, Nat.le_of_ble_eq_true rfl⟩) rfl ?_
      refine x_bif_ne (tgt := 37) F.1 F.2.1 (dd D_X8_ask 14 rfl) rfl h (fun c9 h => ?_) (fun c9 h => ?_)
      · refine lv_aload_n F.1 F.2.1 (dd D_X8_ask 19 rfl) rfl (lv_at hl 0 rfl) ?_
        refine getF F hK hP lf_X8_10 (0) (xp_0 cA ax s) rfl (dd D_X8_ask 20 rfl) ?_
        refine lv_iload_n F.1 F.2.1 (dd D_X8_ask 21 rfl) rfl (lv_at hl 1 rfl) ?_
        refine ro_go (st' := [.int (F_X6_askedOf (x_now s) p1)]) (rV (rest := []) F (c_X6_askedOf D cA (fun i => ax (1+i)) (x_now s) p1 l) lk_X8_141 (Nat.le_of_ble_eq_true rfl) (preRO hK hS hAb (pg_x_1 hP)) (rcv_6 hK hP (q0 := (1)) (xp_1 cA ax s)) rfl hl rfl (Nat.le_of_ble_eq_true rfl) (dd D_X8_ask 22 rfl) ⟨Nat.le_of_ble_eq_true rfl, Nat.le_of_ble_eq_true rfl⟩) rfl ?_
        refine lv_istore_n (lv' := [(3, .int (F_X6_askedOf (x_now s) p1)), (0, .ref (ax 0)), (1, .int p1), (2, .int p2)]) F.1 F.2.1 (dd D_X8_ask 23 rfl) rfl hl (Nat.le_of_ble_eq_true rfl) rfl (fun ls hl => ?_)
        refine lv_aload_n F.1 F.2.1 (dd D_X8_ask 24 rfl) rfl (lv_at hl 1 rfl) ?_
        refine getF F hK hP lf_X8_10 (0) (xp_0 cA ax s) rfl (dd D_X8_ask 25 rfl) ?_
        refine lv_iload_n F.1 F.2.1 (dd D_X8_ask 26 rfl) rfl (lv_at hl 2 rfl) ?_
        refine lv_iload_n F.1 F.2.1 (dd D_X8_ask 27 rfl) rfl (lv_at hl 3 rfl) ?_
        refine rwe (V := none) (wc := (stateW cA (fun i => ax (1+i)) (x_now s))) (wc' := (stateW cA (fun i => ax (1+i)) (F_X6_setAsked (x_now s) p1 p2))) (st' := []) (W' := (xW cA ax (x_set_now s (F_X6_setAsked (x_now s) p1 p2)))) hP hD hS hA [1, 2, 3, 4, 5, 6, 7, 8, 9, 10, 11, 12, 13] (jc_x_1 cA ax s) (Nat_nd rfl) rfl (rV (rest := []) F (c_X6_setAsked D cA (fun i => ax (1+i)) (x_now s) p1 p2 l H.size) lk_X8_144 (Nat.le_of_ble_eq_true rfl) (preRW hK hS hAb (selP (is := [1, 2, 3, 4, 5, 6, 7, 8, 9, 10, 11, 12, 13]) hP (jc_x_1 cA ax s)) (selD (is := [1, 2, 3, 4, 5, 6, 7, 8, 9, 10, 11, 12, 13]) hD (Nat_nd rfl) (jc_x_1 cA ax s))) (rcv_6 hK hP (q0 := (1)) (xp_1 cA ax s)) rfl hl rfl (Nat.le_of_ble_eq_true rfl) (dd D_X8_ask 28 rfl) ⟨Nat.le_of_ble_eq_true rfl, Nat.le_of_ble_eq_true rfl⟩) (js_x_1 cA ax s (F_X6_setAsked (x_now s) p1 p2)) rfl (fun H locs hP hD hS => ?_)
        refine lv_iload_n F.1 F.2.1 (dd D_X8_ask 29 rfl) rfl (lv_at hl 0 rfl) ?_
        obtain rfl := Option.some.inj h
        exact rw_i (R := rmOf 1 0 0) F hP hD hS hr hlk ⟨Nat.le_of_ble_eq_true rfl, Nat.le_of_ble_eq_true rfl⟩ ⟨rfl, rfl⟩ (dd D_X8_ask 30 rfl)
      · refine lv_aload_n F.1 F.2.1 (dd D_X8_ask 15 rfl) rfl (lv_at hl 0 rfl) ?_
        refine lv_bipush (v := (-2 : Int32)) F.1 F.2.1 (dd D_X8_ask 16 rfl) kb_m2 ?_
        obtain ⟨r7, e8, h⟩ := Option.bind_eq_some_iff.mp h
        refine rwe_all (st' := [.int r7.1]) hD hS hA (rV (rest := []) F (c_X8_refuse D cA ax s n (-2 : Int32) r7 e8 l H.size) lk_X8_64 (Nat.le_of_ble_eq_true rfl) (preRW hK hS hAb hP hD) (rcv_8 hK hP (q0 := (0)) (xp_0 cA ax s)) rfl hl rfl (Nat.le_of_ble_eq_true rfl) (dd D_X8_ask 17 rfl) ⟨Nat.le_of_ble_eq_true rfl, Nat.le_of_ble_eq_true rfl⟩) rfl (fun H locs hP hD hS => ?_)
        obtain rfl := Option.some.inj h
        exact rw_i (R := rmOf 1 0 0) F hP hD hS hr hlk ⟨Nat.le_of_ble_eq_true rfl, Nat.le_of_ble_eq_true rfl⟩ ⟨rfl, rfl⟩ (dd D_X8_ask 18 rfl)
def F_X8_notch (n : Nat) (s : XS) (p1 : Int32) (p2 : Int32) (p3 : Int32) : Option (Int32 × XS) := bf (F_X8_isIn p1 (0 : Int32) (179 : Int32)) (bf (F_X8_isIn p2 p1 (179 : Int32)) (bf (F_X8_isIn p3 (0 : Int32) (30 : Int32)) (bf (F_X1_isFull (st_hill (x_now s))) ((((F_X8_refuse n s (-6 : Int32))).bind fun r7 => some (r7.1, r7.2))) ((((F_X1_add n (st_hill (x_now s)) p1 p2 p3)).bind fun r5 => some (((F_X1_count (st_hill (x_now (x_set_now s (st_set_hill (x_now s) r5))))) - (1 : Int32)), (x_set_now s (st_set_hill (x_now s) r5)))))) ((((F_X8_refuse n s (-2 : Int32))).bind fun r10 => some (r10.1, r10.2)))) ((((F_X8_refuse n s (-2 : Int32))).bind fun r3 => some (r3.1, r3.2)))) ((((F_X8_refuse n s (-2 : Int32))).bind fun r1 => some (r1.1, r1.2)))
set_option maxHeartbeats 4000000 in
set_option maxRecDepth 100000 in
theorem c_X8_notch (D : va_G) (cA : Nat → ClassId) (ax : Nat → Nat) (s : XS) (n : Nat) (p1 : Int32) (p2 : Int32) (p3 : Int32) (r : (Int32 × XS)) (h : F_X8_notch n s p1 p2 p3 = some r) : RW m_X8_notch 2 0 0 D cA [.ref (ax 0), .int p1, .int p2, .int p3] (xW cA ax s) (exq (some (.int r.1)) (xW cA ax r.2)) := by
  refine RW.ofW gy_X8_notch.2.2 (Nat.le_of_ble_eq_true rfl) ?_
  intro l p e sM m below meth c A H locs F hr hlk hnm hK hP hD hS hA hAb ls hl
  have hl : lv_has ls 4 [(0, .ref (ax 0)), (1, .int p1), (2, .int p2), (3, .int p3)] := hl
  unfold F_X8_notch at h
  refine lv_iload_n F.1 F.2.1 (dd D_X8_notch 0 rfl) rfl (lv_at hl 1 rfl) ?_
  refine lv_iconst (v := (0 : Int32)) F.1 F.2.1 (dd D_X8_notch 1 rfl) ki_0 ?_
  refine lv_sipush (v := (179 : Int32)) F.1 F.2.1 (dd D_X8_notch 2 rfl) ks_179 ?_
  refine ro_go (st' := [.int (bI (F_X8_isIn p1 (0 : Int32) (179 : Int32)))]) (rS (rest := []) F (c_X8_isIn D cA p1 (0 : Int32) (179 : Int32) l) lk_X8_60 (Nat.le_of_ble_eq_true rfl) (preRO hK hS hAb (emP)) rfl hl rfl (Nat.le_of_ble_eq_true rfl) (dd D_X8_notch 3 rfl) ⟨Nat.le_of_ble_eq_true rfl, Nat.le_of_ble_eq_true rfl⟩) rfl ?_
  refine x_bif_eq (tgt := 32) F.1 F.2.1 (dd D_X8_notch 4 rfl) rfl h (fun c14 h => ?_) (fun c14 h => ?_)
  · refine lv_aload_n F.1 F.2.1 (dd D_X8_notch 15 rfl) rfl (lv_at hl 0 rfl) ?_
    refine lv_bipush (v := (-2 : Int32)) F.1 F.2.1 (dd D_X8_notch 16 rfl) kb_m2 ?_
    obtain ⟨r1, e2, h⟩ := Option.bind_eq_some_iff.mp h
    refine rwe_all (st' := [.int r1.1]) hD hS hA (rV (rest := []) F (c_X8_refuse D cA ax s n (-2 : Int32) r1 e2 l H.size) lk_X8_64 (Nat.le_of_ble_eq_true rfl) (preRW hK hS hAb hP hD) (rcv_8 hK hP (q0 := (0)) (xp_0 cA ax s)) rfl hl rfl (Nat.le_of_ble_eq_true rfl) (dd D_X8_notch 17 rfl) ⟨Nat.le_of_ble_eq_true rfl, Nat.le_of_ble_eq_true rfl⟩) rfl (fun H locs hP hD hS => ?_)
    obtain rfl := Option.some.inj h
    exact rw_i (R := rmOf 2 0 0) F hP hD hS hr hlk ⟨Nat.le_of_ble_eq_true rfl, Nat.le_of_ble_eq_true rfl⟩ ⟨rfl, rfl⟩ (dd D_X8_notch 18 rfl)
  · refine lv_iload_n F.1 F.2.1 (dd D_X8_notch 5 rfl) rfl (lv_at hl 2 rfl) ?_
    refine lv_iload_n F.1 F.2.1 (dd D_X8_notch 6 rfl) rfl (lv_at hl 1 rfl) ?_
    refine lv_sipush (v := (179 : Int32)) F.1 F.2.1 (dd D_X8_notch 7 rfl) ks_179 ?_
    refine ro_go (st' := [.int (bI (F_X8_isIn p2 p1 (179 : Int32)))]) (rS (rest := []) F (c_X8_isIn D cA p2 p1 (179 : Int32) l) lk_X8_60 (Nat.le_of_ble_eq_true rfl) (preRO hK hS hAb (emP)) rfl hl rfl (Nat.le_of_ble_eq_true rfl) (dd D_X8_notch 8 rfl) ⟨Nat.le_of_ble_eq_true rfl, Nat.le_of_ble_eq_true rfl⟩) rfl ?_
    refine x_bif_eq (tgt := 32) F.1 F.2.1 (dd D_X8_notch 9 rfl) rfl h (fun c13 h => ?_) (fun c13 h => ?_)
    · refine lv_aload_n F.1 F.2.1 (dd D_X8_notch 15 rfl) rfl (lv_at hl 0 rfl) ?_
      refine lv_bipush (v := (-2 : Int32)) F.1 F.2.1 (dd D_X8_notch 16 rfl) kb_m2 ?_
      obtain ⟨r3, e4, h⟩ := Option.bind_eq_some_iff.mp h
      refine rwe_all (st' := [.int r3.1]) hD hS hA (rV (rest := []) F (c_X8_refuse D cA ax s n (-2 : Int32) r3 e4 l H.size) lk_X8_64 (Nat.le_of_ble_eq_true rfl) (preRW hK hS hAb hP hD) (rcv_8 hK hP (q0 := (0)) (xp_0 cA ax s)) rfl hl rfl (Nat.le_of_ble_eq_true rfl) (dd D_X8_notch 17 rfl) ⟨Nat.le_of_ble_eq_true rfl, Nat.le_of_ble_eq_true rfl⟩) rfl (fun H locs hP hD hS => ?_)
      obtain rfl := Option.some.inj h
      exact rw_i (R := rmOf 2 0 0) F hP hD hS hr hlk ⟨Nat.le_of_ble_eq_true rfl, Nat.le_of_ble_eq_true rfl⟩ ⟨rfl, rfl⟩ (dd D_X8_notch 18 rfl)
    · refine lv_iload_n F.1 F.2.1 (dd D_X8_notch 10 rfl) rfl (lv_at hl 3 rfl) ?_
      refine lv_iconst (v := (0 : Int32)) F.1 F.2.1 (dd D_X8_notch 11 rfl) ki_0 ?_
      refine lv_bipush (v := (30 : Int32)) F.1 F.2.1 (dd D_X8_notch 12 rfl) kb_30 ?_
      refine ro_go (st' := [.int (bI (F_X8_isIn p3 (0 : Int32) (30 : Int32)))]) (rS (rest := []) F (c_X8_isIn D cA p3 (0 : Int32) (30 : Int32) l) lk_X8_60 (Nat.le_of_ble_eq_true rfl) (preRO hK hS hAb (emP)) rfl hl rfl (Nat.le_of_ble_eq_true rfl) (dd D_X8_notch 13 rfl) ⟨Nat.le_of_ble_eq_true rfl, Nat.le_of_ble_eq_true rfl⟩) rfl ?_
      refine x_bif_ne (tgt := 39) F.1 F.2.1 (dd D_X8_notch 14 rfl) rfl h (fun c12 h => ?_) (fun c12 h => ?_)
      · refine lv_aload_n F.1 F.2.1 (dd D_X8_notch 19 rfl) rfl (lv_at hl 0 rfl) ?_
        refine getF F hK hP lf_X8_10 (0) (xp_0 cA ax s) rfl (dd D_X8_notch 20 rfl) ?_
        refine getF F hK hP lf_X8_147 (1) (xp_1 cA ax s) rfl (dd D_X8_notch 21 rfl) ?_
        refine ro_go (st' := [.int (bI (F_X1_isFull (st_hill (x_now s))))]) (rV (rest := []) F (c_X1_isFull D cA (fun i => ax (2+i)) (st_hill (x_now s)) l) lk_X8_151 (Nat.le_of_ble_eq_true rfl) (preRO hK hS hAb (pg_x_2 hP)) (rcv_1 hK hP (q0 := (2)) (xp_2 cA ax s)) rfl hl rfl (Nat.le_of_ble_eq_true rfl) (dd D_X8_notch 22 rfl) ⟨Nat.le_of_ble_eq_true rfl, Nat.le_of_ble_eq_true rfl⟩) rfl ?_
        refine x_bif_eq (tgt := 59) F.1 F.2.1 (dd D_X8_notch 23 rfl) rfl h (fun c9 h => ?_) (fun c9 h => ?_)
        · refine lv_aload_n F.1 F.2.1 (dd D_X8_notch 28 rfl) rfl (lv_at hl 0 rfl) ?_
          refine getF F hK hP lf_X8_10 (0) (xp_0 cA ax s) rfl (dd D_X8_notch 29 rfl) ?_
          refine getF F hK hP lf_X8_147 (1) (xp_1 cA ax s) rfl (dd D_X8_notch 30 rfl) ?_
          refine lv_iload_n F.1 F.2.1 (dd D_X8_notch 31 rfl) rfl (lv_at hl 1 rfl) ?_
          refine lv_iload_n F.1 F.2.1 (dd D_X8_notch 32 rfl) rfl (lv_at hl 2 rfl) ?_
          refine lv_iload_n F.1 F.2.1 (dd D_X8_notch 33 rfl) rfl (lv_at hl 3 rfl) ?_
          obtain ⟨r5, e6, h⟩ := Option.bind_eq_some_iff.mp h
          refine rwe (V := none) (wc := (hillW cA (fun i => ax (2+i)) (st_hill (x_now s)))) (wc' := (hillW cA (fun i => ax (2+i)) r5)) (st' := []) (W' := (xW cA ax (x_set_now s (st_set_hill (x_now s) r5)))) hP hD hS hA [2, 3, 4, 5, 6, 7, 8, 9] (jc_x_2 cA ax s) (Nat_nd rfl) rfl (rV (rest := []) F (c_X1_add D cA (fun i => ax (2+i)) (st_hill (x_now s)) n p1 p2 p3 r5 e6 l H.size) lk_X8_156 (Nat.le_of_ble_eq_true rfl) (preRW hK hS hAb (selP (is := [2, 3, 4, 5, 6, 7, 8, 9]) hP (jc_x_2 cA ax s)) (selD (is := [2, 3, 4, 5, 6, 7, 8, 9]) hD (Nat_nd rfl) (jc_x_2 cA ax s))) (rcv_1 hK hP (q0 := (2)) (xp_2 cA ax s)) rfl hl rfl (Nat.le_of_ble_eq_true rfl) (dd D_X8_notch 34 rfl) ⟨Nat.le_of_ble_eq_true rfl, Nat.le_of_ble_eq_true rfl⟩) (js_x_2 cA ax s r5) rfl (fun H locs hP hD hS => ?_)
          refine lv_aload_n F.1 F.2.1 (dd D_X8_notch 35 rfl) rfl (lv_at hl 0 rfl) ?_
          refine getF F hK hP lf_X8_10 (0) (xp_0 cA ax (x_set_now s (st_set_hill (x_now s) r5))) rfl (dd D_X8_notch 36 rfl) ?_
          refine getF F hK hP lf_X8_147 (1) (xp_1 cA ax (x_set_now s (st_set_hill (x_now s) r5))) rfl (dd D_X8_notch 37 rfl) ?_
          refine ro_go (st' := [.int (F_X1_count (st_hill (x_now (x_set_now s (st_set_hill (x_now s) r5)))))]) (rV (rest := []) F (c_X1_count D cA (fun i => ax (2+i)) (st_hill (x_now (x_set_now s (st_set_hill (x_now s) r5)))) l) lk_X8_160 (Nat.le_of_ble_eq_true rfl) (preRO hK hS hAb (pg_x_2 hP)) (rcv_1 hK hP (q0 := (2)) (xp_2 cA ax (x_set_now s (st_set_hill (x_now s) r5)))) rfl hl rfl (Nat.le_of_ble_eq_true rfl) (dd D_X8_notch 38 rfl) ⟨Nat.le_of_ble_eq_true rfl, Nat.le_of_ble_eq_true rfl⟩) rfl ?_
          refine lv_iconst (v := (1 : Int32)) F.1 F.2.1 (dd D_X8_notch 39 rfl) ki_1 ?_
          refine lv_isub F.1 F.2.1 (dd D_X8_notch 40 rfl) ?_
          obtain rfl := Option.some.inj h
          exact rw_i (R := rmOf 2 0 0) F hP hD hS hr hlk ⟨Nat.le_of_ble_eq_true rfl, Nat.le_of_ble_eq_true rfl⟩ ⟨rfl, rfl⟩ (dd D_X8_notch 41 rfl)
        · refine lv_aload_n F.1 F.2.1 (dd D_X8_notch 24 rfl) rfl (lv_at hl 0 rfl) ?_
          refine lv_bipush (v := (-6 : Int32)) F.1 F.2.1 (dd D_X8_notch 25 rfl) kb_m6 ?_
          obtain ⟨r7, e8, h⟩ := Option.bind_eq_some_iff.mp h
          refine rwe_all (st' := [.int r7.1]) hD hS hA (rV (rest := []) F (c_X8_refuse D cA ax s n (-6 : Int32) r7 e8 l H.size) lk_X8_64 (Nat.le_of_ble_eq_true rfl) (preRW hK hS hAb hP hD) (rcv_8 hK hP (q0 := (0)) (xp_0 cA ax s)) rfl hl rfl (Nat.le_of_ble_eq_true rfl) (dd D_X8_notch 26 rfl) ⟨Nat.le_of_ble_eq_true rfl, Nat.le_of_ble_eq_true rfl⟩) rfl (fun H locs hP hD hS => ?_)
          obtain rfl := Option.some.inj h
          exact rw_i (R := rmOf 2 0 0) F hP hD hS hr hlk ⟨Nat.le_of_ble_eq_true rfl, Nat.le_of_ble_eq_true rfl⟩ ⟨rfl, rfl⟩ (dd D_X8_notch 27 rfl)
      · refine lv_aload_n F.1 F.2.1 (dd D_X8_notch 15 rfl) rfl (lv_at hl 0 rfl) ?_
        refine lv_bipush (v := (-2 : Int32)) F.1 F.2.1 (dd D_X8_notch 16 rfl) kb_m2 ?_
        obtain ⟨r10, e11, h⟩ := Option.bind_eq_some_iff.mp h
        refine rwe_all (st' := [.int r10.1]) hD hS hA (rV (rest := []) F (c_X8_refuse D cA ax s n (-2 : Int32) r10 e11 l H.size) lk_X8_64 (Nat.le_of_ble_eq_true rfl) (preRW hK hS hAb hP hD) (rcv_8 hK hP (q0 := (0)) (xp_0 cA ax s)) rfl hl rfl (Nat.le_of_ble_eq_true rfl) (dd D_X8_notch 17 rfl) ⟨Nat.le_of_ble_eq_true rfl, Nat.le_of_ble_eq_true rfl⟩) rfl (fun H locs hP hD hS => ?_)
        obtain rfl := Option.some.inj h
        exact rw_i (R := rmOf 2 0 0) F hP hD hS hr hlk ⟨Nat.le_of_ble_eq_true rfl, Nat.le_of_ble_eq_true rfl⟩ ⟨rfl, rfl⟩ (dd D_X8_notch 18 rfl)
def F_X8_stone (n : Nat) (s : XS) (p1 : Int32) : Option (Int32 × XS) := bf (F_X8_isIn p1 (0 : Int32) (179 : Int32)) (bf (F_X0_isFull 6 (st_stones (x_now s))) ((((F_X8_refuse n s (-6 : Int32))).bind fun r3 => some (r3.1, r3.2))) ((((F_X0_add n 6 (st_stones (x_now s)) p1)).bind fun r1 => some (((F_X0_count 6 (st_stones (x_now (x_set_now s (st_set_stones (x_now s) r1))))) - (1 : Int32)), (x_set_now s (st_set_stones (x_now s) r1)))))) ((((F_X8_refuse n s (-2 : Int32))).bind fun r6 => some (r6.1, r6.2)))
set_option maxHeartbeats 4000000 in
set_option maxRecDepth 100000 in
theorem c_X8_stone (D : va_G) (cA : Nat → ClassId) (ax : Nat → Nat) (s : XS) (n : Nat) (p1 : Int32) (r : (Int32 × XS)) (h : F_X8_stone n s p1 = some r) : RW m_X8_stone 1 0 0 D cA [.ref (ax 0), .int p1] (xW cA ax s) (exq (some (.int r.1)) (xW cA ax r.2)) := by
  refine RW.ofW gy_X8_stone.2.2 (Nat.le_of_ble_eq_true rfl) ?_
  intro l p e sM m below meth c A H locs F hr hlk hnm hK hP hD hS hA hAb ls hl
  have hl : lv_has ls 2 [(0, .ref (ax 0)), (1, .int p1)] := hl
  unfold F_X8_stone at h
  refine lv_iload_n F.1 F.2.1 (dd D_X8_stone 0 rfl) rfl (lv_at hl 1 rfl) ?_
  refine lv_iconst (v := (0 : Int32)) F.1 F.2.1 (dd D_X8_stone 1 rfl) ki_0 ?_
  refine lv_sipush (v := (179 : Int32)) F.1 F.2.1 (dd D_X8_stone 2 rfl) ks_179 ?_
  refine ro_go (st' := [.int (bI (F_X8_isIn p1 (0 : Int32) (179 : Int32)))]) (rS (rest := []) F (c_X8_isIn D cA p1 (0 : Int32) (179 : Int32) l) lk_X8_60 (Nat.le_of_ble_eq_true rfl) (preRO hK hS hAb (emP)) rfl hl rfl (Nat.le_of_ble_eq_true rfl) (dd D_X8_stone 3 rfl) ⟨Nat.le_of_ble_eq_true rfl, Nat.le_of_ble_eq_true rfl⟩) rfl ?_
  refine x_bif_ne (tgt := 18) F.1 F.2.1 (dd D_X8_stone 4 rfl) rfl h (fun c8 h => ?_) (fun c8 h => ?_)
  · refine lv_aload_n F.1 F.2.1 (dd D_X8_stone 9 rfl) rfl (lv_at hl 0 rfl) ?_
    refine getF F hK hP lf_X8_10 (0) (xp_0 cA ax s) rfl (dd D_X8_stone 10 rfl) ?_
    refine getF F hK hP lf_X8_163 (1) (xp_1 cA ax s) rfl (dd D_X8_stone 11 rfl) ?_
    refine ro_go (st' := [.int (bI (F_X0_isFull 6 (st_stones (x_now s))))]) (rV (rest := []) F (c_X0_isFull D cA 6 (fun i => ax (10+i)) (st_stones (x_now s)) l) lk_X8_167 (Nat.le_of_ble_eq_true rfl) (preRO hK hS hAb (pg_x_10 hP)) (rcv_0 hK hP (q0 := (10)) (xp_10 cA ax s)) rfl hl rfl (Nat.le_of_ble_eq_true rfl) (dd D_X8_stone 12 rfl) ⟨Nat.le_of_ble_eq_true rfl, Nat.le_of_ble_eq_true rfl⟩) rfl ?_
    refine x_bif_eq (tgt := 38) F.1 F.2.1 (dd D_X8_stone 13 rfl) rfl h (fun c5 h => ?_) (fun c5 h => ?_)
    · refine lv_aload_n F.1 F.2.1 (dd D_X8_stone 18 rfl) rfl (lv_at hl 0 rfl) ?_
      refine getF F hK hP lf_X8_10 (0) (xp_0 cA ax s) rfl (dd D_X8_stone 19 rfl) ?_
      refine getF F hK hP lf_X8_163 (1) (xp_1 cA ax s) rfl (dd D_X8_stone 20 rfl) ?_
      refine lv_iload_n F.1 F.2.1 (dd D_X8_stone 21 rfl) rfl (lv_at hl 1 rfl) ?_
      obtain ⟨r1, e2, h⟩ := Option.bind_eq_some_iff.mp h
      refine rwe (V := none) (wc := (fewW cA 6 (fun i => ax (10+i)) (st_stones (x_now s)))) (wc' := (fewW cA 6 (fun i => ax (10+i)) r1)) (st' := []) (W' := (xW cA ax (x_set_now s (st_set_stones (x_now s) r1)))) hP hD hS hA [10, 11] (jc_x_10 cA ax s) (Nat_nd rfl) rfl (rV (rest := []) F (c_X0_add D cA 6 (fun i => ax (10+i)) (st_stones (x_now s)) n p1 r1 e2 l H.size) lk_X8_170 (Nat.le_of_ble_eq_true rfl) (preRW hK hS hAb (selP (is := [10, 11]) hP (jc_x_10 cA ax s)) (selD (is := [10, 11]) hD (Nat_nd rfl) (jc_x_10 cA ax s))) (rcv_0 hK hP (q0 := (10)) (xp_10 cA ax s)) rfl hl rfl (Nat.le_of_ble_eq_true rfl) (dd D_X8_stone 22 rfl) ⟨Nat.le_of_ble_eq_true rfl, Nat.le_of_ble_eq_true rfl⟩) (js_x_10 cA ax s r1) rfl (fun H locs hP hD hS => ?_)
      refine lv_aload_n F.1 F.2.1 (dd D_X8_stone 23 rfl) rfl (lv_at hl 0 rfl) ?_
      refine getF F hK hP lf_X8_10 (0) (xp_0 cA ax (x_set_now s (st_set_stones (x_now s) r1))) rfl (dd D_X8_stone 24 rfl) ?_
      refine getF F hK hP lf_X8_163 (1) (xp_1 cA ax (x_set_now s (st_set_stones (x_now s) r1))) rfl (dd D_X8_stone 25 rfl) ?_
      refine ro_go (st' := [.int (F_X0_count 6 (st_stones (x_now (x_set_now s (st_set_stones (x_now s) r1)))))]) (rV (rest := []) F (c_X0_count D cA 6 (fun i => ax (10+i)) (st_stones (x_now (x_set_now s (st_set_stones (x_now s) r1)))) l) lk_X8_172 (Nat.le_of_ble_eq_true rfl) (preRO hK hS hAb (pg_x_10 hP)) (rcv_0 hK hP (q0 := (10)) (xp_10 cA ax (x_set_now s (st_set_stones (x_now s) r1)))) rfl hl rfl (Nat.le_of_ble_eq_true rfl) (dd D_X8_stone 26 rfl) ⟨Nat.le_of_ble_eq_true rfl, Nat.le_of_ble_eq_true rfl⟩) rfl ?_
      refine lv_iconst (v := (1 : Int32)) F.1 F.2.1 (dd D_X8_stone 27 rfl) ki_1 ?_
      refine lv_isub F.1 F.2.1 (dd D_X8_stone 28 rfl) ?_
      obtain rfl := Option.some.inj h
      exact rw_i (R := rmOf 1 0 0) F hP hD hS hr hlk ⟨Nat.le_of_ble_eq_true rfl, Nat.le_of_ble_eq_true rfl⟩ ⟨rfl, rfl⟩ (dd D_X8_stone 29 rfl)
    · refine lv_aload_n F.1 F.2.1 (dd D_X8_stone 14 rfl) rfl (lv_at hl 0 rfl) ?_
      refine lv_bipush (v := (-6 : Int32)) F.1 F.2.1 (dd D_X8_stone 15 rfl) kb_m6 ?_
      obtain ⟨r3, e4, h⟩ := Option.bind_eq_some_iff.mp h
      refine rwe_all (st' := [.int r3.1]) hD hS hA (rV (rest := []) F (c_X8_refuse D cA ax s n (-6 : Int32) r3 e4 l H.size) lk_X8_64 (Nat.le_of_ble_eq_true rfl) (preRW hK hS hAb hP hD) (rcv_8 hK hP (q0 := (0)) (xp_0 cA ax s)) rfl hl rfl (Nat.le_of_ble_eq_true rfl) (dd D_X8_stone 16 rfl) ⟨Nat.le_of_ble_eq_true rfl, Nat.le_of_ble_eq_true rfl⟩) rfl (fun H locs hP hD hS => ?_)
      obtain rfl := Option.some.inj h
      exact rw_i (R := rmOf 1 0 0) F hP hD hS hr hlk ⟨Nat.le_of_ble_eq_true rfl, Nat.le_of_ble_eq_true rfl⟩ ⟨rfl, rfl⟩ (dd D_X8_stone 17 rfl)
  · refine lv_aload_n F.1 F.2.1 (dd D_X8_stone 5 rfl) rfl (lv_at hl 0 rfl) ?_
    refine lv_bipush (v := (-2 : Int32)) F.1 F.2.1 (dd D_X8_stone 6 rfl) kb_m2 ?_
    obtain ⟨r6, e7, h⟩ := Option.bind_eq_some_iff.mp h
    refine rwe_all (st' := [.int r6.1]) hD hS hA (rV (rest := []) F (c_X8_refuse D cA ax s n (-2 : Int32) r6 e7 l H.size) lk_X8_64 (Nat.le_of_ble_eq_true rfl) (preRW hK hS hAb hP hD) (rcv_8 hK hP (q0 := (0)) (xp_0 cA ax s)) rfl hl rfl (Nat.le_of_ble_eq_true rfl) (dd D_X8_stone 7 rfl) ⟨Nat.le_of_ble_eq_true rfl, Nat.le_of_ble_eq_true rfl⟩) rfl (fun H locs hP hD hS => ?_)
    obtain rfl := Option.some.inj h
    exact rw_i (R := rmOf 1 0 0) F hP hD hS hr hlk ⟨Nat.le_of_ble_eq_true rfl, Nat.le_of_ble_eq_true rfl⟩ ⟨rfl, rfl⟩ (dd D_X8_stone 8 rfl)
def F_X8_cloud (n : Nat) (s : XS) (p1 : Int32) : Option (Int32 × XS) := bf (F_X8_isDay p1) ((((F_X0_contains n 8 (st_clouds (x_now s)) p1)).bind fun r1 => bf r1 ((((F_X8_refuse n s (-5 : Int32))).bind fun r8 => some (r8.1, r8.2))) (bf (F_X0_isFull 8 (st_clouds (x_now s))) ((((F_X8_refuse n s (-6 : Int32))).bind fun r5 => some (r5.1, r5.2))) ((((F_X0_add n 8 (st_clouds (x_now s)) p1)).bind fun r3 => some ((F_X0_count 8 (st_clouds (x_now (x_set_now s (st_set_clouds (x_now s) r3))))), (x_set_now s (st_set_clouds (x_now s) r3)))))))) ((((F_X8_refuse n s (-2 : Int32))).bind fun r11 => some (r11.1, r11.2)))
set_option maxHeartbeats 4000000 in
set_option maxRecDepth 100000 in
theorem c_X8_cloud (D : va_G) (cA : Nat → ClassId) (ax : Nat → Nat) (s : XS) (n : Nat) (p1 : Int32) (r : (Int32 × XS)) (h : F_X8_cloud n s p1 = some r) : RW m_X8_cloud 2 0 0 D cA [.ref (ax 0), .int p1] (xW cA ax s) (exq (some (.int r.1)) (xW cA ax r.2)) := by
  refine RW.ofW gy_X8_cloud.2.2 (Nat.le_of_ble_eq_true rfl) ?_
  intro l p e sM m below meth c A H locs F hr hlk hnm hK hP hD hS hA hAb ls hl
  have hl : lv_has ls 2 [(0, .ref (ax 0)), (1, .int p1)] := hl
  unfold F_X8_cloud at h
  refine lv_iload_n F.1 F.2.1 (dd D_X8_cloud 0 rfl) rfl (lv_at hl 1 rfl) ?_
  refine ro_go (st' := [.int (bI (F_X8_isDay p1))]) (rS (rest := []) F (c_X8_isDay D cA p1 l) lk_X8_113 (Nat.le_of_ble_eq_true rfl) (preRO hK hS hAb (emP)) rfl hl rfl (Nat.le_of_ble_eq_true rfl) (dd D_X8_cloud 1 rfl) ⟨Nat.le_of_ble_eq_true rfl, Nat.le_of_ble_eq_true rfl⟩) rfl ?_
  refine x_bif_ne (tgt := 14) F.1 F.2.1 (dd D_X8_cloud 2 rfl) rfl h (fun c13 h => ?_) (fun c13 h => ?_)
  · refine lv_aload_n F.1 F.2.1 (dd D_X8_cloud 7 rfl) rfl (lv_at hl 0 rfl) ?_
    refine getF F hK hP lf_X8_10 (0) (xp_0 cA ax s) rfl (dd D_X8_cloud 8 rfl) ?_
    refine getF F hK hP lf_X8_173 (1) (xp_1 cA ax s) rfl (dd D_X8_cloud 9 rfl) ?_
    refine lv_iload_n F.1 F.2.1 (dd D_X8_cloud 10 rfl) rfl (lv_at hl 1 rfl) ?_
    obtain ⟨r1, e2, h⟩ := Option.bind_eq_some_iff.mp h
    refine ro_go (st' := [.int (bI r1)]) (rV (rest := []) F (c_X0_contains D cA 8 (fun i => ax (12+i)) (st_clouds (x_now s)) n p1 r1 e2 l) lk_X8_176 (Nat.le_of_ble_eq_true rfl) (preRO hK hS hAb (pg_x_12 hP)) (rcv_0 hK hP (q0 := (12)) (xp_12 cA ax s)) rfl hl rfl (Nat.le_of_ble_eq_true rfl) (dd D_X8_cloud 11 rfl) ⟨Nat.le_of_ble_eq_true rfl, Nat.le_of_ble_eq_true rfl⟩) rfl ?_
    refine x_bif_eq (tgt := 35) F.1 F.2.1 (dd D_X8_cloud 12 rfl) rfl h (fun c10 h => ?_) (fun c10 h => ?_)
    · refine lv_aload_n F.1 F.2.1 (dd D_X8_cloud 17 rfl) rfl (lv_at hl 0 rfl) ?_
      refine getF F hK hP lf_X8_10 (0) (xp_0 cA ax s) rfl (dd D_X8_cloud 18 rfl) ?_
      refine getF F hK hP lf_X8_173 (1) (xp_1 cA ax s) rfl (dd D_X8_cloud 19 rfl) ?_
      refine ro_go (st' := [.int (bI (F_X0_isFull 8 (st_clouds (x_now s))))]) (rV (rest := []) F (c_X0_isFull D cA 8 (fun i => ax (12+i)) (st_clouds (x_now s)) l) lk_X8_167 (Nat.le_of_ble_eq_true rfl) (preRO hK hS hAb (pg_x_12 hP)) (rcv_0 hK hP (q0 := (12)) (xp_12 cA ax s)) rfl hl rfl (Nat.le_of_ble_eq_true rfl) (dd D_X8_cloud 20 rfl) ⟨Nat.le_of_ble_eq_true rfl, Nat.le_of_ble_eq_true rfl⟩) rfl ?_
      refine x_bif_eq (tgt := 55) F.1 F.2.1 (dd D_X8_cloud 21 rfl) rfl h (fun c7 h => ?_) (fun c7 h => ?_)
      · refine lv_aload_n F.1 F.2.1 (dd D_X8_cloud 26 rfl) rfl (lv_at hl 0 rfl) ?_
        refine getF F hK hP lf_X8_10 (0) (xp_0 cA ax s) rfl (dd D_X8_cloud 27 rfl) ?_
        refine getF F hK hP lf_X8_173 (1) (xp_1 cA ax s) rfl (dd D_X8_cloud 28 rfl) ?_
        refine lv_iload_n F.1 F.2.1 (dd D_X8_cloud 29 rfl) rfl (lv_at hl 1 rfl) ?_
        obtain ⟨r3, e4, h⟩ := Option.bind_eq_some_iff.mp h
        refine rwe (V := none) (wc := (fewW cA 8 (fun i => ax (12+i)) (st_clouds (x_now s)))) (wc' := (fewW cA 8 (fun i => ax (12+i)) r3)) (st' := []) (W' := (xW cA ax (x_set_now s (st_set_clouds (x_now s) r3)))) hP hD hS hA [12, 13] (jc_x_12 cA ax s) (Nat_nd rfl) rfl (rV (rest := []) F (c_X0_add D cA 8 (fun i => ax (12+i)) (st_clouds (x_now s)) n p1 r3 e4 l H.size) lk_X8_170 (Nat.le_of_ble_eq_true rfl) (preRW hK hS hAb (selP (is := [12, 13]) hP (jc_x_12 cA ax s)) (selD (is := [12, 13]) hD (Nat_nd rfl) (jc_x_12 cA ax s))) (rcv_0 hK hP (q0 := (12)) (xp_12 cA ax s)) rfl hl rfl (Nat.le_of_ble_eq_true rfl) (dd D_X8_cloud 30 rfl) ⟨Nat.le_of_ble_eq_true rfl, Nat.le_of_ble_eq_true rfl⟩) (js_x_12 cA ax s r3) rfl (fun H locs hP hD hS => ?_)
        refine lv_aload_n F.1 F.2.1 (dd D_X8_cloud 31 rfl) rfl (lv_at hl 0 rfl) ?_
        refine getF F hK hP lf_X8_10 (0) (xp_0 cA ax (x_set_now s (st_set_clouds (x_now s) r3))) rfl (dd D_X8_cloud 32 rfl) ?_
        refine getF F hK hP lf_X8_173 (1) (xp_1 cA ax (x_set_now s (st_set_clouds (x_now s) r3))) rfl (dd D_X8_cloud 33 rfl) ?_
        refine ro_go (st' := [.int (F_X0_count 8 (st_clouds (x_now (x_set_now s (st_set_clouds (x_now s) r3)))))]) (rV (rest := []) F (c_X0_count D cA 8 (fun i => ax (12+i)) (st_clouds (x_now (x_set_now s (st_set_clouds (x_now s) r3)))) l) lk_X8_172 (Nat.le_of_ble_eq_true rfl) (preRO hK hS hAb (pg_x_12 hP)) (rcv_0 hK hP (q0 := (12)) (xp_12 cA ax (x_set_now s (st_set_clouds (x_now s) r3)))) rfl hl rfl (Nat.le_of_ble_eq_true rfl) (dd D_X8_cloud 34 rfl) ⟨Nat.le_of_ble_eq_true rfl, Nat.le_of_ble_eq_true rfl⟩) rfl ?_
        obtain rfl := Option.some.inj h
        exact rw_i (R := rmOf 2 0 0) F hP hD hS hr hlk ⟨Nat.le_of_ble_eq_true rfl, Nat.le_of_ble_eq_true rfl⟩ ⟨rfl, rfl⟩ (dd D_X8_cloud 35 rfl)
      · refine lv_aload_n F.1 F.2.1 (dd D_X8_cloud 22 rfl) rfl (lv_at hl 0 rfl) ?_
        refine lv_bipush (v := (-6 : Int32)) F.1 F.2.1 (dd D_X8_cloud 23 rfl) kb_m6 ?_
        obtain ⟨r5, e6, h⟩ := Option.bind_eq_some_iff.mp h
        refine rwe_all (st' := [.int r5.1]) hD hS hA (rV (rest := []) F (c_X8_refuse D cA ax s n (-6 : Int32) r5 e6 l H.size) lk_X8_64 (Nat.le_of_ble_eq_true rfl) (preRW hK hS hAb hP hD) (rcv_8 hK hP (q0 := (0)) (xp_0 cA ax s)) rfl hl rfl (Nat.le_of_ble_eq_true rfl) (dd D_X8_cloud 24 rfl) ⟨Nat.le_of_ble_eq_true rfl, Nat.le_of_ble_eq_true rfl⟩) rfl (fun H locs hP hD hS => ?_)
        obtain rfl := Option.some.inj h
        exact rw_i (R := rmOf 2 0 0) F hP hD hS hr hlk ⟨Nat.le_of_ble_eq_true rfl, Nat.le_of_ble_eq_true rfl⟩ ⟨rfl, rfl⟩ (dd D_X8_cloud 25 rfl)
    · refine lv_aload_n F.1 F.2.1 (dd D_X8_cloud 13 rfl) rfl (lv_at hl 0 rfl) ?_
      refine lv_bipush (v := (-5 : Int32)) F.1 F.2.1 (dd D_X8_cloud 14 rfl) kb_m5 ?_
      obtain ⟨r8, e9, h⟩ := Option.bind_eq_some_iff.mp h
      refine rwe_all (st' := [.int r8.1]) hD hS hA (rV (rest := []) F (c_X8_refuse D cA ax s n (-5 : Int32) r8 e9 l H.size) lk_X8_64 (Nat.le_of_ble_eq_true rfl) (preRW hK hS hAb hP hD) (rcv_8 hK hP (q0 := (0)) (xp_0 cA ax s)) rfl hl rfl (Nat.le_of_ble_eq_true rfl) (dd D_X8_cloud 15 rfl) ⟨Nat.le_of_ble_eq_true rfl, Nat.le_of_ble_eq_true rfl⟩) rfl (fun H locs hP hD hS => ?_)
      obtain rfl := Option.some.inj h
      exact rw_i (R := rmOf 2 0 0) F hP hD hS hr hlk ⟨Nat.le_of_ble_eq_true rfl, Nat.le_of_ble_eq_true rfl⟩ ⟨rfl, rfl⟩ (dd D_X8_cloud 16 rfl)
  · refine lv_aload_n F.1 F.2.1 (dd D_X8_cloud 3 rfl) rfl (lv_at hl 0 rfl) ?_
    refine lv_bipush (v := (-2 : Int32)) F.1 F.2.1 (dd D_X8_cloud 4 rfl) kb_m2 ?_
    obtain ⟨r11, e12, h⟩ := Option.bind_eq_some_iff.mp h
    refine rwe_all (st' := [.int r11.1]) hD hS hA (rV (rest := []) F (c_X8_refuse D cA ax s n (-2 : Int32) r11 e12 l H.size) lk_X8_64 (Nat.le_of_ble_eq_true rfl) (preRW hK hS hAb hP hD) (rcv_8 hK hP (q0 := (0)) (xp_0 cA ax s)) rfl hl rfl (Nat.le_of_ble_eq_true rfl) (dd D_X8_cloud 5 rfl) ⟨Nat.le_of_ble_eq_true rfl, Nat.le_of_ble_eq_true rfl⟩) rfl (fun H locs hP hD hS => ?_)
    obtain rfl := Option.some.inj h
    exact rw_i (R := rmOf 2 0 0) F hP hD hS hr hlk ⟨Nat.le_of_ble_eq_true rfl, Nat.le_of_ble_eq_true rfl⟩ ⟨rfl, rfl⟩ (dd D_X8_cloud 6 rfl)
def F_X8_clear (n : Nat) (s : XS) (p1 : Int32) : Option (Int32 × XS) := (if p1 = (0 : Int32) then (((F_X1_empty n (st_hill (x_now s)))).bind fun r2 => some ((F_X1_count (st_hill (x_now s))), (x_set_now s (st_set_hill (x_now s) r2)))) else (if p1 = (1 : Int32) then some ((F_X0_count 6 (st_stones (x_now s))), (x_set_now s (st_set_stones (x_now s) (F_X0_empty 6 (st_stones (x_now s)))))) else (if p1 = (2 : Int32) then some ((F_X0_count 8 (st_clouds (x_now s))), (x_set_now s (st_set_clouds (x_now s) (F_X0_empty 8 (st_clouds (x_now s)))))) else (((F_X8_refuse n s (-2 : Int32))).bind fun r4 => some (r4.1, r4.2)))))
set_option maxHeartbeats 4000000 in
set_option maxRecDepth 100000 in
theorem c_X8_clear (D : va_G) (cA : Nat → ClassId) (ax : Nat → Nat) (s : XS) (n : Nat) (p1 : Int32) (r : (Int32 × XS)) (h : F_X8_clear n s p1 = some r) : RW m_X8_clear 2 0 0 D cA [.ref (ax 0), .int p1] (xW cA ax s) (exq (some (.int r.1)) (xW cA ax r.2)) := by
  refine RW.ofW gy_X8_clear.2.2 (Nat.le_of_ble_eq_true rfl) ?_
  intro l p e sM m below meth c A H locs F hr hlk hnm hK hP hD hS hA hAb ls hl
  have hl : lv_has ls 3 [(0, .ref (ax 0)), (1, .int p1)] := hl
  unfold F_X8_clear at h
  refine lv_iload_n F.1 F.2.1 (dd D_X8_clear 0 rfl) rfl (lv_at hl 1 rfl) ?_
  refine x_ts (tgt := 28) F.1 F.2.1 (0 : Int32) (dd D_X8_clear 1 rfl) h (by decide) (by decide) rfl rfl (fun c1_0 h => ?_) (fun c1_0 h => ?_)
  · refine lv_aload_n F.1 F.2.1 (dd D_X8_clear 2 rfl) rfl (lv_at hl 0 rfl) ?_
    refine getF F hK hP lf_X8_10 (0) (xp_0 cA ax s) rfl (dd D_X8_clear 3 rfl) ?_
    refine getF F hK hP lf_X8_147 (1) (xp_1 cA ax s) rfl (dd D_X8_clear 4 rfl) ?_
    refine ro_go (st' := [.int (F_X1_count (st_hill (x_now s)))]) (rV (rest := []) F (c_X1_count D cA (fun i => ax (2+i)) (st_hill (x_now s)) l) lk_X8_160 (Nat.le_of_ble_eq_true rfl) (preRO hK hS hAb (pg_x_2 hP)) (rcv_1 hK hP (q0 := (2)) (xp_2 cA ax s)) rfl hl rfl (Nat.le_of_ble_eq_true rfl) (dd D_X8_clear 5 rfl) ⟨Nat.le_of_ble_eq_true rfl, Nat.le_of_ble_eq_true rfl⟩) rfl ?_
    refine lv_istore_n (lv' := [(2, .int (F_X1_count (st_hill (x_now s)))), (0, .ref (ax 0)), (1, .int p1)]) F.1 F.2.1 (dd D_X8_clear 6 rfl) rfl hl (Nat.le_of_ble_eq_true rfl) rfl (fun ls hl => ?_)
    refine lv_aload_n F.1 F.2.1 (dd D_X8_clear 7 rfl) rfl (lv_at hl 1 rfl) ?_
    refine getF F hK hP lf_X8_10 (0) (xp_0 cA ax s) rfl (dd D_X8_clear 8 rfl) ?_
    refine getF F hK hP lf_X8_147 (1) (xp_1 cA ax s) rfl (dd D_X8_clear 9 rfl) ?_
    obtain ⟨r2, e3, h⟩ := Option.bind_eq_some_iff.mp h
    refine rwe (V := none) (wc := (hillW cA (fun i => ax (2+i)) (st_hill (x_now s)))) (wc' := (hillW cA (fun i => ax (2+i)) r2)) (st' := []) (W' := (xW cA ax (x_set_now s (st_set_hill (x_now s) r2)))) hP hD hS hA [2, 3, 4, 5, 6, 7, 8, 9] (jc_x_2 cA ax s) (Nat_nd rfl) rfl (rV (rest := []) F (c_X1_empty D cA (fun i => ax (2+i)) (st_hill (x_now s)) n r2 e3 l H.size) lk_X8_179 (Nat.le_of_ble_eq_true rfl) (preRW hK hS hAb (selP (is := [2, 3, 4, 5, 6, 7, 8, 9]) hP (jc_x_2 cA ax s)) (selD (is := [2, 3, 4, 5, 6, 7, 8, 9]) hD (Nat_nd rfl) (jc_x_2 cA ax s))) (rcv_1 hK hP (q0 := (2)) (xp_2 cA ax s)) rfl hl rfl (Nat.le_of_ble_eq_true rfl) (dd D_X8_clear 10 rfl) ⟨Nat.le_of_ble_eq_true rfl, Nat.le_of_ble_eq_true rfl⟩) (js_x_2 cA ax s r2) rfl (fun H locs hP hD hS => ?_)
    refine lv_iload_n F.1 F.2.1 (dd D_X8_clear 11 rfl) rfl (lv_at hl 0 rfl) ?_
    obtain rfl := Option.some.inj h
    exact rw_i (R := rmOf 2 0 0) F hP hD hS hr hlk ⟨Nat.le_of_ble_eq_true rfl, Nat.le_of_ble_eq_true rfl⟩ ⟨rfl, rfl⟩ (dd D_X8_clear 12 rfl)
  refine x_ts (tgt := 51) F.1 F.2.1 (1 : Int32) (dd D_X8_clear 1 rfl) h (by decide) (by decide) rfl rfl (fun c1_1 h => ?_) (fun c1_1 h => ?_)
  · refine lv_aload_n F.1 F.2.1 (dd D_X8_clear 13 rfl) rfl (lv_at hl 0 rfl) ?_
    refine getF F hK hP lf_X8_10 (0) (xp_0 cA ax s) rfl (dd D_X8_clear 14 rfl) ?_
    refine getF F hK hP lf_X8_163 (1) (xp_1 cA ax s) rfl (dd D_X8_clear 15 rfl) ?_
    refine ro_go (st' := [.int (F_X0_count 6 (st_stones (x_now s)))]) (rV (rest := []) F (c_X0_count D cA 6 (fun i => ax (10+i)) (st_stones (x_now s)) l) lk_X8_172 (Nat.le_of_ble_eq_true rfl) (preRO hK hS hAb (pg_x_10 hP)) (rcv_0 hK hP (q0 := (10)) (xp_10 cA ax s)) rfl hl rfl (Nat.le_of_ble_eq_true rfl) (dd D_X8_clear 16 rfl) ⟨Nat.le_of_ble_eq_true rfl, Nat.le_of_ble_eq_true rfl⟩) rfl ?_
    refine lv_istore_n (lv' := [(2, .int (F_X0_count 6 (st_stones (x_now s)))), (0, .ref (ax 0)), (1, .int p1)]) F.1 F.2.1 (dd D_X8_clear 17 rfl) rfl hl (Nat.le_of_ble_eq_true rfl) rfl (fun ls hl => ?_)
    refine lv_aload_n F.1 F.2.1 (dd D_X8_clear 18 rfl) rfl (lv_at hl 1 rfl) ?_
    refine getF F hK hP lf_X8_10 (0) (xp_0 cA ax s) rfl (dd D_X8_clear 19 rfl) ?_
    refine getF F hK hP lf_X8_163 (1) (xp_1 cA ax s) rfl (dd D_X8_clear 20 rfl) ?_
    refine rwe (V := none) (wc := (fewW cA 6 (fun i => ax (10+i)) (st_stones (x_now s)))) (wc' := (fewW cA 6 (fun i => ax (10+i)) (F_X0_empty 6 (st_stones (x_now s))))) (st' := []) (W' := (xW cA ax (x_set_now s (st_set_stones (x_now s) (F_X0_empty 6 (st_stones (x_now s))))))) hP hD hS hA [10, 11] (jc_x_10 cA ax s) (Nat_nd rfl) rfl (rV (rest := []) F (c_X0_empty D cA 6 (fun i => ax (10+i)) (st_stones (x_now s)) l H.size) lk_X8_182 (Nat.le_of_ble_eq_true rfl) (preRW hK hS hAb (selP (is := [10, 11]) hP (jc_x_10 cA ax s)) (selD (is := [10, 11]) hD (Nat_nd rfl) (jc_x_10 cA ax s))) (rcv_0 hK hP (q0 := (10)) (xp_10 cA ax s)) rfl hl rfl (Nat.le_of_ble_eq_true rfl) (dd D_X8_clear 21 rfl) ⟨Nat.le_of_ble_eq_true rfl, Nat.le_of_ble_eq_true rfl⟩) (js_x_10 cA ax s (F_X0_empty 6 (st_stones (x_now s)))) rfl (fun H locs hP hD hS => ?_)
    refine lv_iload_n F.1 F.2.1 (dd D_X8_clear 22 rfl) rfl (lv_at hl 0 rfl) ?_
    obtain rfl := Option.some.inj h
    exact rw_i (R := rmOf 2 0 0) F hP hD hS hr hlk ⟨Nat.le_of_ble_eq_true rfl, Nat.le_of_ble_eq_true rfl⟩ ⟨rfl, rfl⟩ (dd D_X8_clear 23 rfl)
  refine x_ts (tgt := 74) F.1 F.2.1 (2 : Int32) (dd D_X8_clear 1 rfl) h (by decide) (by decide) rfl rfl (fun c1_2 h => ?_) (fun c1_2 h => ?_)
  · refine lv_aload_n F.1 F.2.1 (dd D_X8_clear 24 rfl) rfl (lv_at hl 0 rfl) ?_
    refine getF F hK hP lf_X8_10 (0) (xp_0 cA ax s) rfl (dd D_X8_clear 25 rfl) ?_
    refine getF F hK hP lf_X8_173 (1) (xp_1 cA ax s) rfl (dd D_X8_clear 26 rfl) ?_
    refine ro_go (st' := [.int (F_X0_count 8 (st_clouds (x_now s)))]) (rV (rest := []) F (c_X0_count D cA 8 (fun i => ax (12+i)) (st_clouds (x_now s)) l) lk_X8_172 (Nat.le_of_ble_eq_true rfl) (preRO hK hS hAb (pg_x_12 hP)) (rcv_0 hK hP (q0 := (12)) (xp_12 cA ax s)) rfl hl rfl (Nat.le_of_ble_eq_true rfl) (dd D_X8_clear 27 rfl) ⟨Nat.le_of_ble_eq_true rfl, Nat.le_of_ble_eq_true rfl⟩) rfl ?_
    refine lv_istore_n (lv' := [(2, .int (F_X0_count 8 (st_clouds (x_now s)))), (0, .ref (ax 0)), (1, .int p1)]) F.1 F.2.1 (dd D_X8_clear 28 rfl) rfl hl (Nat.le_of_ble_eq_true rfl) rfl (fun ls hl => ?_)
    refine lv_aload_n F.1 F.2.1 (dd D_X8_clear 29 rfl) rfl (lv_at hl 1 rfl) ?_
    refine getF F hK hP lf_X8_10 (0) (xp_0 cA ax s) rfl (dd D_X8_clear 30 rfl) ?_
    refine getF F hK hP lf_X8_173 (1) (xp_1 cA ax s) rfl (dd D_X8_clear 31 rfl) ?_
    refine rwe (V := none) (wc := (fewW cA 8 (fun i => ax (12+i)) (st_clouds (x_now s)))) (wc' := (fewW cA 8 (fun i => ax (12+i)) (F_X0_empty 8 (st_clouds (x_now s))))) (st' := []) (W' := (xW cA ax (x_set_now s (st_set_clouds (x_now s) (F_X0_empty 8 (st_clouds (x_now s))))))) hP hD hS hA [12, 13] (jc_x_12 cA ax s) (Nat_nd rfl) rfl (rV (rest := []) F (c_X0_empty D cA 8 (fun i => ax (12+i)) (st_clouds (x_now s)) l H.size) lk_X8_182 (Nat.le_of_ble_eq_true rfl) (preRW hK hS hAb (selP (is := [12, 13]) hP (jc_x_12 cA ax s)) (selD (is := [12, 13]) hD (Nat_nd rfl) (jc_x_12 cA ax s))) (rcv_0 hK hP (q0 := (12)) (xp_12 cA ax s)) rfl hl rfl (Nat.le_of_ble_eq_true rfl) (dd D_X8_clear 32 rfl) ⟨Nat.le_of_ble_eq_true rfl, Nat.le_of_ble_eq_true rfl⟩) (js_x_12 cA ax s (F_X0_empty 8 (st_clouds (x_now s)))) rfl (fun H locs hP hD hS => ?_)
    refine lv_iload_n F.1 F.2.1 (dd D_X8_clear 33 rfl) rfl (lv_at hl 0 rfl) ?_
    obtain rfl := Option.some.inj h
    exact rw_i (R := rmOf 2 0 0) F hP hD hS hr hlk ⟨Nat.le_of_ble_eq_true rfl, Nat.le_of_ble_eq_true rfl⟩ ⟨rfl, rfl⟩ (dd D_X8_clear 34 rfl)
  refine lv_tableOut (tgt := 97) F.1 F.2.1 (dd D_X8_clear 1 rfl) (ts_out (lo := 0) (vs := [(0 : Int32), (1 : Int32), (2 : Int32)]) tsv_0_3 (by intro v hv; simp only [List.mem_cons, List.not_mem_nil, or_false] at hv; rcases hv with rfl | rfl | rfl <;> assumption)) rfl ?_
  refine lv_aload_n F.1 F.2.1 (dd D_X8_clear 35 rfl) rfl (lv_at hl 0 rfl) ?_
  refine lv_bipush (v := (-2 : Int32)) F.1 F.2.1 (dd D_X8_clear 36 rfl) kb_m2 ?_
  obtain ⟨r4, e5, h⟩ := Option.bind_eq_some_iff.mp h
  refine rwe_all (st' := [.int r4.1]) hD hS hA (rV (rest := []) F (c_X8_refuse D cA ax s n (-2 : Int32) r4 e5 l H.size) lk_X8_64 (Nat.le_of_ble_eq_true rfl) (preRW hK hS hAb hP hD) (rcv_8 hK hP (q0 := (0)) (xp_0 cA ax s)) rfl hl rfl (Nat.le_of_ble_eq_true rfl) (dd D_X8_clear 37 rfl) ⟨Nat.le_of_ble_eq_true rfl, Nat.le_of_ble_eq_true rfl⟩) rfl (fun H locs hP hD hS => ?_)
  obtain rfl := Option.some.inj h
  exact rw_i (R := rmOf 2 0 0) F hP hD hS hr hlk ⟨Nat.le_of_ble_eq_true rfl, Nat.le_of_ble_eq_true rfl⟩ ⟨rfl, rfl⟩ (dd D_X8_clear 38 rfl)
def F_X8_feed (n : Nat) (s : XS) (p1 : Int32) : Option (Int32 × XS) := bf (F_X8_isIn p1 (0 : Int32) (255 : Int32)) (bf (F_X7_isFull s) ((((F_X8_refuse n s (-6 : Int32))).bind fun r3 => some (r3.1, r3.2))) ((((F_X7_add n s p1)).bind fun r1 => some ((F_X7_size r1), r1)))) ((((F_X8_refuse n s (-2 : Int32))).bind fun r6 => some (r6.1, r6.2)))
set_option maxHeartbeats 4000000 in
set_option maxRecDepth 100000 in
theorem c_X8_feed (D : va_G) (cA : Nat → ClassId) (ax : Nat → Nat) (s : XS) (n : Nat) (p1 : Int32) (r : (Int32 × XS)) (h : F_X8_feed n s p1 = some r) : RW m_X8_feed 1 0 0 D cA [.ref (ax 0), .int p1] (xW cA ax s) (exq (some (.int r.1)) (xW cA ax r.2)) := by
  refine RW.ofW gy_X8_feed.2.2 (Nat.le_of_ble_eq_true rfl) ?_
  intro l p e sM m below meth c A H locs F hr hlk hnm hK hP hD hS hA hAb ls hl
  have hl : lv_has ls 2 [(0, .ref (ax 0)), (1, .int p1)] := hl
  unfold F_X8_feed at h
  refine lv_iload_n F.1 F.2.1 (dd D_X8_feed 0 rfl) rfl (lv_at hl 1 rfl) ?_
  refine lv_iconst (v := (0 : Int32)) F.1 F.2.1 (dd D_X8_feed 1 rfl) ki_0 ?_
  refine lv_sipush (v := (255 : Int32)) F.1 F.2.1 (dd D_X8_feed 2 rfl) ks_255 ?_
  refine ro_go (st' := [.int (bI (F_X8_isIn p1 (0 : Int32) (255 : Int32)))]) (rS (rest := []) F (c_X8_isIn D cA p1 (0 : Int32) (255 : Int32) l) lk_X8_60 (Nat.le_of_ble_eq_true rfl) (preRO hK hS hAb (emP)) rfl hl rfl (Nat.le_of_ble_eq_true rfl) (dd D_X8_feed 3 rfl) ⟨Nat.le_of_ble_eq_true rfl, Nat.le_of_ble_eq_true rfl⟩) rfl ?_
  refine x_bif_ne (tgt := 18) F.1 F.2.1 (dd D_X8_feed 4 rfl) rfl h (fun c8 h => ?_) (fun c8 h => ?_)
  · refine lv_aload_n F.1 F.2.1 (dd D_X8_feed 9 rfl) rfl (lv_at hl 0 rfl) ?_
    refine getF F hK hP lf_X8_34 (0) (xp_0 cA ax s) rfl (dd D_X8_feed 10 rfl) ?_
    refine ro_go (st' := [.int (bI (F_X7_isFull s))]) (rV (rest := []) F (c_X7_isFull D cA ax s l) lk_X8_183 (Nat.le_of_ble_eq_true rfl) (preRO hK hS hAb hP) (rcv_7 hK hP (q0 := (41)) (xp_41 cA ax s)) rfl hl rfl (Nat.le_of_ble_eq_true rfl) (dd D_X8_feed 11 rfl) ⟨Nat.le_of_ble_eq_true rfl, Nat.le_of_ble_eq_true rfl⟩) rfl ?_
    refine x_bif_eq (tgt := 35) F.1 F.2.1 (dd D_X8_feed 12 rfl) rfl h (fun c5 h => ?_) (fun c5 h => ?_)
    · refine lv_aload_n F.1 F.2.1 (dd D_X8_feed 17 rfl) rfl (lv_at hl 0 rfl) ?_
      refine getF F hK hP lf_X8_34 (0) (xp_0 cA ax s) rfl (dd D_X8_feed 18 rfl) ?_
      refine lv_iload_n F.1 F.2.1 (dd D_X8_feed 19 rfl) rfl (lv_at hl 1 rfl) ?_
      obtain ⟨r1, e2, h⟩ := Option.bind_eq_some_iff.mp h
      refine rwe_all (st' := []) hD hS hA (rV (rest := []) F (c_X7_add D cA ax s n p1 r1 e2 l H.size) lk_X8_184 (Nat.le_of_ble_eq_true rfl) (preRW hK hS hAb hP hD) (rcv_7 hK hP (q0 := (41)) (xp_41 cA ax s)) rfl hl rfl (Nat.le_of_ble_eq_true rfl) (dd D_X8_feed 20 rfl) ⟨Nat.le_of_ble_eq_true rfl, Nat.le_of_ble_eq_true rfl⟩) rfl (fun H locs hP hD hS => ?_)
      refine lv_aload_n F.1 F.2.1 (dd D_X8_feed 21 rfl) rfl (lv_at hl 0 rfl) ?_
      refine getF F hK hP lf_X8_34 (0) (xp_0 cA ax r1) rfl (dd D_X8_feed 22 rfl) ?_
      refine ro_go (st' := [.int (F_X7_size r1)]) (rV (rest := []) F (c_X7_size D cA ax r1 l) lk_X8_185 (Nat.le_of_ble_eq_true rfl) (preRO hK hS hAb hP) (rcv_7 hK hP (q0 := (41)) (xp_41 cA ax r1)) rfl hl rfl (Nat.le_of_ble_eq_true rfl) (dd D_X8_feed 23 rfl) ⟨Nat.le_of_ble_eq_true rfl, Nat.le_of_ble_eq_true rfl⟩) rfl ?_
      obtain rfl := Option.some.inj h
      exact rw_i (R := rmOf 1 0 0) F hP hD hS hr hlk ⟨Nat.le_of_ble_eq_true rfl, Nat.le_of_ble_eq_true rfl⟩ ⟨rfl, rfl⟩ (dd D_X8_feed 24 rfl)
    · refine lv_aload_n F.1 F.2.1 (dd D_X8_feed 13 rfl) rfl (lv_at hl 0 rfl) ?_
      refine lv_bipush (v := (-6 : Int32)) F.1 F.2.1 (dd D_X8_feed 14 rfl) kb_m6 ?_
      obtain ⟨r3, e4, h⟩ := Option.bind_eq_some_iff.mp h
      refine rwe_all (st' := [.int r3.1]) hD hS hA (rV (rest := []) F (c_X8_refuse D cA ax s n (-6 : Int32) r3 e4 l H.size) lk_X8_64 (Nat.le_of_ble_eq_true rfl) (preRW hK hS hAb hP hD) (rcv_8 hK hP (q0 := (0)) (xp_0 cA ax s)) rfl hl rfl (Nat.le_of_ble_eq_true rfl) (dd D_X8_feed 15 rfl) ⟨Nat.le_of_ble_eq_true rfl, Nat.le_of_ble_eq_true rfl⟩) rfl (fun H locs hP hD hS => ?_)
      obtain rfl := Option.some.inj h
      exact rw_i (R := rmOf 1 0 0) F hP hD hS hr hlk ⟨Nat.le_of_ble_eq_true rfl, Nat.le_of_ble_eq_true rfl⟩ ⟨rfl, rfl⟩ (dd D_X8_feed 16 rfl)
  · refine lv_aload_n F.1 F.2.1 (dd D_X8_feed 5 rfl) rfl (lv_at hl 0 rfl) ?_
    refine lv_bipush (v := (-2 : Int32)) F.1 F.2.1 (dd D_X8_feed 6 rfl) kb_m2 ?_
    obtain ⟨r6, e7, h⟩ := Option.bind_eq_some_iff.mp h
    refine rwe_all (st' := [.int r6.1]) hD hS hA (rV (rest := []) F (c_X8_refuse D cA ax s n (-2 : Int32) r6 e7 l H.size) lk_X8_64 (Nat.le_of_ble_eq_true rfl) (preRW hK hS hAb hP hD) (rcv_8 hK hP (q0 := (0)) (xp_0 cA ax s)) rfl hl rfl (Nat.le_of_ble_eq_true rfl) (dd D_X8_feed 7 rfl) ⟨Nat.le_of_ble_eq_true rfl, Nat.le_of_ble_eq_true rfl⟩) rfl (fun H locs hP hD hS => ?_)
    obtain rfl := Option.some.inj h
    exact rw_i (R := rmOf 1 0 0) F hP hD hS hr hlk ⟨Nat.le_of_ble_eq_true rfl, Nat.le_of_ble_eq_true rfl⟩ ⟨rfl, rfl⟩ (dd D_X8_feed 8 rfl)
def F_X8_wipe (s : XS) : (Int32 × XS) := ((F_X7_size s), (F_X7_empty s))
set_option maxHeartbeats 4000000 in
set_option maxRecDepth 100000 in
theorem c_X8_wipe (D : va_G) (cA : Nat → ClassId) (ax : Nat → Nat) (s : XS)  : RW m_X8_wipe 1 0 0 D cA [.ref (ax 0)] (xW cA ax s) (exq (some (.int (F_X8_wipe s).1)) (xW cA ax (F_X8_wipe s).2)) := by
  obtain ⟨r, h⟩ : ∃ r, F_X8_wipe s = r := ⟨_, rfl⟩
  rw [h]
  refine RW.ofW gy_X8_wipe.2.2 (Nat.le_of_ble_eq_true rfl) ?_
  intro l p e sM m below meth c A H locs F hr hlk hnm hK hP hD hS hA hAb ls hl
  have hl : lv_has ls 2 [(0, .ref (ax 0))] := hl
  unfold F_X8_wipe at h
  refine lv_aload_n F.1 F.2.1 (dd D_X8_wipe 0 rfl) rfl (lv_at hl 0 rfl) ?_
  refine getF F hK hP lf_X8_34 (0) (xp_0 cA ax s) rfl (dd D_X8_wipe 1 rfl) ?_
  refine ro_go (st' := [.int (F_X7_size s)]) (rV (rest := []) F (c_X7_size D cA ax s l) lk_X8_185 (Nat.le_of_ble_eq_true rfl) (preRO hK hS hAb hP) (rcv_7 hK hP (q0 := (41)) (xp_41 cA ax s)) rfl hl rfl (Nat.le_of_ble_eq_true rfl) (dd D_X8_wipe 2 rfl) ⟨Nat.le_of_ble_eq_true rfl, Nat.le_of_ble_eq_true rfl⟩) rfl ?_
  refine lv_istore_n (lv' := [(1, .int (F_X7_size s)), (0, .ref (ax 0))]) F.1 F.2.1 (dd D_X8_wipe 3 rfl) rfl hl (Nat.le_of_ble_eq_true rfl) rfl (fun ls hl => ?_)
  refine lv_aload_n F.1 F.2.1 (dd D_X8_wipe 4 rfl) rfl (lv_at hl 1 rfl) ?_
  refine getF F hK hP lf_X8_34 (0) (xp_0 cA ax s) rfl (dd D_X8_wipe 5 rfl) ?_
  refine rwe_all (st' := []) hD hS hA (rV (rest := []) F (c_X7_empty D cA ax s l H.size) lk_X8_188 (Nat.le_of_ble_eq_true rfl) (preRW hK hS hAb hP hD) (rcv_7 hK hP (q0 := (41)) (xp_41 cA ax s)) rfl hl rfl (Nat.le_of_ble_eq_true rfl) (dd D_X8_wipe 6 rfl) ⟨Nat.le_of_ble_eq_true rfl, Nat.le_of_ble_eq_true rfl⟩) rfl (fun H locs hP hD hS => ?_)
  refine lv_iload_n F.1 F.2.1 (dd D_X8_wipe 7 rfl) rfl (lv_at hl 0 rfl) ?_
  subst h
  exact rw_i (R := rmOf 1 0 0) F hP hD hS hr hlk ⟨Nat.le_of_ble_eq_true rfl, Nat.le_of_ble_eq_true rfl⟩ ⟨rfl, rfl⟩ (dd D_X8_wipe 8 rfl)
def F_X8_sky (n : Nat) (s : XS) : Option (Int32 × XS) := (((F_X6_become n (x_draft s) (x_now s))).bind fun r1 => (((F_X7_read n (x_set_draft s r1))).bind fun r3 => (if r3.1 = (-1 : Int32) then (((F_X8_refuse n (F_X7_empty r3.2) (-2 : Int32))).bind fun r8 => some (((-20 : Int32) - (F_X7_fault r3.2)), r8.2)) else (((F_X6_become n (x_now (F_X7_empty r3.2)) (x_draft (F_X7_empty r3.2)))).bind fun r6 => some (r3.1, (x_set_now (F_X7_empty r3.2) r6))))))
set_option maxHeartbeats 4000000 in
set_option maxRecDepth 100000 in
theorem c_X8_sky (D : va_G) (cA : Nat → ClassId) (ax : Nat → Nat) (s : XS) (n : Nat)  (r : (Int32 × XS)) (h : F_X8_sky n s = some r) : RW m_X8_sky 8 0 0 D cA [.ref (ax 0)] (xW cA ax s) (exq (some (.int r.1)) (xW cA ax r.2)) := by
  refine RW.ofW gy_X8_sky.2.2 (Nat.le_of_ble_eq_true rfl) ?_
  intro l p e sM m below meth c A H locs F hr hlk hnm hK hP hD hS hA hAb ls hl
  have hl : lv_has ls 3 [(0, .ref (ax 0))] := hl
  unfold F_X8_sky at h
  refine lv_aload_n F.1 F.2.1 (dd D_X8_sky 0 rfl) rfl (lv_at hl 0 rfl) ?_
  refine getF F hK hP lf_X8_16 (0) (xp_0 cA ax s) rfl (dd D_X8_sky 1 rfl) ?_
  refine lv_aload_n F.1 F.2.1 (dd D_X8_sky 2 rfl) rfl (lv_at hl 0 rfl) ?_
  refine getF F hK hP lf_X8_10 (0) (xp_0 cA ax s) rfl (dd D_X8_sky 3 rfl) ?_
  obtain ⟨r1, e2, h⟩ := Option.bind_eq_some_iff.mp h
  refine rwe (V := none) (wc := ((stateW cA (fun i => ax (14+i)) (x_draft s)) ++ (stateW cA (fun i => ax (1+i)) (x_now s)))) (wc' := ((stateW cA (fun i => ax (14+i)) r1) ++ (stateW cA (fun i => ax (1+i)) (x_now s)))) (st' := []) (W' := (xW cA ax (x_set_draft s r1))) hP hD hS hA [14, 15, 16, 17, 18, 19, 20, 21, 22, 23, 24, 25, 26, 1, 2, 3, 4, 5, 6, 7, 8, 9, 10, 11, 12, 13] (jc_x_14_1 cA ax s) (Nat_nd rfl) rfl (rV (rest := []) F (c_X6_become D cA (fun i => ax (14+i)) (x_draft s) (fun i => ax (1+i)) (x_now s) n r1 e2 l H.size) lk_X8_189 (Nat.le_of_ble_eq_true rfl) (preRW hK hS hAb (selP (is := [14, 15, 16, 17, 18, 19, 20, 21, 22, 23, 24, 25, 26, 1, 2, 3, 4, 5, 6, 7, 8, 9, 10, 11, 12, 13]) hP (jc_x_14_1 cA ax s)) (selD (is := [14, 15, 16, 17, 18, 19, 20, 21, 22, 23, 24, 25, 26, 1, 2, 3, 4, 5, 6, 7, 8, 9, 10, 11, 12, 13]) hD (Nat_nd rfl) (jc_x_14_1 cA ax s))) (rcv_6 hK hP (q0 := (14)) (xp_14 cA ax s)) rfl hl rfl (Nat.le_of_ble_eq_true rfl) (dd D_X8_sky 4 rfl) ⟨Nat.le_of_ble_eq_true rfl, Nat.le_of_ble_eq_true rfl⟩) (js_x_14_1 cA ax s r1) rfl (fun H locs hP hD hS => ?_)
  refine lv_aload_n F.1 F.2.1 (dd D_X8_sky 5 rfl) rfl (lv_at hl 0 rfl) ?_
  refine getF F hK hP lf_X8_34 (0) (xp_0 cA ax (x_set_draft s r1)) rfl (dd D_X8_sky 6 rfl) ?_
  refine lv_aload_n F.1 F.2.1 (dd D_X8_sky 7 rfl) rfl (lv_at hl 0 rfl) ?_
  refine getF F hK hP lf_X8_16 (0) (xp_0 cA ax (x_set_draft s r1)) rfl (dd D_X8_sky 8 rfl) ?_
  obtain ⟨r3, e4, h⟩ := Option.bind_eq_some_iff.mp h
  refine rwe_all (st' := [.int r3.1]) hD hS hA (rV (rest := []) F (c_X7_read D cA ax (x_set_draft s r1) n r3 e4 l H.size) lk_X8_192 (Nat.le_of_ble_eq_true rfl) (preRW hK hS hAb hP hD) (rcv_7 hK hP (q0 := (41)) (xp_41 cA ax (x_set_draft s r1))) rfl hl rfl (Nat.le_of_ble_eq_true rfl) (dd D_X8_sky 9 rfl) ⟨Nat.le_of_ble_eq_true rfl, Nat.le_of_ble_eq_true rfl⟩) rfl (fun H locs hP hD hS => ?_)
  refine lv_istore_n (lv' := [(1, .int r3.1), (0, .ref (ax 0))]) F.1 F.2.1 (dd D_X8_sky 10 rfl) rfl hl (Nat.le_of_ble_eq_true rfl) rfl (fun ls hl => ?_)
  refine lv_aload_n F.1 F.2.1 (dd D_X8_sky 11 rfl) rfl (lv_at hl 1 rfl) ?_
  refine getF F hK hP lf_X8_34 (0) (xp_0 cA ax r3.2) rfl (dd D_X8_sky 12 rfl) ?_
  refine ro_go (st' := [.int (F_X7_fault r3.2)]) (rV (rest := []) F (c_X7_fault D cA ax r3.2 l) lk_X8_196 (Nat.le_of_ble_eq_true rfl) (preRO hK hS hAb hP) (rcv_7 hK hP (q0 := (41)) (xp_41 cA ax r3.2)) rfl hl rfl (Nat.le_of_ble_eq_true rfl) (dd D_X8_sky 13 rfl) ⟨Nat.le_of_ble_eq_true rfl, Nat.le_of_ble_eq_true rfl⟩) rfl ?_
  refine lv_istore_n (lv' := [(2, .int (F_X7_fault r3.2)), (1, .int r3.1), (0, .ref (ax 0))]) F.1 F.2.1 (dd D_X8_sky 14 rfl) rfl hl (Nat.le_of_ble_eq_true rfl) rfl (fun ls hl => ?_)
  refine lv_aload_n F.1 F.2.1 (dd D_X8_sky 15 rfl) rfl (lv_at hl 2 rfl) ?_
  refine getF F hK hP lf_X8_34 (0) (xp_0 cA ax r3.2) rfl (dd D_X8_sky 16 rfl) ?_
  refine rwe_all (st' := []) hD hS hA (rV (rest := []) F (c_X7_empty D cA ax r3.2 l H.size) lk_X8_188 (Nat.le_of_ble_eq_true rfl) (preRW hK hS hAb hP hD) (rcv_7 hK hP (q0 := (41)) (xp_41 cA ax r3.2)) rfl hl rfl (Nat.le_of_ble_eq_true rfl) (dd D_X8_sky 17 rfl) ⟨Nat.le_of_ble_eq_true rfl, Nat.le_of_ble_eq_true rfl⟩) rfl (fun H locs hP hD hS => ?_)
  refine lv_iload_n F.1 F.2.1 (dd D_X8_sky 18 rfl) rfl (lv_at hl 1 rfl) ?_
  refine lv_iconst (v := (-1 : Int32)) F.1 F.2.1 (dd D_X8_sky 19 rfl) ki_m1 ?_
  refine x_icmp_ne (tgt := 55) F.1 F.2.1 (dd D_X8_sky 20 rfl) rfl h (fun c5 h => ?_) (fun c5 h => ?_)
  · refine lv_aload_n F.1 F.2.1 (dd D_X8_sky 29 rfl) rfl (lv_at hl 2 rfl) ?_
    refine getF F hK hP lf_X8_10 (0) (xp_0 cA ax (F_X7_empty r3.2)) rfl (dd D_X8_sky 30 rfl) ?_
    refine lv_aload_n F.1 F.2.1 (dd D_X8_sky 31 rfl) rfl (lv_at hl 2 rfl) ?_
    refine getF F hK hP lf_X8_16 (0) (xp_0 cA ax (F_X7_empty r3.2)) rfl (dd D_X8_sky 32 rfl) ?_
    obtain ⟨r6, e7, h⟩ := Option.bind_eq_some_iff.mp h
    refine rwe (V := none) (wc := ((stateW cA (fun i => ax (1+i)) (x_now (F_X7_empty r3.2))) ++ (stateW cA (fun i => ax (14+i)) (x_draft (F_X7_empty r3.2))))) (wc' := ((stateW cA (fun i => ax (1+i)) r6) ++ (stateW cA (fun i => ax (14+i)) (x_draft (F_X7_empty r3.2))))) (st' := []) (W' := (xW cA ax (x_set_now (F_X7_empty r3.2) r6))) hP hD hS hA [1, 2, 3, 4, 5, 6, 7, 8, 9, 10, 11, 12, 13, 14, 15, 16, 17, 18, 19, 20, 21, 22, 23, 24, 25, 26] (jc_x_1_14 cA ax (F_X7_empty r3.2)) (Nat_nd rfl) rfl (rV (rest := []) F (c_X6_become D cA (fun i => ax (1+i)) (x_now (F_X7_empty r3.2)) (fun i => ax (14+i)) (x_draft (F_X7_empty r3.2)) n r6 e7 l H.size) lk_X8_189 (Nat.le_of_ble_eq_true rfl) (preRW hK hS hAb (selP (is := [1, 2, 3, 4, 5, 6, 7, 8, 9, 10, 11, 12, 13, 14, 15, 16, 17, 18, 19, 20, 21, 22, 23, 24, 25, 26]) hP (jc_x_1_14 cA ax (F_X7_empty r3.2))) (selD (is := [1, 2, 3, 4, 5, 6, 7, 8, 9, 10, 11, 12, 13, 14, 15, 16, 17, 18, 19, 20, 21, 22, 23, 24, 25, 26]) hD (Nat_nd rfl) (jc_x_1_14 cA ax (F_X7_empty r3.2)))) (rcv_6 hK hP (q0 := (1)) (xp_1 cA ax (F_X7_empty r3.2))) rfl hl rfl (Nat.le_of_ble_eq_true rfl) (dd D_X8_sky 33 rfl) ⟨Nat.le_of_ble_eq_true rfl, Nat.le_of_ble_eq_true rfl⟩) (js_x_1_14 cA ax (F_X7_empty r3.2) r6) rfl (fun H locs hP hD hS => ?_)
    refine lv_iload_n F.1 F.2.1 (dd D_X8_sky 34 rfl) rfl (lv_at hl 1 rfl) ?_
    obtain rfl := Option.some.inj h
    exact rw_i (R := rmOf 8 0 0) F hP hD hS hr hlk ⟨Nat.le_of_ble_eq_true rfl, Nat.le_of_ble_eq_true rfl⟩ ⟨rfl, rfl⟩ (dd D_X8_sky 35 rfl)
  · refine lv_aload_n F.1 F.2.1 (dd D_X8_sky 21 rfl) rfl (lv_at hl 2 rfl) ?_
    refine lv_bipush (v := (-2 : Int32)) F.1 F.2.1 (dd D_X8_sky 22 rfl) kb_m2 ?_
    obtain ⟨r8, e9, h⟩ := Option.bind_eq_some_iff.mp h
    refine rwe_all (st' := [.int r8.1]) hD hS hA (rV (rest := []) F (c_X8_refuse D cA ax (F_X7_empty r3.2) n (-2 : Int32) r8 e9 l H.size) lk_X8_64 (Nat.le_of_ble_eq_true rfl) (preRW hK hS hAb hP hD) (rcv_8 hK hP (q0 := (0)) (xp_0 cA ax (F_X7_empty r3.2))) rfl hl rfl (Nat.le_of_ble_eq_true rfl) (dd D_X8_sky 23 rfl) ⟨Nat.le_of_ble_eq_true rfl, Nat.le_of_ble_eq_true rfl⟩) rfl (fun H locs hP hD hS => ?_)
    refine lv_pop F.1 F.2.1 (dd D_X8_sky 24 rfl) rfl ?_
    refine lv_bipush (v := (-20 : Int32)) F.1 F.2.1 (dd D_X8_sky 25 rfl) kb_m20 ?_
    refine lv_iload_n F.1 F.2.1 (dd D_X8_sky 26 rfl) rfl (lv_at hl 0 rfl) ?_
    refine lv_isub F.1 F.2.1 (dd D_X8_sky 27 rfl) ?_
    obtain rfl := Option.some.inj h
    exact rw_i (R := rmOf 8 0 0) F hP hD hS hr hlk ⟨Nat.le_of_ble_eq_true rfl, Nat.le_of_ble_eq_true rfl⟩ ⟨rfl, rfl⟩ (dd D_X8_sky 28 rfl)
def F_X8_notchOf (n : Nat) (s : XS) (p1 : Int32) (p2 : Int32) : Option (Int32 × XS) := bf (F_X8_isIn p1 (0 : Int32) ((F_X1_count (st_hill (x_now s))) - (1 : Int32))) (bf (F_X8_isIn p2 (0 : Int32) (2 : Int32)) ((((F_X1_partOf n (st_hill (x_now s)) p1 p2)).bind fun r3 => some (r3, s))) ((((F_X8_refuse n s (-2 : Int32))).bind fun r5 => some (r5.1, r5.2)))) ((((F_X8_refuse n s (-2 : Int32))).bind fun r1 => some (r1.1, r1.2)))
set_option maxHeartbeats 4000000 in
set_option maxRecDepth 100000 in
theorem c_X8_notchOf (D : va_G) (cA : Nat → ClassId) (ax : Nat → Nat) (s : XS) (n : Nat) (p1 : Int32) (p2 : Int32) (r : (Int32 × XS)) (h : F_X8_notchOf n s p1 p2 = some r) : RW m_X8_notchOf 2 0 0 D cA [.ref (ax 0), .int p1, .int p2] (xW cA ax s) (exq (some (.int r.1)) (xW cA ax r.2)) := by
  refine RW.ofW gy_X8_notchOf.2.2 (Nat.le_of_ble_eq_true rfl) ?_
  intro l p e sM m below meth c A H locs F hr hlk hnm hK hP hD hS hA hAb ls hl
  have hl : lv_has ls 3 [(0, .ref (ax 0)), (1, .int p1), (2, .int p2)] := hl
  unfold F_X8_notchOf at h
  refine lv_iload_n F.1 F.2.1 (dd D_X8_notchOf 0 rfl) rfl (lv_at hl 1 rfl) ?_
  refine lv_iconst (v := (0 : Int32)) F.1 F.2.1 (dd D_X8_notchOf 1 rfl) ki_0 ?_
  refine lv_aload_n F.1 F.2.1 (dd D_X8_notchOf 2 rfl) rfl (lv_at hl 0 rfl) ?_
  refine getF F hK hP lf_X8_10 (0) (xp_0 cA ax s) rfl (dd D_X8_notchOf 3 rfl) ?_
  refine getF F hK hP lf_X8_147 (1) (xp_1 cA ax s) rfl (dd D_X8_notchOf 4 rfl) ?_
  refine ro_go (st' := [.int (F_X1_count (st_hill (x_now s))), .int (0 : Int32), .int p1]) (rV (rest := [.int (0 : Int32), .int p1]) F (c_X1_count D cA (fun i => ax (2+i)) (st_hill (x_now s)) l) lk_X8_160 (Nat.le_of_ble_eq_true rfl) (preRO hK hS hAb (pg_x_2 hP)) (rcv_1 hK hP (q0 := (2)) (xp_2 cA ax s)) rfl hl rfl (Nat.le_of_ble_eq_true rfl) (dd D_X8_notchOf 5 rfl) ⟨Nat.le_of_ble_eq_true rfl, Nat.le_of_ble_eq_true rfl⟩) rfl ?_
  refine lv_iconst (v := (1 : Int32)) F.1 F.2.1 (dd D_X8_notchOf 6 rfl) ki_1 ?_
  refine lv_isub F.1 F.2.1 (dd D_X8_notchOf 7 rfl) ?_
  refine ro_go (st' := [.int (bI (F_X8_isIn p1 (0 : Int32) ((F_X1_count (st_hill (x_now s))) - (1 : Int32))))]) (rS (rest := []) F (c_X8_isIn D cA p1 (0 : Int32) ((F_X1_count (st_hill (x_now s))) - (1 : Int32)) l) lk_X8_60 (Nat.le_of_ble_eq_true rfl) (preRO hK hS hAb (emP)) rfl hl rfl (Nat.le_of_ble_eq_true rfl) (dd D_X8_notchOf 8 rfl) ⟨Nat.le_of_ble_eq_true rfl, Nat.le_of_ble_eq_true rfl⟩) rfl ?_
  refine x_bif_eq (tgt := 29) F.1 F.2.1 (dd D_X8_notchOf 9 rfl) rfl h (fun c8 h => ?_) (fun c8 h => ?_)
  · refine lv_aload_n F.1 F.2.1 (dd D_X8_notchOf 15 rfl) rfl (lv_at hl 0 rfl) ?_
    refine lv_bipush (v := (-2 : Int32)) F.1 F.2.1 (dd D_X8_notchOf 16 rfl) kb_m2 ?_
    obtain ⟨r1, e2, h⟩ := Option.bind_eq_some_iff.mp h
    refine rwe_all (st' := [.int r1.1]) hD hS hA (rV (rest := []) F (c_X8_refuse D cA ax s n (-2 : Int32) r1 e2 l H.size) lk_X8_64 (Nat.le_of_ble_eq_true rfl) (preRW hK hS hAb hP hD) (rcv_8 hK hP (q0 := (0)) (xp_0 cA ax s)) rfl hl rfl (Nat.le_of_ble_eq_true rfl) (dd D_X8_notchOf 17 rfl) ⟨Nat.le_of_ble_eq_true rfl, Nat.le_of_ble_eq_true rfl⟩) rfl (fun H locs hP hD hS => ?_)
    obtain rfl := Option.some.inj h
    exact rw_i (R := rmOf 2 0 0) F hP hD hS hr hlk ⟨Nat.le_of_ble_eq_true rfl, Nat.le_of_ble_eq_true rfl⟩ ⟨rfl, rfl⟩ (dd D_X8_notchOf 18 rfl)
  · refine lv_iload_n F.1 F.2.1 (dd D_X8_notchOf 10 rfl) rfl (lv_at hl 2 rfl) ?_
    refine lv_iconst (v := (0 : Int32)) F.1 F.2.1 (dd D_X8_notchOf 11 rfl) ki_0 ?_
    refine lv_iconst (v := (2 : Int32)) F.1 F.2.1 (dd D_X8_notchOf 12 rfl) ki_2 ?_
    refine ro_go (st' := [.int (bI (F_X8_isIn p2 (0 : Int32) (2 : Int32)))]) (rS (rest := []) F (c_X8_isIn D cA p2 (0 : Int32) (2 : Int32) l) lk_X8_60 (Nat.le_of_ble_eq_true rfl) (preRO hK hS hAb (emP)) rfl hl rfl (Nat.le_of_ble_eq_true rfl) (dd D_X8_notchOf 13 rfl) ⟨Nat.le_of_ble_eq_true rfl, Nat.le_of_ble_eq_true rfl⟩) rfl ?_
    refine x_bif_ne (tgt := 36) F.1 F.2.1 (dd D_X8_notchOf 14 rfl) rfl h (fun c7 h => ?_) (fun c7 h => ?_)
    · refine lv_aload_n F.1 F.2.1 (dd D_X8_notchOf 19 rfl) rfl (lv_at hl 0 rfl) ?_
      refine getF F hK hP lf_X8_10 (0) (xp_0 cA ax s) rfl (dd D_X8_notchOf 20 rfl) ?_
      refine getF F hK hP lf_X8_147 (1) (xp_1 cA ax s) rfl (dd D_X8_notchOf 21 rfl) ?_
      refine lv_iload_n F.1 F.2.1 (dd D_X8_notchOf 22 rfl) rfl (lv_at hl 1 rfl) ?_
      refine lv_iload_n F.1 F.2.1 (dd D_X8_notchOf 23 rfl) rfl (lv_at hl 2 rfl) ?_
      obtain ⟨r3, e4, h⟩ := Option.bind_eq_some_iff.mp h
      refine ro_go (st' := [.int r3]) (rV (rest := []) F (c_X1_partOf D cA (fun i => ax (2+i)) (st_hill (x_now s)) n p1 p2 r3 e4 l) lk_X8_199 (Nat.le_of_ble_eq_true rfl) (preRO hK hS hAb (pg_x_2 hP)) (rcv_1 hK hP (q0 := (2)) (xp_2 cA ax s)) rfl hl rfl (Nat.le_of_ble_eq_true rfl) (dd D_X8_notchOf 24 rfl) ⟨Nat.le_of_ble_eq_true rfl, Nat.le_of_ble_eq_true rfl⟩) rfl ?_
      obtain rfl := Option.some.inj h
      exact rw_i (R := rmOf 2 0 0) F hP hD hS hr hlk ⟨Nat.le_of_ble_eq_true rfl, Nat.le_of_ble_eq_true rfl⟩ ⟨rfl, rfl⟩ (dd D_X8_notchOf 25 rfl)
    · refine lv_aload_n F.1 F.2.1 (dd D_X8_notchOf 15 rfl) rfl (lv_at hl 0 rfl) ?_
      refine lv_bipush (v := (-2 : Int32)) F.1 F.2.1 (dd D_X8_notchOf 16 rfl) kb_m2 ?_
      obtain ⟨r5, e6, h⟩ := Option.bind_eq_some_iff.mp h
      refine rwe_all (st' := [.int r5.1]) hD hS hA (rV (rest := []) F (c_X8_refuse D cA ax s n (-2 : Int32) r5 e6 l H.size) lk_X8_64 (Nat.le_of_ble_eq_true rfl) (preRW hK hS hAb hP hD) (rcv_8 hK hP (q0 := (0)) (xp_0 cA ax s)) rfl hl rfl (Nat.le_of_ble_eq_true rfl) (dd D_X8_notchOf 17 rfl) ⟨Nat.le_of_ble_eq_true rfl, Nat.le_of_ble_eq_true rfl⟩) rfl (fun H locs hP hD hS => ?_)
      obtain rfl := Option.some.inj h
      exact rw_i (R := rmOf 2 0 0) F hP hD hS hr hlk ⟨Nat.le_of_ble_eq_true rfl, Nat.le_of_ble_eq_true rfl⟩ ⟨rfl, rfl⟩ (dd D_X8_notchOf 18 rfl)
def F_X8_isStone (s : XS) (p1 : Int32) : Bool := ((F_X8_isIn p1 (0 : Int32) ((F_X0_count 6 (st_stones (x_now s))) - (1 : Int32))))
set_option maxHeartbeats 4000000 in
set_option maxRecDepth 100000 in
theorem c_X8_isStone (D : va_G) (cA : Nat → ClassId) (ax : Nat → Nat) (s : XS) (p1 : Int32) : RO m_X8_isStone 1 D cA [.ref (ax 0), .int p1] (xW cA ax s) (some (.int (bI (F_X8_isStone s p1)))) := by
  obtain ⟨r, h⟩ : ∃ r, F_X8_isStone s p1 = r := ⟨_, rfl⟩
  rw [h]
  refine RO.ofW gy_X8_isStone.2.2 (Nat.le_of_ble_eq_true rfl) ?_
  intro l p e sM m below meth c F hr hlk hK hP hS hAb ls hl
  have hl : lv_has ls 2 [(0, .ref (ax 0)), (1, .int p1)] := hl
  unfold F_X8_isStone at h
  refine lv_iload_n F.1 F.2.1 (dd D_X8_isStone 0 rfl) rfl (lv_at hl 1 rfl) ?_
  refine lv_iconst (v := (0 : Int32)) F.1 F.2.1 (dd D_X8_isStone 1 rfl) ki_0 ?_
  refine lv_aload_n F.1 F.2.1 (dd D_X8_isStone 2 rfl) rfl (lv_at hl 0 rfl) ?_
  refine getF F hK hP lf_X8_10 (0) (xp_0 cA ax s) rfl (dd D_X8_isStone 3 rfl) ?_
  refine getF F hK hP lf_X8_163 (1) (xp_1 cA ax s) rfl (dd D_X8_isStone 4 rfl) ?_
  refine ro_go (st' := [.int (F_X0_count 6 (st_stones (x_now s))), .int (0 : Int32), .int p1]) (rV (rest := [.int (0 : Int32), .int p1]) F (c_X0_count D cA 6 (fun i => ax (10+i)) (st_stones (x_now s)) l) lk_X8_172 (Nat.le_of_ble_eq_true rfl) (preRO hK hS hAb (pg_x_10 hP)) (rcv_0 hK hP (q0 := (10)) (xp_10 cA ax s)) rfl hl rfl (Nat.le_of_ble_eq_true rfl) (dd D_X8_isStone 5 rfl) ⟨Nat.le_of_ble_eq_true rfl, Nat.le_of_ble_eq_true rfl⟩) rfl ?_
  refine lv_iconst (v := (1 : Int32)) F.1 F.2.1 (dd D_X8_isStone 6 rfl) ki_1 ?_
  refine lv_isub F.1 F.2.1 (dd D_X8_isStone 7 rfl) ?_
  refine ro_go (st' := [.int (bI (F_X8_isIn p1 (0 : Int32) ((F_X0_count 6 (st_stones (x_now s))) - (1 : Int32))))]) (rS (rest := []) F (c_X8_isIn D cA p1 (0 : Int32) ((F_X0_count 6 (st_stones (x_now s))) - (1 : Int32)) l) lk_X8_60 (Nat.le_of_ble_eq_true rfl) (preRO hK hS hAb (emP)) rfl hl rfl (Nat.le_of_ble_eq_true rfl) (dd D_X8_isStone 8 rfl) ⟨Nat.le_of_ble_eq_true rfl, Nat.le_of_ble_eq_true rfl⟩) rfl ?_
  exact ro_z (R := rmOf 1 0 0) F hr (bI_nar _) hlk (congrArg (fun z => some (Value.int (bI z))) h) (dd D_X8_isStone 9 rfl)
def F_X8_stoneOf (n : Nat) (s : XS) (p1 : Int32) : Option (Int32 × XS) := bf (F_X8_isStone s p1) ((((F_X0_at n 6 (st_stones (x_now s)) p1)).bind fun r1 => some (r1, s))) ((((F_X8_refuse n s (-2 : Int32))).bind fun r3 => some (r3.1, r3.2)))
set_option maxHeartbeats 4000000 in
set_option maxRecDepth 100000 in
theorem c_X8_stoneOf (D : va_G) (cA : Nat → ClassId) (ax : Nat → Nat) (s : XS) (n : Nat) (p1 : Int32) (r : (Int32 × XS)) (h : F_X8_stoneOf n s p1 = some r) : RW m_X8_stoneOf 2 0 0 D cA [.ref (ax 0), .int p1] (xW cA ax s) (exq (some (.int r.1)) (xW cA ax r.2)) := by
  refine RW.ofW gy_X8_stoneOf.2.2 (Nat.le_of_ble_eq_true rfl) ?_
  intro l p e sM m below meth c A H locs F hr hlk hnm hK hP hD hS hA hAb ls hl
  have hl : lv_has ls 2 [(0, .ref (ax 0)), (1, .int p1)] := hl
  unfold F_X8_stoneOf at h
  refine lv_aload_n F.1 F.2.1 (dd D_X8_stoneOf 0 rfl) rfl (lv_at hl 0 rfl) ?_
  refine lv_iload_n F.1 F.2.1 (dd D_X8_stoneOf 1 rfl) rfl (lv_at hl 1 rfl) ?_
  refine ro_go (st' := [.int (bI (F_X8_isStone s p1))]) (rV (rest := []) F (c_X8_isStone D cA ax s p1 l) lk_X8_202 (Nat.le_of_ble_eq_true rfl) (preRO hK hS hAb hP) (rcv_8 hK hP (q0 := (0)) (xp_0 cA ax s)) rfl hl rfl (Nat.le_of_ble_eq_true rfl) (dd D_X8_stoneOf 2 rfl) ⟨Nat.le_of_ble_eq_true rfl, Nat.le_of_ble_eq_true rfl⟩) rfl ?_
  refine x_bif_ne (tgt := 15) F.1 F.2.1 (dd D_X8_stoneOf 3 rfl) rfl h (fun c5 h => ?_) (fun c5 h => ?_)
  · refine lv_aload_n F.1 F.2.1 (dd D_X8_stoneOf 8 rfl) rfl (lv_at hl 0 rfl) ?_
    refine getF F hK hP lf_X8_10 (0) (xp_0 cA ax s) rfl (dd D_X8_stoneOf 9 rfl) ?_
    refine getF F hK hP lf_X8_163 (1) (xp_1 cA ax s) rfl (dd D_X8_stoneOf 10 rfl) ?_
    refine lv_iload_n F.1 F.2.1 (dd D_X8_stoneOf 11 rfl) rfl (lv_at hl 1 rfl) ?_
    obtain ⟨r1, e2, h⟩ := Option.bind_eq_some_iff.mp h
    refine ro_go (st' := [.int r1]) (rV (rest := []) F (c_X0_at D cA 6 (fun i => ax (10+i)) (st_stones (x_now s)) n p1 r1 e2 l) lk_X8_205 (Nat.le_of_ble_eq_true rfl) (preRO hK hS hAb (pg_x_10 hP)) (rcv_0 hK hP (q0 := (10)) (xp_10 cA ax s)) rfl hl rfl (Nat.le_of_ble_eq_true rfl) (dd D_X8_stoneOf 12 rfl) ⟨Nat.le_of_ble_eq_true rfl, Nat.le_of_ble_eq_true rfl⟩) rfl ?_
    obtain rfl := Option.some.inj h
    exact rw_i (R := rmOf 2 0 0) F hP hD hS hr hlk ⟨Nat.le_of_ble_eq_true rfl, Nat.le_of_ble_eq_true rfl⟩ ⟨rfl, rfl⟩ (dd D_X8_stoneOf 13 rfl)
  · refine lv_aload_n F.1 F.2.1 (dd D_X8_stoneOf 4 rfl) rfl (lv_at hl 0 rfl) ?_
    refine lv_bipush (v := (-2 : Int32)) F.1 F.2.1 (dd D_X8_stoneOf 5 rfl) kb_m2 ?_
    obtain ⟨r3, e4, h⟩ := Option.bind_eq_some_iff.mp h
    refine rwe_all (st' := [.int r3.1]) hD hS hA (rV (rest := []) F (c_X8_refuse D cA ax s n (-2 : Int32) r3 e4 l H.size) lk_X8_64 (Nat.le_of_ble_eq_true rfl) (preRW hK hS hAb hP hD) (rcv_8 hK hP (q0 := (0)) (xp_0 cA ax s)) rfl hl rfl (Nat.le_of_ble_eq_true rfl) (dd D_X8_stoneOf 6 rfl) ⟨Nat.le_of_ble_eq_true rfl, Nat.le_of_ble_eq_true rfl⟩) rfl (fun H locs hP hD hS => ?_)
    obtain rfl := Option.some.inj h
    exact rw_i (R := rmOf 2 0 0) F hP hD hS hr hlk ⟨Nat.le_of_ble_eq_true rfl, Nat.le_of_ble_eq_true rfl⟩ ⟨rfl, rfl⟩ (dd D_X8_stoneOf 7 rfl)
def F_X8_line (n : Nat) (s : XS) (p1 : Int32) : Option (Int32 × XS) := bf (F_X8_isIn p1 (0 : Int32) (999 : Int32)) ((((F_X1_lineAt n (st_hill (x_now s)) p1)).bind fun r1 => some (r1, s))) ((((F_X8_refuse n s (-2 : Int32))).bind fun r3 => some (r3.1, r3.2)))
set_option maxHeartbeats 4000000 in
set_option maxRecDepth 100000 in
theorem c_X8_line (D : va_G) (cA : Nat → ClassId) (ax : Nat → Nat) (s : XS) (n : Nat) (p1 : Int32) (r : (Int32 × XS)) (h : F_X8_line n s p1 = some r) : RW m_X8_line 1 0 0 D cA [.ref (ax 0), .int p1] (xW cA ax s) (exq (some (.int r.1)) (xW cA ax r.2)) := by
  refine RW.ofW gy_X8_line.2.2 (Nat.le_of_ble_eq_true rfl) ?_
  intro l p e sM m below meth c A H locs F hr hlk hnm hK hP hD hS hA hAb ls hl
  have hl : lv_has ls 2 [(0, .ref (ax 0)), (1, .int p1)] := hl
  unfold F_X8_line at h
  refine lv_iload_n F.1 F.2.1 (dd D_X8_line 0 rfl) rfl (lv_at hl 1 rfl) ?_
  refine lv_iconst (v := (0 : Int32)) F.1 F.2.1 (dd D_X8_line 1 rfl) ki_0 ?_
  refine lv_sipush (v := (999 : Int32)) F.1 F.2.1 (dd D_X8_line 2 rfl) ks_999 ?_
  refine ro_go (st' := [.int (bI (F_X8_isIn p1 (0 : Int32) (999 : Int32)))]) (rS (rest := []) F (c_X8_isIn D cA p1 (0 : Int32) (999 : Int32) l) lk_X8_60 (Nat.le_of_ble_eq_true rfl) (preRO hK hS hAb (emP)) rfl hl rfl (Nat.le_of_ble_eq_true rfl) (dd D_X8_line 3 rfl) ⟨Nat.le_of_ble_eq_true rfl, Nat.le_of_ble_eq_true rfl⟩) rfl ?_
  refine x_bif_ne (tgt := 18) F.1 F.2.1 (dd D_X8_line 4 rfl) rfl h (fun c5 h => ?_) (fun c5 h => ?_)
  · refine lv_aload_n F.1 F.2.1 (dd D_X8_line 9 rfl) rfl (lv_at hl 0 rfl) ?_
    refine getF F hK hP lf_X8_10 (0) (xp_0 cA ax s) rfl (dd D_X8_line 10 rfl) ?_
    refine getF F hK hP lf_X8_147 (1) (xp_1 cA ax s) rfl (dd D_X8_line 11 rfl) ?_
    refine lv_iload_n F.1 F.2.1 (dd D_X8_line 12 rfl) rfl (lv_at hl 1 rfl) ?_
    obtain ⟨r1, e2, h⟩ := Option.bind_eq_some_iff.mp h
    refine ro_go (st' := [.int r1]) (rV (rest := []) F (c_X1_lineAt D cA (fun i => ax (2+i)) (st_hill (x_now s)) n p1 r1 e2 l) lk_X8_207 (Nat.le_of_ble_eq_true rfl) (preRO hK hS hAb (pg_x_2 hP)) (rcv_1 hK hP (q0 := (2)) (xp_2 cA ax s)) rfl hl rfl (Nat.le_of_ble_eq_true rfl) (dd D_X8_line 13 rfl) ⟨Nat.le_of_ble_eq_true rfl, Nat.le_of_ble_eq_true rfl⟩) rfl ?_
    obtain rfl := Option.some.inj h
    exact rw_i (R := rmOf 1 0 0) F hP hD hS hr hlk ⟨Nat.le_of_ble_eq_true rfl, Nat.le_of_ble_eq_true rfl⟩ ⟨rfl, rfl⟩ (dd D_X8_line 14 rfl)
  · refine lv_aload_n F.1 F.2.1 (dd D_X8_line 5 rfl) rfl (lv_at hl 0 rfl) ?_
    refine lv_bipush (v := (-2 : Int32)) F.1 F.2.1 (dd D_X8_line 6 rfl) kb_m2 ?_
    obtain ⟨r3, e4, h⟩ := Option.bind_eq_some_iff.mp h
    refine rwe_all (st' := [.int r3.1]) hD hS hA (rV (rest := []) F (c_X8_refuse D cA ax s n (-2 : Int32) r3 e4 l H.size) lk_X8_64 (Nat.le_of_ble_eq_true rfl) (preRW hK hS hAb hP hD) (rcv_8 hK hP (q0 := (0)) (xp_0 cA ax s)) rfl hl rfl (Nat.le_of_ble_eq_true rfl) (dd D_X8_line 7 rfl) ⟨Nat.le_of_ble_eq_true rfl, Nat.le_of_ble_eq_true rfl⟩) rfl (fun H locs hP hD hS => ?_)
    obtain rfl := Option.some.inj h
    exact rw_i (R := rmOf 1 0 0) F hP hD hS hr hlk ⟨Nat.le_of_ble_eq_true rfl, Nat.le_of_ble_eq_true rfl⟩ ⟨rfl, rfl⟩ (dd D_X8_line 8 rfl)
def F_X8_moon (n : Nat) (s : XS) (p1 : Int32) (p2 : Int32) : Option (Int32 × XS) := bf (F_X8_isDay p1) ((if p2 = (0 : Int32) then some ((F_X2_ageOf s p1), s) else (if p2 = (1 : Int32) then some ((F_X2_litOf s p1), s) else (if p2 = (2 : Int32) then some ((F_X2_outOf s p1), s) else (if p2 = (3 : Int32) then some ((F_X2_riseOf s p1), s) else (if p2 = (4 : Int32) then some ((F_X2_wayOf s p1), s) else (if p2 = (5 : Int32) then (((F_X2_overOf n s p1)).bind fun r2 => some (r2, s)) else (if p2 = (6 : Int32) then (((F_X2_upOf n s p1)).bind fun r4 => some (r4, s)) else (if p2 = (7 : Int32) then (if p1 = (9999 : Int32) then (((F_X8_refuse n s (-2 : Int32))).bind fun r9 => some (r9.1, r9.2)) else (((F_X2_laterOf n s p1)).bind fun r7 => some (r7, s))) else (if p2 = (8 : Int32) then (((F_X2_degreeOf n s p1)).bind fun r11 => some (r11, s)) else (((F_X8_refuse n s (-2 : Int32))).bind fun r13 => some (r13.1, r13.2)))))))))))) ((((F_X8_refuse n s (-2 : Int32))).bind fun r15 => some (r15.1, r15.2)))
set_option maxHeartbeats 4000000 in
set_option maxRecDepth 100000 in
theorem c_X8_moon (D : va_G) (cA : Nat → ClassId) (ax : Nat → Nat) (s : XS) (n : Nat) (p1 : Int32) (p2 : Int32) (r : (Int32 × XS)) (h : F_X8_moon n s p1 p2 = some r) : RW m_X8_moon 4 0 0 D cA [.ref (ax 0), .int p1, .int p2] (xW cA ax s) (exq (some (.int r.1)) (xW cA ax r.2)) := by
  refine RW.ofW gy_X8_moon.2.2 (Nat.le_of_ble_eq_true rfl) ?_
  intro l p e sM m below meth c A H locs F hr hlk hnm hK hP hD hS hA hAb ls hl
  have hl : lv_has ls 3 [(0, .ref (ax 0)), (1, .int p1), (2, .int p2)] := hl
  unfold F_X8_moon at h
  refine lv_iload_n F.1 F.2.1 (dd D_X8_moon 0 rfl) rfl (lv_at hl 1 rfl) ?_
  refine ro_go (st' := [.int (bI (F_X8_isDay p1))]) (rS (rest := []) F (c_X8_isDay D cA p1 l) lk_X8_113 (Nat.le_of_ble_eq_true rfl) (preRO hK hS hAb (emP)) rfl hl rfl (Nat.le_of_ble_eq_true rfl) (dd D_X8_moon 1 rfl) ⟨Nat.le_of_ble_eq_true rfl, Nat.le_of_ble_eq_true rfl⟩) rfl ?_
  refine x_bif_ne (tgt := 14) F.1 F.2.1 (dd D_X8_moon 2 rfl) rfl h (fun c17 h => ?_) (fun c17 h => ?_)
  · refine lv_iload_n F.1 F.2.1 (dd D_X8_moon 7 rfl) rfl (lv_at hl 2 rfl) ?_
    refine x_ts (tgt := 64) F.1 F.2.1 (0 : Int32) (dd D_X8_moon 8 rfl) h (by decide) (by decide) rfl rfl (fun c1_0 h => ?_) (fun c1_0 h => ?_)
    · refine lv_aload_n F.1 F.2.1 (dd D_X8_moon 9 rfl) rfl (lv_at hl 0 rfl) ?_
      refine getF F hK hP lf_X8_27 (0) (xp_0 cA ax s) rfl (dd D_X8_moon 10 rfl) ?_
      refine lv_iload_n F.1 F.2.1 (dd D_X8_moon 11 rfl) rfl (lv_at hl 1 rfl) ?_
      refine ro_go (st' := [.int (F_X2_ageOf s p1)]) (rV (rest := []) F (c_X2_ageOf D cA ax s p1 l) lk_X8_210 (Nat.le_of_ble_eq_true rfl) (preRO hK hS hAb hP) (rcv_2 hK hP (q0 := (40)) (xp_40 cA ax s)) rfl hl rfl (Nat.le_of_ble_eq_true rfl) (dd D_X8_moon 12 rfl) ⟨Nat.le_of_ble_eq_true rfl, Nat.le_of_ble_eq_true rfl⟩) rfl ?_
      obtain rfl := Option.some.inj h
      exact rw_i (R := rmOf 4 0 0) F hP hD hS hr hlk ⟨Nat.le_of_ble_eq_true rfl, Nat.le_of_ble_eq_true rfl⟩ ⟨rfl, rfl⟩ (dd D_X8_moon 13 rfl)
    refine x_ts (tgt := 73) F.1 F.2.1 (1 : Int32) (dd D_X8_moon 8 rfl) h (by decide) (by decide) rfl rfl (fun c1_1 h => ?_) (fun c1_1 h => ?_)
    · refine lv_aload_n F.1 F.2.1 (dd D_X8_moon 14 rfl) rfl (lv_at hl 0 rfl) ?_
      refine getF F hK hP lf_X8_27 (0) (xp_0 cA ax s) rfl (dd D_X8_moon 15 rfl) ?_
      refine lv_iload_n F.1 F.2.1 (dd D_X8_moon 16 rfl) rfl (lv_at hl 1 rfl) ?_
      refine ro_go (st' := [.int (F_X2_litOf s p1)]) (rV (rest := []) F (c_X2_litOf D cA ax s p1 l) lk_X8_213 (Nat.le_of_ble_eq_true rfl) (preRO hK hS hAb hP) (rcv_2 hK hP (q0 := (40)) (xp_40 cA ax s)) rfl hl rfl (Nat.le_of_ble_eq_true rfl) (dd D_X8_moon 17 rfl) ⟨Nat.le_of_ble_eq_true rfl, Nat.le_of_ble_eq_true rfl⟩) rfl ?_
      obtain rfl := Option.some.inj h
      exact rw_i (R := rmOf 4 0 0) F hP hD hS hr hlk ⟨Nat.le_of_ble_eq_true rfl, Nat.le_of_ble_eq_true rfl⟩ ⟨rfl, rfl⟩ (dd D_X8_moon 18 rfl)
    refine x_ts (tgt := 82) F.1 F.2.1 (2 : Int32) (dd D_X8_moon 8 rfl) h (by decide) (by decide) rfl rfl (fun c1_2 h => ?_) (fun c1_2 h => ?_)
    · refine lv_aload_n F.1 F.2.1 (dd D_X8_moon 19 rfl) rfl (lv_at hl 0 rfl) ?_
      refine getF F hK hP lf_X8_27 (0) (xp_0 cA ax s) rfl (dd D_X8_moon 20 rfl) ?_
      refine lv_iload_n F.1 F.2.1 (dd D_X8_moon 21 rfl) rfl (lv_at hl 1 rfl) ?_
      refine ro_go (st' := [.int (F_X2_outOf s p1)]) (rV (rest := []) F (c_X2_outOf D cA ax s p1 l) lk_X8_216 (Nat.le_of_ble_eq_true rfl) (preRO hK hS hAb hP) (rcv_2 hK hP (q0 := (40)) (xp_40 cA ax s)) rfl hl rfl (Nat.le_of_ble_eq_true rfl) (dd D_X8_moon 22 rfl) ⟨Nat.le_of_ble_eq_true rfl, Nat.le_of_ble_eq_true rfl⟩) rfl ?_
      obtain rfl := Option.some.inj h
      exact rw_i (R := rmOf 4 0 0) F hP hD hS hr hlk ⟨Nat.le_of_ble_eq_true rfl, Nat.le_of_ble_eq_true rfl⟩ ⟨rfl, rfl⟩ (dd D_X8_moon 23 rfl)
    refine x_ts (tgt := 91) F.1 F.2.1 (3 : Int32) (dd D_X8_moon 8 rfl) h (by decide) (by decide) rfl rfl (fun c1_3 h => ?_) (fun c1_3 h => ?_)
    · refine lv_aload_n F.1 F.2.1 (dd D_X8_moon 24 rfl) rfl (lv_at hl 0 rfl) ?_
      refine getF F hK hP lf_X8_27 (0) (xp_0 cA ax s) rfl (dd D_X8_moon 25 rfl) ?_
      refine lv_iload_n F.1 F.2.1 (dd D_X8_moon 26 rfl) rfl (lv_at hl 1 rfl) ?_
      refine ro_go (st' := [.int (F_X2_riseOf s p1)]) (rV (rest := []) F (c_X2_riseOf D cA ax s p1 l) lk_X8_219 (Nat.le_of_ble_eq_true rfl) (preRO hK hS hAb hP) (rcv_2 hK hP (q0 := (40)) (xp_40 cA ax s)) rfl hl rfl (Nat.le_of_ble_eq_true rfl) (dd D_X8_moon 27 rfl) ⟨Nat.le_of_ble_eq_true rfl, Nat.le_of_ble_eq_true rfl⟩) rfl ?_
      obtain rfl := Option.some.inj h
      exact rw_i (R := rmOf 4 0 0) F hP hD hS hr hlk ⟨Nat.le_of_ble_eq_true rfl, Nat.le_of_ble_eq_true rfl⟩ ⟨rfl, rfl⟩ (dd D_X8_moon 28 rfl)
    refine x_ts (tgt := 100) F.1 F.2.1 (4 : Int32) (dd D_X8_moon 8 rfl) h (by decide) (by decide) rfl rfl (fun c1_4 h => ?_) (fun c1_4 h => ?_)
    · refine lv_aload_n F.1 F.2.1 (dd D_X8_moon 29 rfl) rfl (lv_at hl 0 rfl) ?_
      refine getF F hK hP lf_X8_27 (0) (xp_0 cA ax s) rfl (dd D_X8_moon 30 rfl) ?_
      refine lv_iload_n F.1 F.2.1 (dd D_X8_moon 31 rfl) rfl (lv_at hl 1 rfl) ?_
      refine ro_go (st' := [.int (F_X2_wayOf s p1)]) (rV (rest := []) F (c_X2_wayOf D cA ax s p1 l) lk_X8_222 (Nat.le_of_ble_eq_true rfl) (preRO hK hS hAb hP) (rcv_2 hK hP (q0 := (40)) (xp_40 cA ax s)) rfl hl rfl (Nat.le_of_ble_eq_true rfl) (dd D_X8_moon 32 rfl) ⟨Nat.le_of_ble_eq_true rfl, Nat.le_of_ble_eq_true rfl⟩) rfl ?_
      obtain rfl := Option.some.inj h
      exact rw_i (R := rmOf 4 0 0) F hP hD hS hr hlk ⟨Nat.le_of_ble_eq_true rfl, Nat.le_of_ble_eq_true rfl⟩ ⟨rfl, rfl⟩ (dd D_X8_moon 33 rfl)
    refine x_ts (tgt := 109) F.1 F.2.1 (5 : Int32) (dd D_X8_moon 8 rfl) h (by decide) (by decide) rfl rfl (fun c1_5 h => ?_) (fun c1_5 h => ?_)
    · refine lv_aload_n F.1 F.2.1 (dd D_X8_moon 34 rfl) rfl (lv_at hl 0 rfl) ?_
      refine getF F hK hP lf_X8_27 (0) (xp_0 cA ax s) rfl (dd D_X8_moon 35 rfl) ?_
      refine lv_iload_n F.1 F.2.1 (dd D_X8_moon 36 rfl) rfl (lv_at hl 1 rfl) ?_
      obtain ⟨r2, e3, h⟩ := Option.bind_eq_some_iff.mp h
      refine ro_go (st' := [.int r2]) (rV (rest := []) F (c_X2_overOf D cA ax s n p1 r2 e3 l) lk_X8_225 (Nat.le_of_ble_eq_true rfl) (preRO hK hS hAb hP) (rcv_2 hK hP (q0 := (40)) (xp_40 cA ax s)) rfl hl rfl (Nat.le_of_ble_eq_true rfl) (dd D_X8_moon 37 rfl) ⟨Nat.le_of_ble_eq_true rfl, Nat.le_of_ble_eq_true rfl⟩) rfl ?_
      obtain rfl := Option.some.inj h
      exact rw_i (R := rmOf 4 0 0) F hP hD hS hr hlk ⟨Nat.le_of_ble_eq_true rfl, Nat.le_of_ble_eq_true rfl⟩ ⟨rfl, rfl⟩ (dd D_X8_moon 38 rfl)
    refine x_ts (tgt := 118) F.1 F.2.1 (6 : Int32) (dd D_X8_moon 8 rfl) h (by decide) (by decide) rfl rfl (fun c1_6 h => ?_) (fun c1_6 h => ?_)
    · refine lv_aload_n F.1 F.2.1 (dd D_X8_moon 39 rfl) rfl (lv_at hl 0 rfl) ?_
      refine getF F hK hP lf_X8_27 (0) (xp_0 cA ax s) rfl (dd D_X8_moon 40 rfl) ?_
      refine lv_iload_n F.1 F.2.1 (dd D_X8_moon 41 rfl) rfl (lv_at hl 1 rfl) ?_
      obtain ⟨r4, e5, h⟩ := Option.bind_eq_some_iff.mp h
      refine ro_go (st' := [.int r4]) (rV (rest := []) F (c_X2_upOf D cA ax s n p1 r4 e5 l) lk_X8_228 (Nat.le_of_ble_eq_true rfl) (preRO hK hS hAb hP) (rcv_2 hK hP (q0 := (40)) (xp_40 cA ax s)) rfl hl rfl (Nat.le_of_ble_eq_true rfl) (dd D_X8_moon 42 rfl) ⟨Nat.le_of_ble_eq_true rfl, Nat.le_of_ble_eq_true rfl⟩) rfl ?_
      obtain rfl := Option.some.inj h
      exact rw_i (R := rmOf 4 0 0) F hP hD hS hr hlk ⟨Nat.le_of_ble_eq_true rfl, Nat.le_of_ble_eq_true rfl⟩ ⟨rfl, rfl⟩ (dd D_X8_moon 43 rfl)
    refine x_ts (tgt := 127) F.1 F.2.1 (7 : Int32) (dd D_X8_moon 8 rfl) h (by decide) (by decide) rfl rfl (fun c1_7 h => ?_) (fun c1_7 h => ?_)
    · refine lv_iload_n F.1 F.2.1 (dd D_X8_moon 44 rfl) rfl (lv_at hl 1 rfl) ?_
      refine lv_sipush (v := (9999 : Int32)) F.1 F.2.1 (dd D_X8_moon 45 rfl) ks_9999 ?_
      refine x_icmp_ne (tgt := 143) F.1 F.2.1 (dd D_X8_moon 46 rfl) rfl h (fun c6 h => ?_) (fun c6 h => ?_)
      · refine lv_aload_n F.1 F.2.1 (dd D_X8_moon 51 rfl) rfl (lv_at hl 0 rfl) ?_
        refine getF F hK hP lf_X8_27 (0) (xp_0 cA ax s) rfl (dd D_X8_moon 52 rfl) ?_
        refine lv_iload_n F.1 F.2.1 (dd D_X8_moon 53 rfl) rfl (lv_at hl 1 rfl) ?_
        obtain ⟨r7, e8, h⟩ := Option.bind_eq_some_iff.mp h
        refine ro_go (st' := [.int r7]) (rV (rest := []) F (c_X2_laterOf D cA ax s n p1 r7 e8 l) lk_X8_231 (Nat.le_of_ble_eq_true rfl) (preRO hK hS hAb hP) (rcv_2 hK hP (q0 := (40)) (xp_40 cA ax s)) rfl hl rfl (Nat.le_of_ble_eq_true rfl) (dd D_X8_moon 54 rfl) ⟨Nat.le_of_ble_eq_true rfl, Nat.le_of_ble_eq_true rfl⟩) rfl ?_
        obtain rfl := Option.some.inj h
        exact rw_i (R := rmOf 4 0 0) F hP hD hS hr hlk ⟨Nat.le_of_ble_eq_true rfl, Nat.le_of_ble_eq_true rfl⟩ ⟨rfl, rfl⟩ (dd D_X8_moon 55 rfl)
      · refine lv_aload_n F.1 F.2.1 (dd D_X8_moon 47 rfl) rfl (lv_at hl 0 rfl) ?_
        refine lv_bipush (v := (-2 : Int32)) F.1 F.2.1 (dd D_X8_moon 48 rfl) kb_m2 ?_
        obtain ⟨r9, e10, h⟩ := Option.bind_eq_some_iff.mp h
        refine rwe_all (st' := [.int r9.1]) hD hS hA (rV (rest := []) F (c_X8_refuse D cA ax s n (-2 : Int32) r9 e10 l H.size) lk_X8_64 (Nat.le_of_ble_eq_true rfl) (preRW hK hS hAb hP hD) (rcv_8 hK hP (q0 := (0)) (xp_0 cA ax s)) rfl hl rfl (Nat.le_of_ble_eq_true rfl) (dd D_X8_moon 49 rfl) ⟨Nat.le_of_ble_eq_true rfl, Nat.le_of_ble_eq_true rfl⟩) rfl (fun H locs hP hD hS => ?_)
        refine lv_goto (tgt := 151) F.1 F.2.1 (dd D_X8_moon 50 rfl) rfl ?_
        obtain rfl := Option.some.inj h
        exact rw_i (R := rmOf 4 0 0) F hP hD hS hr hlk ⟨Nat.le_of_ble_eq_true rfl, Nat.le_of_ble_eq_true rfl⟩ ⟨rfl, rfl⟩ (dd D_X8_moon 55 rfl)
    refine x_ts (tgt := 152) F.1 F.2.1 (8 : Int32) (dd D_X8_moon 8 rfl) h (by decide) (by decide) rfl rfl (fun c1_8 h => ?_) (fun c1_8 h => ?_)
    · refine lv_aload_n F.1 F.2.1 (dd D_X8_moon 56 rfl) rfl (lv_at hl 0 rfl) ?_
      refine getF F hK hP lf_X8_27 (0) (xp_0 cA ax s) rfl (dd D_X8_moon 57 rfl) ?_
      refine lv_iload_n F.1 F.2.1 (dd D_X8_moon 58 rfl) rfl (lv_at hl 1 rfl) ?_
      obtain ⟨r11, e12, h⟩ := Option.bind_eq_some_iff.mp h
      refine ro_go (st' := [.int r11]) (rV (rest := []) F (c_X2_degreeOf D cA ax s n p1 r11 e12 l) lk_X8_234 (Nat.le_of_ble_eq_true rfl) (preRO hK hS hAb hP) (rcv_2 hK hP (q0 := (40)) (xp_40 cA ax s)) rfl hl rfl (Nat.le_of_ble_eq_true rfl) (dd D_X8_moon 59 rfl) ⟨Nat.le_of_ble_eq_true rfl, Nat.le_of_ble_eq_true rfl⟩) rfl ?_
      obtain rfl := Option.some.inj h
      exact rw_i (R := rmOf 4 0 0) F hP hD hS hr hlk ⟨Nat.le_of_ble_eq_true rfl, Nat.le_of_ble_eq_true rfl⟩ ⟨rfl, rfl⟩ (dd D_X8_moon 60 rfl)
    refine lv_tableOut (tgt := 161) F.1 F.2.1 (dd D_X8_moon 8 rfl) (ts_out (lo := 0) (vs := [(0 : Int32), (1 : Int32), (2 : Int32), (3 : Int32), (4 : Int32), (5 : Int32), (6 : Int32), (7 : Int32), (8 : Int32)]) tsv_0_9 (by intro v hv; simp only [List.mem_cons, List.not_mem_nil, or_false] at hv; rcases hv with rfl | rfl | rfl | rfl | rfl | rfl | rfl | rfl | rfl <;> assumption)) rfl ?_
    refine lv_aload_n F.1 F.2.1 (dd D_X8_moon 61 rfl) rfl (lv_at hl 0 rfl) ?_
    refine lv_bipush (v := (-2 : Int32)) F.1 F.2.1 (dd D_X8_moon 62 rfl) kb_m2 ?_
    obtain ⟨r13, e14, h⟩ := Option.bind_eq_some_iff.mp h
    refine rwe_all (st' := [.int r13.1]) hD hS hA (rV (rest := []) F (c_X8_refuse D cA ax s n (-2 : Int32) r13 e14 l H.size) lk_X8_64 (Nat.le_of_ble_eq_true rfl) (preRW hK hS hAb hP hD) (rcv_8 hK hP (q0 := (0)) (xp_0 cA ax s)) rfl hl rfl (Nat.le_of_ble_eq_true rfl) (dd D_X8_moon 63 rfl) ⟨Nat.le_of_ble_eq_true rfl, Nat.le_of_ble_eq_true rfl⟩) rfl (fun H locs hP hD hS => ?_)
    obtain rfl := Option.some.inj h
    exact rw_i (R := rmOf 4 0 0) F hP hD hS hr hlk ⟨Nat.le_of_ble_eq_true rfl, Nat.le_of_ble_eq_true rfl⟩ ⟨rfl, rfl⟩ (dd D_X8_moon 64 rfl)
  · refine lv_aload_n F.1 F.2.1 (dd D_X8_moon 3 rfl) rfl (lv_at hl 0 rfl) ?_
    refine lv_bipush (v := (-2 : Int32)) F.1 F.2.1 (dd D_X8_moon 4 rfl) kb_m2 ?_
    obtain ⟨r15, e16, h⟩ := Option.bind_eq_some_iff.mp h
    refine rwe_all (st' := [.int r15.1]) hD hS hA (rV (rest := []) F (c_X8_refuse D cA ax s n (-2 : Int32) r15 e16 l H.size) lk_X8_64 (Nat.le_of_ble_eq_true rfl) (preRW hK hS hAb hP hD) (rcv_8 hK hP (q0 := (0)) (xp_0 cA ax s)) rfl hl rfl (Nat.le_of_ble_eq_true rfl) (dd D_X8_moon 5 rfl) ⟨Nat.le_of_ble_eq_true rfl, Nat.le_of_ble_eq_true rfl⟩) rfl (fun H locs hP hD hS => ?_)
    obtain rfl := Option.some.inj h
    exact rw_i (R := rmOf 4 0 0) F hP hD hS hr hlk ⟨Nat.le_of_ble_eq_true rfl, Nat.le_of_ble_eq_true rfl⟩ ⟨rfl, rfl⟩ (dd D_X8_moon 6 rfl)
def F_X8_refuseFarBelow (n : Nat) (s : XS) (p1 : Int32) : Option (Int32 × XS) := (((F_X8_refuse n s p1)).bind fun r1 => some (((-1000000 : Int32) + r1.1), r1.2))
set_option maxHeartbeats 4000000 in
set_option maxRecDepth 100000 in
theorem c_X8_refuseFarBelow (D : va_G) (cA : Nat → ClassId) (ax : Nat → Nat) (s : XS) (n : Nat) (p1 : Int32) (r : (Int32 × XS)) (h : F_X8_refuseFarBelow n s p1 = some r) : RW m_X8_refuseFarBelow 1 0 0 D cA [.ref (ax 0), .int p1] (xW cA ax s) (exq (some (.int r.1)) (xW cA ax r.2)) := by
  refine RW.ofW gy_X8_refuseFarBelow.2.2 (Nat.le_of_ble_eq_true rfl) ?_
  intro l p e sM m below meth c A H locs F hr hlk hnm hK hP hD hS hA hAb ls hl
  have hl : lv_has ls 2 [(0, .ref (ax 0)), (1, .int p1)] := hl
  unfold F_X8_refuseFarBelow at h
  refine lv_ldcw (own := RX8) (v := (-1000000 : Int32)) F.1 F.2.1 F.2.2.2.1 (F.2.2.2.2 _ (w_809)) (dd D_X8_refuseFarBelow 0 rfl) ?_
  refine lv_aload_n F.1 F.2.1 (dd D_X8_refuseFarBelow 1 rfl) rfl (lv_at hl 0 rfl) ?_
  refine lv_iload_n F.1 F.2.1 (dd D_X8_refuseFarBelow 2 rfl) rfl (lv_at hl 1 rfl) ?_
  obtain ⟨r1, e2, h⟩ := Option.bind_eq_some_iff.mp h
  refine rwe_all (st' := [.int r1.1, .int (-1000000 : Int32)]) hD hS hA (rV (rest := [.int (-1000000 : Int32)]) F (c_X8_refuse D cA ax s n p1 r1 e2 l H.size) lk_X8_64 (Nat.le_of_ble_eq_true rfl) (preRW hK hS hAb hP hD) (rcv_8 hK hP (q0 := (0)) (xp_0 cA ax s)) rfl hl rfl (Nat.le_of_ble_eq_true rfl) (dd D_X8_refuseFarBelow 3 rfl) ⟨Nat.le_of_ble_eq_true rfl, Nat.le_of_ble_eq_true rfl⟩) rfl (fun H locs hP hD hS => ?_)
  refine lv_iadd F.1 F.2.1 (dd D_X8_refuseFarBelow 4 rfl) ?_
  obtain rfl := Option.some.inj h
  exact rw_i (R := rmOf 1 0 0) F hP hD hS hr hlk ⟨Nat.le_of_ble_eq_true rfl, Nat.le_of_ble_eq_true rfl⟩ ⟨rfl, rfl⟩ (dd D_X8_refuseFarBelow 5 rfl)
def F_X8_slant (n : Nat) (s : XS) (p1 : Int32) : Option (Int32 × XS) := bf (F_X8_isDay p1) (some ((F_X2_slantOf s p1), s)) ((((F_X8_refuseFarBelow n s (-2 : Int32))).bind fun r1 => some (r1.1, r1.2)))
set_option maxHeartbeats 4000000 in
set_option maxRecDepth 100000 in
theorem c_X8_slant (D : va_G) (cA : Nat → ClassId) (ax : Nat → Nat) (s : XS) (n : Nat) (p1 : Int32) (r : (Int32 × XS)) (h : F_X8_slant n s p1 = some r) : RW m_X8_slant 2 0 0 D cA [.ref (ax 0), .int p1] (xW cA ax s) (exq (some (.int r.1)) (xW cA ax r.2)) := by
  refine RW.ofW gy_X8_slant.2.2 (Nat.le_of_ble_eq_true rfl) ?_
  intro l p e sM m below meth c A H locs F hr hlk hnm hK hP hD hS hA hAb ls hl
  have hl : lv_has ls 2 [(0, .ref (ax 0)), (1, .int p1)] := hl
  unfold F_X8_slant at h
  refine lv_iload_n F.1 F.2.1 (dd D_X8_slant 0 rfl) rfl (lv_at hl 1 rfl) ?_
  refine ro_go (st' := [.int (bI (F_X8_isDay p1))]) (rS (rest := []) F (c_X8_isDay D cA p1 l) lk_X8_113 (Nat.le_of_ble_eq_true rfl) (preRO hK hS hAb (emP)) rfl hl rfl (Nat.le_of_ble_eq_true rfl) (dd D_X8_slant 1 rfl) ⟨Nat.le_of_ble_eq_true rfl, Nat.le_of_ble_eq_true rfl⟩) rfl ?_
  refine x_bif_eq (tgt := 18) F.1 F.2.1 (dd D_X8_slant 2 rfl) rfl h (fun c3 h => ?_) (fun c3 h => ?_)
  · refine lv_aload_n F.1 F.2.1 (dd D_X8_slant 8 rfl) rfl (lv_at hl 0 rfl) ?_
    refine lv_bipush (v := (-2 : Int32)) F.1 F.2.1 (dd D_X8_slant 9 rfl) kb_m2 ?_
    obtain ⟨r1, e2, h⟩ := Option.bind_eq_some_iff.mp h
    refine rwe_all (st' := [.int r1.1]) hD hS hA (rV (rest := []) F (c_X8_refuseFarBelow D cA ax s n (-2 : Int32) r1 e2 l H.size) lk_X8_240 (Nat.le_of_ble_eq_true rfl) (preRW hK hS hAb hP hD) (rcv_8 hK hP (q0 := (0)) (xp_0 cA ax s)) rfl hl rfl (Nat.le_of_ble_eq_true rfl) (dd D_X8_slant 10 rfl) ⟨Nat.le_of_ble_eq_true rfl, Nat.le_of_ble_eq_true rfl⟩) rfl (fun H locs hP hD hS => ?_)
    obtain rfl := Option.some.inj h
    exact rw_i (R := rmOf 2 0 0) F hP hD hS hr hlk ⟨Nat.le_of_ble_eq_true rfl, Nat.le_of_ble_eq_true rfl⟩ ⟨rfl, rfl⟩ (dd D_X8_slant 11 rfl)
  · refine lv_aload_n F.1 F.2.1 (dd D_X8_slant 3 rfl) rfl (lv_at hl 0 rfl) ?_
    refine getF F hK hP lf_X8_27 (0) (xp_0 cA ax s) rfl (dd D_X8_slant 4 rfl) ?_
    refine lv_iload_n F.1 F.2.1 (dd D_X8_slant 5 rfl) rfl (lv_at hl 1 rfl) ?_
    refine ro_go (st' := [.int (F_X2_slantOf s p1)]) (rV (rest := []) F (c_X2_slantOf D cA ax s p1 l) lk_X8_237 (Nat.le_of_ble_eq_true rfl) (preRO hK hS hAb hP) (rcv_2 hK hP (q0 := (40)) (xp_40 cA ax s)) rfl hl rfl (Nat.le_of_ble_eq_true rfl) (dd D_X8_slant 6 rfl) ⟨Nat.le_of_ble_eq_true rfl, Nat.le_of_ble_eq_true rfl⟩) rfl ?_
    refine lv_goto (tgt := 24) F.1 F.2.1 (dd D_X8_slant 7 rfl) rfl ?_
    obtain rfl := Option.some.inj h
    exact rw_i (R := rmOf 2 0 0) F hP hD hS hr hlk ⟨Nat.le_of_ble_eq_true rfl, Nat.le_of_ble_eq_true rfl⟩ ⟨rfl, rfl⟩ (dd D_X8_slant 11 rfl)
def F_X8_behind (n : Nat) (s : XS) (p1 : Int32) : Option (Int32 × XS) := bf (F_X8_isDay p1) ((((F_X2_behindOf n s p1)).bind fun r3 => some (r3, s))) ((((F_X8_refuse n s (-2 : Int32))).bind fun r1 => some (r1.1, r1.2)))
set_option maxHeartbeats 4000000 in
set_option maxRecDepth 100000 in
theorem c_X8_behind (D : va_G) (cA : Nat → ClassId) (ax : Nat → Nat) (s : XS) (n : Nat) (p1 : Int32) (r : (Int32 × XS)) (h : F_X8_behind n s p1 = some r) : RW m_X8_behind 4 0 0 D cA [.ref (ax 0), .int p1] (xW cA ax s) (exq (some (.int r.1)) (xW cA ax r.2)) := by
  refine RW.ofW gy_X8_behind.2.2 (Nat.le_of_ble_eq_true rfl) ?_
  intro l p e sM m below meth c A H locs F hr hlk hnm hK hP hD hS hA hAb ls hl
  have hl : lv_has ls 2 [(0, .ref (ax 0)), (1, .int p1)] := hl
  unfold F_X8_behind at h
  refine lv_iload_n F.1 F.2.1 (dd D_X8_behind 0 rfl) rfl (lv_at hl 1 rfl) ?_
  refine ro_go (st' := [.int (bI (F_X8_isDay p1))]) (rS (rest := []) F (c_X8_isDay D cA p1 l) lk_X8_113 (Nat.le_of_ble_eq_true rfl) (preRO hK hS hAb (emP)) rfl hl rfl (Nat.le_of_ble_eq_true rfl) (dd D_X8_behind 1 rfl) ⟨Nat.le_of_ble_eq_true rfl, Nat.le_of_ble_eq_true rfl⟩) rfl ?_
  refine x_bif_eq (tgt := 18) F.1 F.2.1 (dd D_X8_behind 2 rfl) rfl h (fun c5 h => ?_) (fun c5 h => ?_)
  · refine lv_aload_n F.1 F.2.1 (dd D_X8_behind 8 rfl) rfl (lv_at hl 0 rfl) ?_
    refine lv_bipush (v := (-2 : Int32)) F.1 F.2.1 (dd D_X8_behind 9 rfl) kb_m2 ?_
    obtain ⟨r1, e2, h⟩ := Option.bind_eq_some_iff.mp h
    refine rwe_all (st' := [.int r1.1]) hD hS hA (rV (rest := []) F (c_X8_refuse D cA ax s n (-2 : Int32) r1 e2 l H.size) lk_X8_64 (Nat.le_of_ble_eq_true rfl) (preRW hK hS hAb hP hD) (rcv_8 hK hP (q0 := (0)) (xp_0 cA ax s)) rfl hl rfl (Nat.le_of_ble_eq_true rfl) (dd D_X8_behind 10 rfl) ⟨Nat.le_of_ble_eq_true rfl, Nat.le_of_ble_eq_true rfl⟩) rfl (fun H locs hP hD hS => ?_)
    obtain rfl := Option.some.inj h
    exact rw_i (R := rmOf 4 0 0) F hP hD hS hr hlk ⟨Nat.le_of_ble_eq_true rfl, Nat.le_of_ble_eq_true rfl⟩ ⟨rfl, rfl⟩ (dd D_X8_behind 11 rfl)
  · refine lv_aload_n F.1 F.2.1 (dd D_X8_behind 3 rfl) rfl (lv_at hl 0 rfl) ?_
    refine getF F hK hP lf_X8_27 (0) (xp_0 cA ax s) rfl (dd D_X8_behind 4 rfl) ?_
    refine lv_iload_n F.1 F.2.1 (dd D_X8_behind 5 rfl) rfl (lv_at hl 1 rfl) ?_
    obtain ⟨r3, e4, h⟩ := Option.bind_eq_some_iff.mp h
    refine ro_go (st' := [.int r3]) (rV (rest := []) F (c_X2_behindOf D cA ax s n p1 r3 e4 l) lk_X8_243 (Nat.le_of_ble_eq_true rfl) (preRO hK hS hAb hP) (rcv_2 hK hP (q0 := (40)) (xp_40 cA ax s)) rfl hl rfl (Nat.le_of_ble_eq_true rfl) (dd D_X8_behind 6 rfl) ⟨Nat.le_of_ble_eq_true rfl, Nat.le_of_ble_eq_true rfl⟩) rfl ?_
    refine lv_goto (tgt := 24) F.1 F.2.1 (dd D_X8_behind 7 rfl) rfl ?_
    obtain rfl := Option.some.inj h
    exact rw_i (R := rmOf 4 0 0) F hP hD hS hr hlk ⟨Nat.le_of_ble_eq_true rfl, Nat.le_of_ble_eq_true rfl⟩ ⟨rfl, rfl⟩ (dd D_X8_behind 11 rfl)
def F_X8_is (n : Nat) (s : XS) (p1 : Int32) (p2 : Int32) : Option (Int32 × XS) := bf (F_X8_isDay p1) (bf (F_X8_isKind p2) ((((F_X2_fits n s p2 (0 : Int32) (0 : Int32) (0 : Int32) none p1)).bind fun r4 => bf r4 (some ((1 : Int32), s)) (some ((0 : Int32), s)))) ((((F_X8_refuse n s (-2 : Int32))).bind fun r7 => some (r7.1, r7.2)))) ((((F_X8_refuse n s (-2 : Int32))).bind fun r1 => some (r1.1, r1.2)))
set_option maxHeartbeats 4000000 in
set_option maxRecDepth 100000 in
theorem c_X8_is (D : va_G) (cA : Nat → ClassId) (ax : Nat → Nat) (s : XS) (n : Nat) (p1 : Int32) (p2 : Int32) (r : (Int32 × XS)) (h : F_X8_is n s p1 p2 = some r) : RW m_X8_is 5 1 5 D cA [.ref (ax 0), .int p1, .int p2] (xW cA ax s) (exq (some (.int r.1)) (xW cA ax r.2)) := by
  refine RW.ofW gy_X8_is.2.2 (Nat.le_of_ble_eq_true rfl) ?_
  intro l p e sM m below meth c A H locs F hr hlk hnm hK hP hD hS hA hAb ls hl
  have hl : lv_has ls 3 [(0, .ref (ax 0)), (1, .int p1), (2, .int p2)] := hl
  unfold F_X8_is at h
  refine lv_iload_n F.1 F.2.1 (dd D_X8_is 0 rfl) rfl (lv_at hl 1 rfl) ?_
  refine ro_go (st' := [.int (bI (F_X8_isDay p1))]) (rS (rest := []) F (c_X8_isDay D cA p1 l) lk_X8_113 (Nat.le_of_ble_eq_true rfl) (preRO hK hS hAb (emP)) rfl hl rfl (Nat.le_of_ble_eq_true rfl) (dd D_X8_is 1 rfl) ⟨Nat.le_of_ble_eq_true rfl, Nat.le_of_ble_eq_true rfl⟩) rfl ?_
  refine x_bif_eq (tgt := 14) F.1 F.2.1 (dd D_X8_is 2 rfl) rfl h (fun c10 h => ?_) (fun c10 h => ?_)
  · refine lv_aload_n F.1 F.2.1 (dd D_X8_is 6 rfl) rfl (lv_at hl 0 rfl) ?_
    refine lv_bipush (v := (-2 : Int32)) F.1 F.2.1 (dd D_X8_is 7 rfl) kb_m2 ?_
    obtain ⟨r1, e2, h⟩ := Option.bind_eq_some_iff.mp h
    refine rwe_all (st' := [.int r1.1]) hD hS hA (rV (rest := []) F (c_X8_refuse D cA ax s n (-2 : Int32) r1 e2 l H.size) lk_X8_64 (Nat.le_of_ble_eq_true rfl) (preRW hK hS hAb hP hD) (rcv_8 hK hP (q0 := (0)) (xp_0 cA ax s)) rfl hl rfl (Nat.le_of_ble_eq_true rfl) (dd D_X8_is 8 rfl) ⟨Nat.le_of_ble_eq_true rfl, Nat.le_of_ble_eq_true rfl⟩) rfl (fun H locs hP hD hS => ?_)
    obtain rfl := Option.some.inj h
    exact rw_i (R := rmOf 5 1 5) F hP hD hS hr hlk ⟨Nat.le_of_ble_eq_true rfl, Nat.le_of_ble_eq_true rfl⟩ ⟨rfl, rfl⟩ (dd D_X8_is 9 rfl)
  · refine lv_iload_n F.1 F.2.1 (dd D_X8_is 3 rfl) rfl (lv_at hl 2 rfl) ?_
    refine ro_go (st' := [.int (bI (F_X8_isKind p2))]) (rS (rest := []) F (c_X8_isKind D cA p2 l) lk_X8_109 (Nat.le_of_ble_eq_true rfl) (preRO hK hS hAb (emP)) rfl hl rfl (Nat.le_of_ble_eq_true rfl) (dd D_X8_is 4 rfl) ⟨Nat.le_of_ble_eq_true rfl, Nat.le_of_ble_eq_true rfl⟩) rfl ?_
    refine x_bif_ne (tgt := 21) F.1 F.2.1 (dd D_X8_is 5 rfl) rfl h (fun c9 h => ?_) (fun c9 h => ?_)
    · refine lv_aload_n F.1 F.2.1 (dd D_X8_is 10 rfl) rfl (lv_at hl 0 rfl) ?_
      refine getF F hK hP lf_X8_27 (0) (xp_0 cA ax s) rfl (dd D_X8_is 11 rfl) ?_
      refine newO F hK hP hD hS hA ln_X8_132 (Nat.le_of_ble_eq_true rfl) (Nat.le_of_ble_eq_true rfl) (dd D_X8_is 12 rfl) (fun q3 H hP hD hS => ?_)
      refine lv_dup F.1 F.2.1 (dd D_X8_is 13 rfl) rfl ?_
      refine lv_iload_n F.1 F.2.1 (dd D_X8_is 14 rfl) rfl (lv_at hl 2 rfl) ?_
      refine rwe (V := none) (wc := [(q3, .inr (4, [.int (0 : Int32), .int (0 : Int32), .int (0 : Int32), .int (0 : Int32), .null]))]) (wc' := [(q3, .inr (4, [.int p2, .int (0 : Int32), .int (0 : Int32), .int (0 : Int32), .null]))]) (st' := [.ref (q3), .ref (ax 40)]) (W' := (xW cA ax s) ++ [(q3, .inr (4, [.int p2, .int (0 : Int32), .int (0 : Int32), .int (0 : Int32), .null]))]) hP hD hS hA [63] (jc_last (xp_len cA ax s)) (Nat_nd rfl) rfl (rI (rest := [.ref (q3), .ref (ax 40)]) F (c_X4_init_ D cA q3 p2 l H.size) lk_X8_134 (Nat.le_of_ble_eq_true rfl) (preRW hK hS hAb (selP hP (jc_last (xp_len cA ax s))) (selD hD (Nat_nd rfl) (jc_last (xp_len cA ax s)))) rfl hl rfl (Nat.le_of_ble_eq_true rfl) (dd D_X8_is 15 rfl) ⟨Nat.le_of_ble_eq_true rfl, Nat.le_of_ble_eq_true rfl⟩) (js_last (xp_len cA ax s)) rfl (fun H locs hP hD hS => ?_)
      refine lv_iload_n F.1 F.2.1 (dd D_X8_is 16 rfl) rfl (lv_at hl 1 rfl) ?_
      obtain ⟨r4, e5, h⟩ := Option.bind_eq_some_iff.mp h
      refine ro_go (st' := [.int (bI r4)]) (rV (rest := []) F (c_X2_fits D cA ax s q3 p2 (0 : Int32) (0 : Int32) (0 : Int32) none n p1 r4 e5 l) lk_X8_137 (Nat.le_of_ble_eq_true rfl) (preRO hK hS hAb hP) (rcv_2 hK hP (q0 := (40)) (gL (xp_40 cA ax s))) rfl hl rfl (Nat.le_of_ble_eq_true rfl) (dd D_X8_is 17 rfl) ⟨Nat.le_of_ble_eq_true rfl, Nat.le_of_ble_eq_true rfl⟩) rfl ?_
      refine x_bif_eq (tgt := 44) F.1 F.2.1 (dd D_X8_is 18 rfl) rfl h (fun c6 h => ?_) (fun c6 h => ?_)
      · refine lv_iconst (v := (0 : Int32)) F.1 F.2.1 (dd D_X8_is 21 rfl) ki_0 ?_
        have hP := preP hP
        have hD := preD hD
        obtain rfl := Option.some.inj h
        exact rw_i (R := rmOf 5 1 5) F hP hD hS hr hlk ⟨Nat.le_of_ble_eq_true rfl, Nat.le_of_ble_eq_true rfl⟩ ⟨rfl, rfl⟩ (dd D_X8_is 22 rfl)
      · refine lv_iconst (v := (1 : Int32)) F.1 F.2.1 (dd D_X8_is 19 rfl) ki_1 ?_
        refine lv_goto (tgt := 45) F.1 F.2.1 (dd D_X8_is 20 rfl) rfl ?_
        have hP := preP hP
        have hD := preD hD
        obtain rfl := Option.some.inj h
        exact rw_i (R := rmOf 5 1 5) F hP hD hS hr hlk ⟨Nat.le_of_ble_eq_true rfl, Nat.le_of_ble_eq_true rfl⟩ ⟨rfl, rfl⟩ (dd D_X8_is 22 rfl)
    · refine lv_aload_n F.1 F.2.1 (dd D_X8_is 6 rfl) rfl (lv_at hl 0 rfl) ?_
      refine lv_bipush (v := (-2 : Int32)) F.1 F.2.1 (dd D_X8_is 7 rfl) kb_m2 ?_
      obtain ⟨r7, e8, h⟩ := Option.bind_eq_some_iff.mp h
      refine rwe_all (st' := [.int r7.1]) hD hS hA (rV (rest := []) F (c_X8_refuse D cA ax s n (-2 : Int32) r7 e8 l H.size) lk_X8_64 (Nat.le_of_ble_eq_true rfl) (preRW hK hS hAb hP hD) (rcv_8 hK hP (q0 := (0)) (xp_0 cA ax s)) rfl hl rfl (Nat.le_of_ble_eq_true rfl) (dd D_X8_is 8 rfl) ⟨Nat.le_of_ble_eq_true rfl, Nat.le_of_ble_eq_true rfl⟩) rfl (fun H locs hP hD hS => ?_)
      obtain rfl := Option.some.inj h
      exact rw_i (R := rmOf 5 1 5) F hP hD hS hr hlk ⟨Nat.le_of_ble_eq_true rfl, Nat.le_of_ble_eq_true rfl⟩ ⟨rfl, rfl⟩ (dd D_X8_is 9 rfl)
def F_X8_shines (n : Nat) (s : XS) (p1 : Int32) (p2 : Int32) (p3 : Int32) : Option (Int32 × XS) := bf (F_X8_isDay p1) (bf (F_X8_areMinutes p2 p3) ((((F_X2_shinesOf n s p1 p2 p3)).bind fun r3 => some (r3, s))) ((((F_X8_refuse n s (-2 : Int32))).bind fun r5 => some (r5.1, r5.2)))) ((((F_X8_refuse n s (-2 : Int32))).bind fun r1 => some (r1.1, r1.2)))
set_option maxHeartbeats 4000000 in
set_option maxRecDepth 100000 in
theorem c_X8_shines (D : va_G) (cA : Nat → ClassId) (ax : Nat → Nat) (s : XS) (n : Nat) (p1 : Int32) (p2 : Int32) (p3 : Int32) (r : (Int32 × XS)) (h : F_X8_shines n s p1 p2 p3 = some r) : RW m_X8_shines 4 0 0 D cA [.ref (ax 0), .int p1, .int p2, .int p3] (xW cA ax s) (exq (some (.int r.1)) (xW cA ax r.2)) := by
  refine RW.ofW gy_X8_shines.2.2 (Nat.le_of_ble_eq_true rfl) ?_
  intro l p e sM m below meth c A H locs F hr hlk hnm hK hP hD hS hA hAb ls hl
  have hl : lv_has ls 4 [(0, .ref (ax 0)), (1, .int p1), (2, .int p2), (3, .int p3)] := hl
  unfold F_X8_shines at h
  refine lv_iload_n F.1 F.2.1 (dd D_X8_shines 0 rfl) rfl (lv_at hl 1 rfl) ?_
  refine ro_go (st' := [.int (bI (F_X8_isDay p1))]) (rS (rest := []) F (c_X8_isDay D cA p1 l) lk_X8_113 (Nat.le_of_ble_eq_true rfl) (preRO hK hS hAb (emP)) rfl hl rfl (Nat.le_of_ble_eq_true rfl) (dd D_X8_shines 1 rfl) ⟨Nat.le_of_ble_eq_true rfl, Nat.le_of_ble_eq_true rfl⟩) rfl ?_
  refine x_bif_eq (tgt := 15) F.1 F.2.1 (dd D_X8_shines 2 rfl) rfl h (fun c8 h => ?_) (fun c8 h => ?_)
  · refine lv_aload_n F.1 F.2.1 (dd D_X8_shines 7 rfl) rfl (lv_at hl 0 rfl) ?_
    refine lv_bipush (v := (-2 : Int32)) F.1 F.2.1 (dd D_X8_shines 8 rfl) kb_m2 ?_
    obtain ⟨r1, e2, h⟩ := Option.bind_eq_some_iff.mp h
    refine rwe_all (st' := [.int r1.1]) hD hS hA (rV (rest := []) F (c_X8_refuse D cA ax s n (-2 : Int32) r1 e2 l H.size) lk_X8_64 (Nat.le_of_ble_eq_true rfl) (preRW hK hS hAb hP hD) (rcv_8 hK hP (q0 := (0)) (xp_0 cA ax s)) rfl hl rfl (Nat.le_of_ble_eq_true rfl) (dd D_X8_shines 9 rfl) ⟨Nat.le_of_ble_eq_true rfl, Nat.le_of_ble_eq_true rfl⟩) rfl (fun H locs hP hD hS => ?_)
    obtain rfl := Option.some.inj h
    exact rw_i (R := rmOf 4 0 0) F hP hD hS hr hlk ⟨Nat.le_of_ble_eq_true rfl, Nat.le_of_ble_eq_true rfl⟩ ⟨rfl, rfl⟩ (dd D_X8_shines 10 rfl)
  · refine lv_iload_n F.1 F.2.1 (dd D_X8_shines 3 rfl) rfl (lv_at hl 2 rfl) ?_
    refine lv_iload_n F.1 F.2.1 (dd D_X8_shines 4 rfl) rfl (lv_at hl 3 rfl) ?_
    refine ro_go (st' := [.int (bI (F_X8_areMinutes p2 p3))]) (rS (rest := []) F (c_X8_areMinutes D cA p2 p3 l) lk_X8_246 (Nat.le_of_ble_eq_true rfl) (preRO hK hS hAb (emP)) rfl hl rfl (Nat.le_of_ble_eq_true rfl) (dd D_X8_shines 5 rfl) ⟨Nat.le_of_ble_eq_true rfl, Nat.le_of_ble_eq_true rfl⟩) rfl ?_
    refine x_bif_ne (tgt := 22) F.1 F.2.1 (dd D_X8_shines 6 rfl) rfl h (fun c7 h => ?_) (fun c7 h => ?_)
    · refine lv_aload_n F.1 F.2.1 (dd D_X8_shines 11 rfl) rfl (lv_at hl 0 rfl) ?_
      refine getF F hK hP lf_X8_27 (0) (xp_0 cA ax s) rfl (dd D_X8_shines 12 rfl) ?_
      refine lv_iload_n F.1 F.2.1 (dd D_X8_shines 13 rfl) rfl (lv_at hl 1 rfl) ?_
      refine lv_iload_n F.1 F.2.1 (dd D_X8_shines 14 rfl) rfl (lv_at hl 2 rfl) ?_
      refine lv_iload_n F.1 F.2.1 (dd D_X8_shines 15 rfl) rfl (lv_at hl 3 rfl) ?_
      obtain ⟨r3, e4, h⟩ := Option.bind_eq_some_iff.mp h
      refine ro_go (st' := [.int r3]) (rV (rest := []) F (c_X2_shinesOf D cA ax s n p1 p2 p3 r3 e4 l) lk_X8_249 (Nat.le_of_ble_eq_true rfl) (preRO hK hS hAb hP) (rcv_2 hK hP (q0 := (40)) (xp_40 cA ax s)) rfl hl rfl (Nat.le_of_ble_eq_true rfl) (dd D_X8_shines 16 rfl) ⟨Nat.le_of_ble_eq_true rfl, Nat.le_of_ble_eq_true rfl⟩) rfl ?_
      obtain rfl := Option.some.inj h
      exact rw_i (R := rmOf 4 0 0) F hP hD hS hr hlk ⟨Nat.le_of_ble_eq_true rfl, Nat.le_of_ble_eq_true rfl⟩ ⟨rfl, rfl⟩ (dd D_X8_shines 17 rfl)
    · refine lv_aload_n F.1 F.2.1 (dd D_X8_shines 7 rfl) rfl (lv_at hl 0 rfl) ?_
      refine lv_bipush (v := (-2 : Int32)) F.1 F.2.1 (dd D_X8_shines 8 rfl) kb_m2 ?_
      obtain ⟨r5, e6, h⟩ := Option.bind_eq_some_iff.mp h
      refine rwe_all (st' := [.int r5.1]) hD hS hA (rV (rest := []) F (c_X8_refuse D cA ax s n (-2 : Int32) r5 e6 l H.size) lk_X8_64 (Nat.le_of_ble_eq_true rfl) (preRW hK hS hAb hP hD) (rcv_8 hK hP (q0 := (0)) (xp_0 cA ax s)) rfl hl rfl (Nat.le_of_ble_eq_true rfl) (dd D_X8_shines 9 rfl) ⟨Nat.le_of_ble_eq_true rfl, Nat.le_of_ble_eq_true rfl⟩) rfl (fun H locs hP hD hS => ?_)
      obtain rfl := Option.some.inj h
      exact rw_i (R := rmOf 4 0 0) F hP hD hS hr hlk ⟨Nat.le_of_ble_eq_true rfl, Nat.le_of_ble_eq_true rfl⟩ ⟨rfl, rfl⟩ (dd D_X8_shines 10 rfl)
def F_X8_light (n : Nat) (s : XS) (p1 : Int32) (p2 : Int32) (p3 : Int32) : Option (Int32 × XS) := bf (F_X8_isDay p1) (bf (F_X8_areMinutes p2 p3) ((((F_X2_lightOf n s p1 p2 p3)).bind fun r3 => some (r3, s))) ((((F_X8_refuse n s (-2 : Int32))).bind fun r5 => some (r5.1, r5.2)))) ((((F_X8_refuse n s (-2 : Int32))).bind fun r1 => some (r1.1, r1.2)))
set_option maxHeartbeats 4000000 in
set_option maxRecDepth 100000 in
theorem c_X8_light (D : va_G) (cA : Nat → ClassId) (ax : Nat → Nat) (s : XS) (n : Nat) (p1 : Int32) (p2 : Int32) (p3 : Int32) (r : (Int32 × XS)) (h : F_X8_light n s p1 p2 p3 = some r) : RW m_X8_light 4 0 0 D cA [.ref (ax 0), .int p1, .int p2, .int p3] (xW cA ax s) (exq (some (.int r.1)) (xW cA ax r.2)) := by
  refine RW.ofW gy_X8_light.2.2 (Nat.le_of_ble_eq_true rfl) ?_
  intro l p e sM m below meth c A H locs F hr hlk hnm hK hP hD hS hA hAb ls hl
  have hl : lv_has ls 4 [(0, .ref (ax 0)), (1, .int p1), (2, .int p2), (3, .int p3)] := hl
  unfold F_X8_light at h
  refine lv_iload_n F.1 F.2.1 (dd D_X8_light 0 rfl) rfl (lv_at hl 1 rfl) ?_
  refine ro_go (st' := [.int (bI (F_X8_isDay p1))]) (rS (rest := []) F (c_X8_isDay D cA p1 l) lk_X8_113 (Nat.le_of_ble_eq_true rfl) (preRO hK hS hAb (emP)) rfl hl rfl (Nat.le_of_ble_eq_true rfl) (dd D_X8_light 1 rfl) ⟨Nat.le_of_ble_eq_true rfl, Nat.le_of_ble_eq_true rfl⟩) rfl ?_
  refine x_bif_eq (tgt := 15) F.1 F.2.1 (dd D_X8_light 2 rfl) rfl h (fun c8 h => ?_) (fun c8 h => ?_)
  · refine lv_aload_n F.1 F.2.1 (dd D_X8_light 7 rfl) rfl (lv_at hl 0 rfl) ?_
    refine lv_bipush (v := (-2 : Int32)) F.1 F.2.1 (dd D_X8_light 8 rfl) kb_m2 ?_
    obtain ⟨r1, e2, h⟩ := Option.bind_eq_some_iff.mp h
    refine rwe_all (st' := [.int r1.1]) hD hS hA (rV (rest := []) F (c_X8_refuse D cA ax s n (-2 : Int32) r1 e2 l H.size) lk_X8_64 (Nat.le_of_ble_eq_true rfl) (preRW hK hS hAb hP hD) (rcv_8 hK hP (q0 := (0)) (xp_0 cA ax s)) rfl hl rfl (Nat.le_of_ble_eq_true rfl) (dd D_X8_light 9 rfl) ⟨Nat.le_of_ble_eq_true rfl, Nat.le_of_ble_eq_true rfl⟩) rfl (fun H locs hP hD hS => ?_)
    obtain rfl := Option.some.inj h
    exact rw_i (R := rmOf 4 0 0) F hP hD hS hr hlk ⟨Nat.le_of_ble_eq_true rfl, Nat.le_of_ble_eq_true rfl⟩ ⟨rfl, rfl⟩ (dd D_X8_light 10 rfl)
  · refine lv_iload_n F.1 F.2.1 (dd D_X8_light 3 rfl) rfl (lv_at hl 2 rfl) ?_
    refine lv_iload_n F.1 F.2.1 (dd D_X8_light 4 rfl) rfl (lv_at hl 3 rfl) ?_
    refine ro_go (st' := [.int (bI (F_X8_areMinutes p2 p3))]) (rS (rest := []) F (c_X8_areMinutes D cA p2 p3 l) lk_X8_246 (Nat.le_of_ble_eq_true rfl) (preRO hK hS hAb (emP)) rfl hl rfl (Nat.le_of_ble_eq_true rfl) (dd D_X8_light 5 rfl) ⟨Nat.le_of_ble_eq_true rfl, Nat.le_of_ble_eq_true rfl⟩) rfl ?_
    refine x_bif_ne (tgt := 22) F.1 F.2.1 (dd D_X8_light 6 rfl) rfl h (fun c7 h => ?_) (fun c7 h => ?_)
    · refine lv_aload_n F.1 F.2.1 (dd D_X8_light 11 rfl) rfl (lv_at hl 0 rfl) ?_
      refine getF F hK hP lf_X8_27 (0) (xp_0 cA ax s) rfl (dd D_X8_light 12 rfl) ?_
      refine lv_iload_n F.1 F.2.1 (dd D_X8_light 13 rfl) rfl (lv_at hl 1 rfl) ?_
      refine lv_iload_n F.1 F.2.1 (dd D_X8_light 14 rfl) rfl (lv_at hl 2 rfl) ?_
      refine lv_iload_n F.1 F.2.1 (dd D_X8_light 15 rfl) rfl (lv_at hl 3 rfl) ?_
      obtain ⟨r3, e4, h⟩ := Option.bind_eq_some_iff.mp h
      refine ro_go (st' := [.int r3]) (rV (rest := []) F (c_X2_lightOf D cA ax s n p1 p2 p3 r3 e4 l) lk_X8_253 (Nat.le_of_ble_eq_true rfl) (preRO hK hS hAb hP) (rcv_2 hK hP (q0 := (40)) (xp_40 cA ax s)) rfl hl rfl (Nat.le_of_ble_eq_true rfl) (dd D_X8_light 16 rfl) ⟨Nat.le_of_ble_eq_true rfl, Nat.le_of_ble_eq_true rfl⟩) rfl ?_
      obtain rfl := Option.some.inj h
      exact rw_i (R := rmOf 4 0 0) F hP hD hS hr hlk ⟨Nat.le_of_ble_eq_true rfl, Nat.le_of_ble_eq_true rfl⟩ ⟨rfl, rfl⟩ (dd D_X8_light 17 rfl)
    · refine lv_aload_n F.1 F.2.1 (dd D_X8_light 7 rfl) rfl (lv_at hl 0 rfl) ?_
      refine lv_bipush (v := (-2 : Int32)) F.1 F.2.1 (dd D_X8_light 8 rfl) kb_m2 ?_
      obtain ⟨r5, e6, h⟩ := Option.bind_eq_some_iff.mp h
      refine rwe_all (st' := [.int r5.1]) hD hS hA (rV (rest := []) F (c_X8_refuse D cA ax s n (-2 : Int32) r5 e6 l H.size) lk_X8_64 (Nat.le_of_ble_eq_true rfl) (preRW hK hS hAb hP hD) (rcv_8 hK hP (q0 := (0)) (xp_0 cA ax s)) rfl hl rfl (Nat.le_of_ble_eq_true rfl) (dd D_X8_light 9 rfl) ⟨Nat.le_of_ble_eq_true rfl, Nat.le_of_ble_eq_true rfl⟩) rfl (fun H locs hP hD hS => ?_)
      obtain rfl := Option.some.inj h
      exact rw_i (R := rmOf 4 0 0) F hP hD hS hr hlk ⟨Nat.le_of_ble_eq_true rfl, Nat.le_of_ble_eq_true rfl⟩ ⟨rfl, rfl⟩ (dd D_X8_light 10 rfl)
def F_X8_next (n : Nat) (s : XS) (p1 : Int32) (p2 : Int32) : Option (Int32 × XS) := bf (F_X8_isDay p1) (bf (F_X8_isKind p2) ((((F_X2_pick n s p2 (0 : Int32) (0 : Int32) (0 : Int32) none p1 (1000 : Int32) (0 : Int32))).bind fun r4 => some (r4, s))) ((((F_X8_refuse n s (-2 : Int32))).bind fun r6 => some (r6.1, r6.2)))) ((((F_X8_refuse n s (-2 : Int32))).bind fun r1 => some (r1.1, r1.2)))
set_option maxHeartbeats 4000000 in
set_option maxRecDepth 100000 in
theorem c_X8_next (D : va_G) (cA : Nat → ClassId) (ax : Nat → Nat) (s : XS) (n : Nat) (p1 : Int32) (p2 : Int32) (r : (Int32 × XS)) (h : F_X8_next n s p1 p2 = some r) : RW m_X8_next 6 1 5 D cA [.ref (ax 0), .int p1, .int p2] (xW cA ax s) (exq (some (.int r.1)) (xW cA ax r.2)) := by
  refine RW.ofW gy_X8_next.2.2 (Nat.le_of_ble_eq_true rfl) ?_
  intro l p e sM m below meth c A H locs F hr hlk hnm hK hP hD hS hA hAb ls hl
  have hl : lv_has ls 3 [(0, .ref (ax 0)), (1, .int p1), (2, .int p2)] := hl
  unfold F_X8_next at h
  refine lv_iload_n F.1 F.2.1 (dd D_X8_next 0 rfl) rfl (lv_at hl 1 rfl) ?_
  refine ro_go (st' := [.int (bI (F_X8_isDay p1))]) (rS (rest := []) F (c_X8_isDay D cA p1 l) lk_X8_113 (Nat.le_of_ble_eq_true rfl) (preRO hK hS hAb (emP)) rfl hl rfl (Nat.le_of_ble_eq_true rfl) (dd D_X8_next 1 rfl) ⟨Nat.le_of_ble_eq_true rfl, Nat.le_of_ble_eq_true rfl⟩) rfl ?_
  refine x_bif_eq (tgt := 14) F.1 F.2.1 (dd D_X8_next 2 rfl) rfl h (fun c9 h => ?_) (fun c9 h => ?_)
  · refine lv_aload_n F.1 F.2.1 (dd D_X8_next 6 rfl) rfl (lv_at hl 0 rfl) ?_
    refine lv_bipush (v := (-2 : Int32)) F.1 F.2.1 (dd D_X8_next 7 rfl) kb_m2 ?_
    obtain ⟨r1, e2, h⟩ := Option.bind_eq_some_iff.mp h
    refine rwe_all (st' := [.int r1.1]) hD hS hA (rV (rest := []) F (c_X8_refuse D cA ax s n (-2 : Int32) r1 e2 l H.size) lk_X8_64 (Nat.le_of_ble_eq_true rfl) (preRW hK hS hAb hP hD) (rcv_8 hK hP (q0 := (0)) (xp_0 cA ax s)) rfl hl rfl (Nat.le_of_ble_eq_true rfl) (dd D_X8_next 8 rfl) ⟨Nat.le_of_ble_eq_true rfl, Nat.le_of_ble_eq_true rfl⟩) rfl (fun H locs hP hD hS => ?_)
    obtain rfl := Option.some.inj h
    exact rw_i (R := rmOf 6 1 5) F hP hD hS hr hlk ⟨Nat.le_of_ble_eq_true rfl, Nat.le_of_ble_eq_true rfl⟩ ⟨rfl, rfl⟩ (dd D_X8_next 9 rfl)
  · refine lv_iload_n F.1 F.2.1 (dd D_X8_next 3 rfl) rfl (lv_at hl 2 rfl) ?_
    refine ro_go (st' := [.int (bI (F_X8_isKind p2))]) (rS (rest := []) F (c_X8_isKind D cA p2 l) lk_X8_109 (Nat.le_of_ble_eq_true rfl) (preRO hK hS hAb (emP)) rfl hl rfl (Nat.le_of_ble_eq_true rfl) (dd D_X8_next 4 rfl) ⟨Nat.le_of_ble_eq_true rfl, Nat.le_of_ble_eq_true rfl⟩) rfl ?_
    refine x_bif_ne (tgt := 21) F.1 F.2.1 (dd D_X8_next 5 rfl) rfl h (fun c8 h => ?_) (fun c8 h => ?_)
    · refine lv_aload_n F.1 F.2.1 (dd D_X8_next 10 rfl) rfl (lv_at hl 0 rfl) ?_
      refine getF F hK hP lf_X8_27 (0) (xp_0 cA ax s) rfl (dd D_X8_next 11 rfl) ?_
      refine lv_iload_n F.1 F.2.1 (dd D_X8_next 12 rfl) rfl (lv_at hl 1 rfl) ?_
      refine lv_sipush (v := (1000 : Int32)) F.1 F.2.1 (dd D_X8_next 13 rfl) ks_1000 ?_
      refine lv_iconst (v := (0 : Int32)) F.1 F.2.1 (dd D_X8_next 14 rfl) ki_0 ?_
      refine newO F hK hP hD hS hA ln_X8_132 (Nat.le_of_ble_eq_true rfl) (Nat.le_of_ble_eq_true rfl) (dd D_X8_next 15 rfl) (fun q3 H hP hD hS => ?_)
      refine lv_dup F.1 F.2.1 (dd D_X8_next 16 rfl) rfl ?_
      refine lv_iload_n F.1 F.2.1 (dd D_X8_next 17 rfl) rfl (lv_at hl 2 rfl) ?_
      refine rwe (V := none) (wc := [(q3, .inr (4, [.int (0 : Int32), .int (0 : Int32), .int (0 : Int32), .int (0 : Int32), .null]))]) (wc' := [(q3, .inr (4, [.int p2, .int (0 : Int32), .int (0 : Int32), .int (0 : Int32), .null]))]) (st' := [.ref (q3), .int (0 : Int32), .int (1000 : Int32), .int p1, .ref (ax 40)]) (W' := (xW cA ax s) ++ [(q3, .inr (4, [.int p2, .int (0 : Int32), .int (0 : Int32), .int (0 : Int32), .null]))]) hP hD hS hA [63] (jc_last (xp_len cA ax s)) (Nat_nd rfl) rfl (rI (rest := [.ref (q3), .int (0 : Int32), .int (1000 : Int32), .int p1, .ref (ax 40)]) F (c_X4_init_ D cA q3 p2 l H.size) lk_X8_134 (Nat.le_of_ble_eq_true rfl) (preRW hK hS hAb (selP hP (jc_last (xp_len cA ax s))) (selD hD (Nat_nd rfl) (jc_last (xp_len cA ax s)))) rfl hl rfl (Nat.le_of_ble_eq_true rfl) (dd D_X8_next 18 rfl) ⟨Nat.le_of_ble_eq_true rfl, Nat.le_of_ble_eq_true rfl⟩) (js_last (xp_len cA ax s)) rfl (fun H locs hP hD hS => ?_)
      obtain ⟨r4, e5, h⟩ := Option.bind_eq_some_iff.mp h
      refine ro_go (st' := [.int r4]) (rV (rest := []) F (c_X2_pick D cA ax s q3 p2 (0 : Int32) (0 : Int32) (0 : Int32) none n p1 (1000 : Int32) (0 : Int32) r4 e5 l) lk_X8_256 (Nat.le_of_ble_eq_true rfl) (preRO hK hS hAb hP) (rcv_2 hK hP (q0 := (40)) (gL (xp_40 cA ax s))) rfl hl rfl (Nat.le_of_ble_eq_true rfl) (dd D_X8_next 19 rfl) ⟨Nat.le_of_ble_eq_true rfl, Nat.le_of_ble_eq_true rfl⟩) rfl ?_
      have hP := preP hP
      have hD := preD hD
      obtain rfl := Option.some.inj h
      exact rw_i (R := rmOf 6 1 5) F hP hD hS hr hlk ⟨Nat.le_of_ble_eq_true rfl, Nat.le_of_ble_eq_true rfl⟩ ⟨rfl, rfl⟩ (dd D_X8_next 20 rfl)
    · refine lv_aload_n F.1 F.2.1 (dd D_X8_next 6 rfl) rfl (lv_at hl 0 rfl) ?_
      refine lv_bipush (v := (-2 : Int32)) F.1 F.2.1 (dd D_X8_next 7 rfl) kb_m2 ?_
      obtain ⟨r6, e7, h⟩ := Option.bind_eq_some_iff.mp h
      refine rwe_all (st' := [.int r6.1]) hD hS hA (rV (rest := []) F (c_X8_refuse D cA ax s n (-2 : Int32) r6 e7 l H.size) lk_X8_64 (Nat.le_of_ble_eq_true rfl) (preRW hK hS hAb hP hD) (rcv_8 hK hP (q0 := (0)) (xp_0 cA ax s)) rfl hl rfl (Nat.le_of_ble_eq_true rfl) (dd D_X8_next 8 rfl) ⟨Nat.le_of_ble_eq_true rfl, Nat.le_of_ble_eq_true rfl⟩) rfl (fun H locs hP hD hS => ?_)
      obtain rfl := Option.some.inj h
      exact rw_i (R := rmOf 6 1 5) F hP hD hS hr hlk ⟨Nat.le_of_ble_eq_true rfl, Nat.le_of_ble_eq_true rfl⟩ ⟨rfl, rfl⟩ (dd D_X8_next 9 rfl)
def F_X8_many (n : Nat) (s : XS) (p1 : Int32) (p2 : Int32) (p3 : Int32) : Option (Int32 × XS) := bf (F_X8_areDays p1 p2) (bf (F_X8_isKind p3) ((((F_X2_pick n s p3 (0 : Int32) (0 : Int32) (0 : Int32) none p1 p2 (-1 : Int32))).bind fun r4 => some (r4, s))) ((((F_X8_refuse n s (-2 : Int32))).bind fun r6 => some (r6.1, r6.2)))) ((((F_X8_refuse n s (-2 : Int32))).bind fun r1 => some (r1.1, r1.2)))
set_option maxHeartbeats 4000000 in
set_option maxRecDepth 100000 in
theorem c_X8_many (D : va_G) (cA : Nat → ClassId) (ax : Nat → Nat) (s : XS) (n : Nat) (p1 : Int32) (p2 : Int32) (p3 : Int32) (r : (Int32 × XS)) (h : F_X8_many n s p1 p2 p3 = some r) : RW m_X8_many 6 1 5 D cA [.ref (ax 0), .int p1, .int p2, .int p3] (xW cA ax s) (exq (some (.int r.1)) (xW cA ax r.2)) := by
  refine RW.ofW gy_X8_many.2.2 (Nat.le_of_ble_eq_true rfl) ?_
  intro l p e sM m below meth c A H locs F hr hlk hnm hK hP hD hS hA hAb ls hl
  have hl : lv_has ls 4 [(0, .ref (ax 0)), (1, .int p1), (2, .int p2), (3, .int p3)] := hl
  unfold F_X8_many at h
  refine lv_iload_n F.1 F.2.1 (dd D_X8_many 0 rfl) rfl (lv_at hl 1 rfl) ?_
  refine lv_iload_n F.1 F.2.1 (dd D_X8_many 1 rfl) rfl (lv_at hl 2 rfl) ?_
  refine ro_go (st' := [.int (bI (F_X8_areDays p1 p2))]) (rS (rest := []) F (c_X8_areDays D cA p1 p2 l) lk_X8_260 (Nat.le_of_ble_eq_true rfl) (preRO hK hS hAb (emP)) rfl hl rfl (Nat.le_of_ble_eq_true rfl) (dd D_X8_many 2 rfl) ⟨Nat.le_of_ble_eq_true rfl, Nat.le_of_ble_eq_true rfl⟩) rfl ?_
  refine x_bif_eq (tgt := 15) F.1 F.2.1 (dd D_X8_many 3 rfl) rfl h (fun c9 h => ?_) (fun c9 h => ?_)
  · refine lv_aload_n F.1 F.2.1 (dd D_X8_many 7 rfl) rfl (lv_at hl 0 rfl) ?_
    refine lv_bipush (v := (-2 : Int32)) F.1 F.2.1 (dd D_X8_many 8 rfl) kb_m2 ?_
    obtain ⟨r1, e2, h⟩ := Option.bind_eq_some_iff.mp h
    refine rwe_all (st' := [.int r1.1]) hD hS hA (rV (rest := []) F (c_X8_refuse D cA ax s n (-2 : Int32) r1 e2 l H.size) lk_X8_64 (Nat.le_of_ble_eq_true rfl) (preRW hK hS hAb hP hD) (rcv_8 hK hP (q0 := (0)) (xp_0 cA ax s)) rfl hl rfl (Nat.le_of_ble_eq_true rfl) (dd D_X8_many 9 rfl) ⟨Nat.le_of_ble_eq_true rfl, Nat.le_of_ble_eq_true rfl⟩) rfl (fun H locs hP hD hS => ?_)
    obtain rfl := Option.some.inj h
    exact rw_i (R := rmOf 6 1 5) F hP hD hS hr hlk ⟨Nat.le_of_ble_eq_true rfl, Nat.le_of_ble_eq_true rfl⟩ ⟨rfl, rfl⟩ (dd D_X8_many 10 rfl)
  · refine lv_iload_n F.1 F.2.1 (dd D_X8_many 4 rfl) rfl (lv_at hl 3 rfl) ?_
    refine ro_go (st' := [.int (bI (F_X8_isKind p3))]) (rS (rest := []) F (c_X8_isKind D cA p3 l) lk_X8_109 (Nat.le_of_ble_eq_true rfl) (preRO hK hS hAb (emP)) rfl hl rfl (Nat.le_of_ble_eq_true rfl) (dd D_X8_many 5 rfl) ⟨Nat.le_of_ble_eq_true rfl, Nat.le_of_ble_eq_true rfl⟩) rfl ?_
    refine x_bif_ne (tgt := 22) F.1 F.2.1 (dd D_X8_many 6 rfl) rfl h (fun c8 h => ?_) (fun c8 h => ?_)
    · refine lv_aload_n F.1 F.2.1 (dd D_X8_many 11 rfl) rfl (lv_at hl 0 rfl) ?_
      refine getF F hK hP lf_X8_27 (0) (xp_0 cA ax s) rfl (dd D_X8_many 12 rfl) ?_
      refine lv_iload_n F.1 F.2.1 (dd D_X8_many 13 rfl) rfl (lv_at hl 1 rfl) ?_
      refine lv_iload_n F.1 F.2.1 (dd D_X8_many 14 rfl) rfl (lv_at hl 2 rfl) ?_
      refine lv_iconst (v := (-1 : Int32)) F.1 F.2.1 (dd D_X8_many 15 rfl) ki_m1 ?_
      refine newO F hK hP hD hS hA ln_X8_132 (Nat.le_of_ble_eq_true rfl) (Nat.le_of_ble_eq_true rfl) (dd D_X8_many 16 rfl) (fun q3 H hP hD hS => ?_)
      refine lv_dup F.1 F.2.1 (dd D_X8_many 17 rfl) rfl ?_
      refine lv_iload_n F.1 F.2.1 (dd D_X8_many 18 rfl) rfl (lv_at hl 3 rfl) ?_
      refine rwe (V := none) (wc := [(q3, .inr (4, [.int (0 : Int32), .int (0 : Int32), .int (0 : Int32), .int (0 : Int32), .null]))]) (wc' := [(q3, .inr (4, [.int p3, .int (0 : Int32), .int (0 : Int32), .int (0 : Int32), .null]))]) (st' := [.ref (q3), .int (-1 : Int32), .int p2, .int p1, .ref (ax 40)]) (W' := (xW cA ax s) ++ [(q3, .inr (4, [.int p3, .int (0 : Int32), .int (0 : Int32), .int (0 : Int32), .null]))]) hP hD hS hA [63] (jc_last (xp_len cA ax s)) (Nat_nd rfl) rfl (rI (rest := [.ref (q3), .int (-1 : Int32), .int p2, .int p1, .ref (ax 40)]) F (c_X4_init_ D cA q3 p3 l H.size) lk_X8_134 (Nat.le_of_ble_eq_true rfl) (preRW hK hS hAb (selP hP (jc_last (xp_len cA ax s))) (selD hD (Nat_nd rfl) (jc_last (xp_len cA ax s)))) rfl hl rfl (Nat.le_of_ble_eq_true rfl) (dd D_X8_many 19 rfl) ⟨Nat.le_of_ble_eq_true rfl, Nat.le_of_ble_eq_true rfl⟩) (js_last (xp_len cA ax s)) rfl (fun H locs hP hD hS => ?_)
      obtain ⟨r4, e5, h⟩ := Option.bind_eq_some_iff.mp h
      refine ro_go (st' := [.int r4]) (rV (rest := []) F (c_X2_pick D cA ax s q3 p3 (0 : Int32) (0 : Int32) (0 : Int32) none n p1 p2 (-1 : Int32) r4 e5 l) lk_X8_256 (Nat.le_of_ble_eq_true rfl) (preRO hK hS hAb hP) (rcv_2 hK hP (q0 := (40)) (gL (xp_40 cA ax s))) rfl hl rfl (Nat.le_of_ble_eq_true rfl) (dd D_X8_many 20 rfl) ⟨Nat.le_of_ble_eq_true rfl, Nat.le_of_ble_eq_true rfl⟩) rfl ?_
      have hP := preP hP
      have hD := preD hD
      obtain rfl := Option.some.inj h
      exact rw_i (R := rmOf 6 1 5) F hP hD hS hr hlk ⟨Nat.le_of_ble_eq_true rfl, Nat.le_of_ble_eq_true rfl⟩ ⟨rfl, rfl⟩ (dd D_X8_many 21 rfl)
    · refine lv_aload_n F.1 F.2.1 (dd D_X8_many 7 rfl) rfl (lv_at hl 0 rfl) ?_
      refine lv_bipush (v := (-2 : Int32)) F.1 F.2.1 (dd D_X8_many 8 rfl) kb_m2 ?_
      obtain ⟨r6, e7, h⟩ := Option.bind_eq_some_iff.mp h
      refine rwe_all (st' := [.int r6.1]) hD hS hA (rV (rest := []) F (c_X8_refuse D cA ax s n (-2 : Int32) r6 e7 l H.size) lk_X8_64 (Nat.le_of_ble_eq_true rfl) (preRW hK hS hAb hP hD) (rcv_8 hK hP (q0 := (0)) (xp_0 cA ax s)) rfl hl rfl (Nat.le_of_ble_eq_true rfl) (dd D_X8_many 9 rfl) ⟨Nat.le_of_ble_eq_true rfl, Nat.le_of_ble_eq_true rfl⟩) rfl (fun H locs hP hD hS => ?_)
      obtain rfl := Option.some.inj h
      exact rw_i (R := rmOf 6 1 5) F hP hD hS hr hlk ⟨Nat.le_of_ble_eq_true rfl, Nat.le_of_ble_eq_true rfl⟩ ⟨rfl, rfl⟩ (dd D_X8_many 10 rfl)
def F_X8_orStuck (n : Nat) (s : XS) (p1 : Int32) : Option (Int32 × XS) := (if p1 = (-1 : Int32) then (((F_X8_refuse n s (-5 : Int32))).bind fun r2 => some (r2.1, r2.2)) else some (p1, s))
set_option maxHeartbeats 4000000 in
set_option maxRecDepth 100000 in
theorem c_X8_orStuck (D : va_G) (cA : Nat → ClassId) (ax : Nat → Nat) (s : XS) (n : Nat) (p1 : Int32) (r : (Int32 × XS)) (h : F_X8_orStuck n s p1 = some r) : RW m_X8_orStuck 1 0 0 D cA [.ref (ax 0), .int p1] (xW cA ax s) (exq (some (.int r.1)) (xW cA ax r.2)) := by
  refine RW.ofW gy_X8_orStuck.2.2 (Nat.le_of_ble_eq_true rfl) ?_
  intro l p e sM m below meth c A H locs F hr hlk hnm hK hP hD hS hA hAb ls hl
  have hl : lv_has ls 2 [(0, .ref (ax 0)), (1, .int p1)] := hl
  unfold F_X8_orStuck at h
  refine lv_iload_n F.1 F.2.1 (dd D_X8_orStuck 0 rfl) rfl (lv_at hl 1 rfl) ?_
  refine lv_iconst (v := (-1 : Int32)) F.1 F.2.1 (dd D_X8_orStuck 1 rfl) ki_m1 ?_
  refine x_icmp_ne (tgt := 14) F.1 F.2.1 (dd D_X8_orStuck 2 rfl) rfl h (fun c1 h => ?_) (fun c1 h => ?_)
  · refine lv_iload_n F.1 F.2.1 (dd D_X8_orStuck 7 rfl) rfl (lv_at hl 1 rfl) ?_
    obtain rfl := Option.some.inj h
    exact rw_i (R := rmOf 1 0 0) F hP hD hS hr hlk ⟨Nat.le_of_ble_eq_true rfl, Nat.le_of_ble_eq_true rfl⟩ ⟨rfl, rfl⟩ (dd D_X8_orStuck 8 rfl)
  · refine lv_aload_n F.1 F.2.1 (dd D_X8_orStuck 3 rfl) rfl (lv_at hl 0 rfl) ?_
    refine lv_bipush (v := (-5 : Int32)) F.1 F.2.1 (dd D_X8_orStuck 4 rfl) kb_m5 ?_
    obtain ⟨r2, e3, h⟩ := Option.bind_eq_some_iff.mp h
    refine rwe_all (st' := [.int r2.1]) hD hS hA (rV (rest := []) F (c_X8_refuse D cA ax s n (-5 : Int32) r2 e3 l H.size) lk_X8_64 (Nat.le_of_ble_eq_true rfl) (preRW hK hS hAb hP hD) (rcv_8 hK hP (q0 := (0)) (xp_0 cA ax s)) rfl hl rfl (Nat.le_of_ble_eq_true rfl) (dd D_X8_orStuck 5 rfl) ⟨Nat.le_of_ble_eq_true rfl, Nat.le_of_ble_eq_true rfl⟩) rfl (fun H locs hP hD hS => ?_)
    refine lv_goto (tgt := 15) F.1 F.2.1 (dd D_X8_orStuck 6 rfl) rfl ?_
    obtain rfl := Option.some.inj h
    exact rw_i (R := rmOf 1 0 0) F hP hD hS hr hlk ⟨Nat.le_of_ble_eq_true rfl, Nat.le_of_ble_eq_true rfl⟩ ⟨rfl, rfl⟩ (dd D_X8_orStuck 8 rfl)
def F_X8_between (n : Nat) (s : XS) (p1 : Int32) (p2 : Int32) (p3 : Int32) (p4 : Int32) (p5 : Int32) : Option (Int32 × XS) := bf (F_X8_areDays p1 p2) (bf (F_X8_isIn p3 (0 : Int32) (999 : Int32)) (bf (F_X8_isIn p4 p3 (999 : Int32)) ((if (-1 : Int32) ≤ p5 then (((F_X2_pick n s (6 : Int32) p3 p4 (0 : Int32) none p1 p2 p5)).bind fun r9 => (((F_X8_orStuck n s r9)).bind fun r11 => some (r11.1, r11.2))) else (((F_X8_refuse n s (-2 : Int32))).bind fun r13 => some (r13.1, r13.2)))) ((((F_X8_refuse n s (-2 : Int32))).bind fun r5 => some (r5.1, r5.2)))) ((((F_X8_refuse n s (-2 : Int32))).bind fun r3 => some (r3.1, r3.2)))) ((((F_X8_refuse n s (-2 : Int32))).bind fun r1 => some (r1.1, r1.2)))
set_option maxHeartbeats 4000000 in
set_option maxRecDepth 100000 in
theorem c_X8_between (D : va_G) (cA : Nat → ClassId) (ax : Nat → Nat) (s : XS) (n : Nat) (p1 : Int32) (p2 : Int32) (p3 : Int32) (p4 : Int32) (p5 : Int32) (r : (Int32 × XS)) (h : F_X8_between n s p1 p2 p3 p4 p5 = some r) : RW m_X8_between 6 1 5 D cA [.ref (ax 0), .int p1, .int p2, .int p3, .int p4, .int p5] (xW cA ax s) (exq (some (.int r.1)) (xW cA ax r.2)) := by
  refine RW.ofW gy_X8_between.2.2 (Nat.le_of_ble_eq_true rfl) ?_
  intro l p e sM m below meth c A H locs F hr hlk hnm hK hP hD hS hA hAb ls hl
  have hl : lv_has ls 6 [(0, .ref (ax 0)), (1, .int p1), (2, .int p2), (3, .int p3), (4, .int p4), (5, .int p5)] := hl
  unfold F_X8_between at h
  refine lv_iload_n F.1 F.2.1 (dd D_X8_between 0 rfl) rfl (lv_at hl 1 rfl) ?_
  refine lv_iload_n F.1 F.2.1 (dd D_X8_between 1 rfl) rfl (lv_at hl 2 rfl) ?_
  refine ro_go (st' := [.int (bI (F_X8_areDays p1 p2))]) (rS (rest := []) F (c_X8_areDays D cA p1 p2 l) lk_X8_260 (Nat.le_of_ble_eq_true rfl) (preRO hK hS hAb (emP)) rfl hl rfl (Nat.le_of_ble_eq_true rfl) (dd D_X8_between 2 rfl) ⟨Nat.le_of_ble_eq_true rfl, Nat.le_of_ble_eq_true rfl⟩) rfl ?_
  refine x_bif_eq (tgt := 37) F.1 F.2.1 (dd D_X8_between 3 rfl) rfl h (fun c17 h => ?_) (fun c17 h => ?_)
  · refine lv_aload_n F.1 F.2.1 (dd D_X8_between 17 rfl) rfl (lv_at hl 0 rfl) ?_
    refine lv_bipush (v := (-2 : Int32)) F.1 F.2.1 (dd D_X8_between 18 rfl) kb_m2 ?_
    obtain ⟨r1, e2, h⟩ := Option.bind_eq_some_iff.mp h
    refine rwe_all (st' := [.int r1.1]) hD hS hA (rV (rest := []) F (c_X8_refuse D cA ax s n (-2 : Int32) r1 e2 l H.size) lk_X8_64 (Nat.le_of_ble_eq_true rfl) (preRW hK hS hAb hP hD) (rcv_8 hK hP (q0 := (0)) (xp_0 cA ax s)) rfl hl rfl (Nat.le_of_ble_eq_true rfl) (dd D_X8_between 19 rfl) ⟨Nat.le_of_ble_eq_true rfl, Nat.le_of_ble_eq_true rfl⟩) rfl (fun H locs hP hD hS => ?_)
    obtain rfl := Option.some.inj h
    exact rw_i (R := rmOf 6 1 5) F hP hD hS hr hlk ⟨Nat.le_of_ble_eq_true rfl, Nat.le_of_ble_eq_true rfl⟩ ⟨rfl, rfl⟩ (dd D_X8_between 20 rfl)
  · refine lv_iload_n F.1 F.2.1 (dd D_X8_between 4 rfl) rfl (lv_at hl 3 rfl) ?_
    refine lv_iconst (v := (0 : Int32)) F.1 F.2.1 (dd D_X8_between 5 rfl) ki_0 ?_
    refine lv_sipush (v := (999 : Int32)) F.1 F.2.1 (dd D_X8_between 6 rfl) ks_999 ?_
    refine ro_go (st' := [.int (bI (F_X8_isIn p3 (0 : Int32) (999 : Int32)))]) (rS (rest := []) F (c_X8_isIn D cA p3 (0 : Int32) (999 : Int32) l) lk_X8_60 (Nat.le_of_ble_eq_true rfl) (preRO hK hS hAb (emP)) rfl hl rfl (Nat.le_of_ble_eq_true rfl) (dd D_X8_between 7 rfl) ⟨Nat.le_of_ble_eq_true rfl, Nat.le_of_ble_eq_true rfl⟩) rfl ?_
    refine x_bif_eq (tgt := 37) F.1 F.2.1 (dd D_X8_between 8 rfl) rfl h (fun c16 h => ?_) (fun c16 h => ?_)
    · refine lv_aload_n F.1 F.2.1 (dd D_X8_between 17 rfl) rfl (lv_at hl 0 rfl) ?_
      refine lv_bipush (v := (-2 : Int32)) F.1 F.2.1 (dd D_X8_between 18 rfl) kb_m2 ?_
      obtain ⟨r3, e4, h⟩ := Option.bind_eq_some_iff.mp h
      refine rwe_all (st' := [.int r3.1]) hD hS hA (rV (rest := []) F (c_X8_refuse D cA ax s n (-2 : Int32) r3 e4 l H.size) lk_X8_64 (Nat.le_of_ble_eq_true rfl) (preRW hK hS hAb hP hD) (rcv_8 hK hP (q0 := (0)) (xp_0 cA ax s)) rfl hl rfl (Nat.le_of_ble_eq_true rfl) (dd D_X8_between 19 rfl) ⟨Nat.le_of_ble_eq_true rfl, Nat.le_of_ble_eq_true rfl⟩) rfl (fun H locs hP hD hS => ?_)
      obtain rfl := Option.some.inj h
      exact rw_i (R := rmOf 6 1 5) F hP hD hS hr hlk ⟨Nat.le_of_ble_eq_true rfl, Nat.le_of_ble_eq_true rfl⟩ ⟨rfl, rfl⟩ (dd D_X8_between 20 rfl)
    · refine lv_iload F.1 F.2.1 (dd D_X8_between 9 rfl) (lv_at hl 4 rfl) ?_
      refine lv_iload_n F.1 F.2.1 (dd D_X8_between 10 rfl) rfl (lv_at hl 3 rfl) ?_
      refine lv_sipush (v := (999 : Int32)) F.1 F.2.1 (dd D_X8_between 11 rfl) ks_999 ?_
      refine ro_go (st' := [.int (bI (F_X8_isIn p4 p3 (999 : Int32)))]) (rS (rest := []) F (c_X8_isIn D cA p4 p3 (999 : Int32) l) lk_X8_60 (Nat.le_of_ble_eq_true rfl) (preRO hK hS hAb (emP)) rfl hl rfl (Nat.le_of_ble_eq_true rfl) (dd D_X8_between 12 rfl) ⟨Nat.le_of_ble_eq_true rfl, Nat.le_of_ble_eq_true rfl⟩) rfl ?_
      refine x_bif_eq (tgt := 37) F.1 F.2.1 (dd D_X8_between 13 rfl) rfl h (fun c15 h => ?_) (fun c15 h => ?_)
      · refine lv_aload_n F.1 F.2.1 (dd D_X8_between 17 rfl) rfl (lv_at hl 0 rfl) ?_
        refine lv_bipush (v := (-2 : Int32)) F.1 F.2.1 (dd D_X8_between 18 rfl) kb_m2 ?_
        obtain ⟨r5, e6, h⟩ := Option.bind_eq_some_iff.mp h
        refine rwe_all (st' := [.int r5.1]) hD hS hA (rV (rest := []) F (c_X8_refuse D cA ax s n (-2 : Int32) r5 e6 l H.size) lk_X8_64 (Nat.le_of_ble_eq_true rfl) (preRW hK hS hAb hP hD) (rcv_8 hK hP (q0 := (0)) (xp_0 cA ax s)) rfl hl rfl (Nat.le_of_ble_eq_true rfl) (dd D_X8_between 19 rfl) ⟨Nat.le_of_ble_eq_true rfl, Nat.le_of_ble_eq_true rfl⟩) rfl (fun H locs hP hD hS => ?_)
        obtain rfl := Option.some.inj h
        exact rw_i (R := rmOf 6 1 5) F hP hD hS hr hlk ⟨Nat.le_of_ble_eq_true rfl, Nat.le_of_ble_eq_true rfl⟩ ⟨rfl, rfl⟩ (dd D_X8_between 20 rfl)
      · refine lv_iload F.1 F.2.1 (dd D_X8_between 14 rfl) (lv_at hl 5 rfl) ?_
        refine lv_iconst (v := (-1 : Int32)) F.1 F.2.1 (dd D_X8_between 15 rfl) ki_m1 ?_
        refine x_icmp_ge (tgt := 44) F.1 F.2.1 (dd D_X8_between 16 rfl) rfl h (fun c7 h => ?_) (fun c7 h => ?_)
        · refine lv_aload_n F.1 F.2.1 (dd D_X8_between 21 rfl) rfl (lv_at hl 0 rfl) ?_
          refine lv_aload_n F.1 F.2.1 (dd D_X8_between 22 rfl) rfl (lv_at hl 0 rfl) ?_
          refine getF F hK hP lf_X8_27 (0) (xp_0 cA ax s) rfl (dd D_X8_between 23 rfl) ?_
          refine lv_iload_n F.1 F.2.1 (dd D_X8_between 24 rfl) rfl (lv_at hl 1 rfl) ?_
          refine lv_iload_n F.1 F.2.1 (dd D_X8_between 25 rfl) rfl (lv_at hl 2 rfl) ?_
          refine lv_iload F.1 F.2.1 (dd D_X8_between 26 rfl) (lv_at hl 5 rfl) ?_
          refine newO F hK hP hD hS hA ln_X8_132 (Nat.le_of_ble_eq_true rfl) (Nat.le_of_ble_eq_true rfl) (dd D_X8_between 27 rfl) (fun q8 H hP hD hS => ?_)
          refine lv_dup F.1 F.2.1 (dd D_X8_between 28 rfl) rfl ?_
          refine lv_bipush (v := (6 : Int32)) F.1 F.2.1 (dd D_X8_between 29 rfl) kb_6 ?_
          refine lv_iload_n F.1 F.2.1 (dd D_X8_between 30 rfl) rfl (lv_at hl 3 rfl) ?_
          refine lv_iload F.1 F.2.1 (dd D_X8_between 31 rfl) (lv_at hl 4 rfl) ?_
          refine lv_iconst (v := (0 : Int32)) F.1 F.2.1 (dd D_X8_between 32 rfl) ki_0 ?_
          refine rwe (V := none) (wc := [(q8, .inr (4, [.int (0 : Int32), .int (0 : Int32), .int (0 : Int32), .int (0 : Int32), .null]))]) (wc' := [(q8, .inr (4, [.int (6 : Int32), .int p3, .int p4, .int (0 : Int32), .null]))]) (st' := [.ref (q8), .int p5, .int p2, .int p1, .ref (ax 40), .ref (ax 0)]) (W' := (xW cA ax s) ++ [(q8, .inr (4, [.int (6 : Int32), .int p3, .int p4, .int (0 : Int32), .null]))]) hP hD hS hA [63] (jc_last (xp_len cA ax s)) (Nat_nd rfl) rfl (rI (rest := [.ref (q8), .int p5, .int p2, .int p1, .ref (ax 40), .ref (ax 0)]) F (c_X4_init__ D cA q8 (6 : Int32) p3 p4 (0 : Int32) l H.size) lk_X8_263 (Nat.le_of_ble_eq_true rfl) (preRW hK hS hAb (selP hP (jc_last (xp_len cA ax s))) (selD hD (Nat_nd rfl) (jc_last (xp_len cA ax s)))) rfl hl rfl (Nat.le_of_ble_eq_true rfl) (dd D_X8_between 33 rfl) ⟨Nat.le_of_ble_eq_true rfl, Nat.le_of_ble_eq_true rfl⟩) (js_last (xp_len cA ax s)) rfl (fun H locs hP hD hS => ?_)
          obtain ⟨r9, e10, h⟩ := Option.bind_eq_some_iff.mp h
          refine ro_go (st' := [.int r9, .ref (ax 0)]) (rV (rest := [.ref (ax 0)]) F (c_X2_pick D cA ax s q8 (6 : Int32) p3 p4 (0 : Int32) none n p1 p2 p5 r9 e10 l) lk_X8_256 (Nat.le_of_ble_eq_true rfl) (preRO hK hS hAb hP) (rcv_2 hK hP (q0 := (40)) (gL (xp_40 cA ax s))) rfl hl rfl (Nat.le_of_ble_eq_true rfl) (dd D_X8_between 34 rfl) ⟨Nat.le_of_ble_eq_true rfl, Nat.le_of_ble_eq_true rfl⟩) rfl ?_
          obtain ⟨r11, e12, h⟩ := Option.bind_eq_some_iff.mp h
          have hP := preP hP
          have hD := preD hD
          refine rwe_all (st' := [.int r11.1]) hD hS hA (rV (rest := []) F (c_X8_orStuck D cA ax s n r9 r11 e12 l H.size) lk_X8_266 (Nat.le_of_ble_eq_true rfl) (preRW hK hS hAb hP hD) (rcv_8 hK hP (q0 := (0)) (gL (xp_0 cA ax s))) rfl hl rfl (Nat.le_of_ble_eq_true rfl) (dd D_X8_between 35 rfl) ⟨Nat.le_of_ble_eq_true rfl, Nat.le_of_ble_eq_true rfl⟩) rfl (fun H locs hP hD hS => ?_)
          obtain rfl := Option.some.inj h
          exact rw_i (R := rmOf 6 1 5) F hP hD hS hr hlk ⟨Nat.le_of_ble_eq_true rfl, Nat.le_of_ble_eq_true rfl⟩ ⟨rfl, rfl⟩ (dd D_X8_between 36 rfl)
        · refine lv_aload_n F.1 F.2.1 (dd D_X8_between 17 rfl) rfl (lv_at hl 0 rfl) ?_
          refine lv_bipush (v := (-2 : Int32)) F.1 F.2.1 (dd D_X8_between 18 rfl) kb_m2 ?_
          obtain ⟨r13, e14, h⟩ := Option.bind_eq_some_iff.mp h
          refine rwe_all (st' := [.int r13.1]) hD hS hA (rV (rest := []) F (c_X8_refuse D cA ax s n (-2 : Int32) r13 e14 l H.size) lk_X8_64 (Nat.le_of_ble_eq_true rfl) (preRW hK hS hAb hP hD) (rcv_8 hK hP (q0 := (0)) (xp_0 cA ax s)) rfl hl rfl (Nat.le_of_ble_eq_true rfl) (dd D_X8_between 19 rfl) ⟨Nat.le_of_ble_eq_true rfl, Nat.le_of_ble_eq_true rfl⟩) rfl (fun H locs hP hD hS => ?_)
          obtain rfl := Option.some.inj h
          exact rw_i (R := rmOf 6 1 5) F hP hD hS hr hlk ⟨Nat.le_of_ble_eq_true rfl, Nat.le_of_ble_eq_true rfl⟩ ⟨rfl, rfl⟩ (dd D_X8_between 20 rfl)
def F_X8_alike (n : Nat) (s : XS) (p1 : Int32) : Option (Int32 × XS) := bf (F_X8_isIn p1 (0 : Int32) (9991 : Int32)) ((((F_X2_bestOf n s p1 (8 : Int32) (0 : Int32))).bind fun r1 => some (r1, s))) ((((F_X8_refuse n s (-2 : Int32))).bind fun r3 => some (r3.1, r3.2)))
set_option maxHeartbeats 4000000 in
set_option maxRecDepth 100000 in
theorem c_X8_alike (D : va_G) (cA : Nat → ClassId) (ax : Nat → Nat) (s : XS) (n : Nat) (p1 : Int32) (r : (Int32 × XS)) (h : F_X8_alike n s p1 = some r) : RW m_X8_alike 6 0 0 D cA [.ref (ax 0), .int p1] (xW cA ax s) (exq (some (.int r.1)) (xW cA ax r.2)) := by
  refine RW.ofW gy_X8_alike.2.2 (Nat.le_of_ble_eq_true rfl) ?_
  intro l p e sM m below meth c A H locs F hr hlk hnm hK hP hD hS hA hAb ls hl
  have hl : lv_has ls 2 [(0, .ref (ax 0)), (1, .int p1)] := hl
  unfold F_X8_alike at h
  refine lv_iload_n F.1 F.2.1 (dd D_X8_alike 0 rfl) rfl (lv_at hl 1 rfl) ?_
  refine lv_iconst (v := (0 : Int32)) F.1 F.2.1 (dd D_X8_alike 1 rfl) ki_0 ?_
  refine lv_sipush (v := (9991 : Int32)) F.1 F.2.1 (dd D_X8_alike 2 rfl) ks_9991 ?_
  refine ro_go (st' := [.int (bI (F_X8_isIn p1 (0 : Int32) (9991 : Int32)))]) (rS (rest := []) F (c_X8_isIn D cA p1 (0 : Int32) (9991 : Int32) l) lk_X8_60 (Nat.le_of_ble_eq_true rfl) (preRO hK hS hAb (emP)) rfl hl rfl (Nat.le_of_ble_eq_true rfl) (dd D_X8_alike 3 rfl) ⟨Nat.le_of_ble_eq_true rfl, Nat.le_of_ble_eq_true rfl⟩) rfl ?_
  refine x_bif_ne (tgt := 18) F.1 F.2.1 (dd D_X8_alike 4 rfl) rfl h (fun c5 h => ?_) (fun c5 h => ?_)
  · refine lv_aload_n F.1 F.2.1 (dd D_X8_alike 9 rfl) rfl (lv_at hl 0 rfl) ?_
    refine getF F hK hP lf_X8_27 (0) (xp_0 cA ax s) rfl (dd D_X8_alike 10 rfl) ?_
    refine lv_iload_n F.1 F.2.1 (dd D_X8_alike 11 rfl) rfl (lv_at hl 1 rfl) ?_
    refine lv_bipush (v := (8 : Int32)) F.1 F.2.1 (dd D_X8_alike 12 rfl) kb_8 ?_
    refine lv_iconst (v := (0 : Int32)) F.1 F.2.1 (dd D_X8_alike 13 rfl) ki_0 ?_
    obtain ⟨r1, e2, h⟩ := Option.bind_eq_some_iff.mp h
    refine ro_go (st' := [.int r1]) (rV (rest := []) F (c_X2_bestOf D cA ax s n p1 (8 : Int32) (0 : Int32) r1 e2 l) lk_X8_269 (Nat.le_of_ble_eq_true rfl) (preRO hK hS hAb hP) (rcv_2 hK hP (q0 := (40)) (xp_40 cA ax s)) rfl hl rfl (Nat.le_of_ble_eq_true rfl) (dd D_X8_alike 14 rfl) ⟨Nat.le_of_ble_eq_true rfl, Nat.le_of_ble_eq_true rfl⟩) rfl ?_
    obtain rfl := Option.some.inj h
    exact rw_i (R := rmOf 6 0 0) F hP hD hS hr hlk ⟨Nat.le_of_ble_eq_true rfl, Nat.le_of_ble_eq_true rfl⟩ ⟨rfl, rfl⟩ (dd D_X8_alike 15 rfl)
  · refine lv_aload_n F.1 F.2.1 (dd D_X8_alike 5 rfl) rfl (lv_at hl 0 rfl) ?_
    refine lv_bipush (v := (-2 : Int32)) F.1 F.2.1 (dd D_X8_alike 6 rfl) kb_m2 ?_
    obtain ⟨r3, e4, h⟩ := Option.bind_eq_some_iff.mp h
    refine rwe_all (st' := [.int r3.1]) hD hS hA (rV (rest := []) F (c_X8_refuse D cA ax s n (-2 : Int32) r3 e4 l H.size) lk_X8_64 (Nat.le_of_ble_eq_true rfl) (preRW hK hS hAb hP hD) (rcv_8 hK hP (q0 := (0)) (xp_0 cA ax s)) rfl hl rfl (Nat.le_of_ble_eq_true rfl) (dd D_X8_alike 7 rfl) ⟨Nat.le_of_ble_eq_true rfl, Nat.le_of_ble_eq_true rfl⟩) rfl (fun H locs hP hD hS => ?_)
    obtain rfl := Option.some.inj h
    exact rw_i (R := rmOf 6 0 0) F hP hD hS hr hlk ⟨Nat.le_of_ble_eq_true rfl, Nat.le_of_ble_eq_true rfl⟩ ⟨rfl, rfl⟩ (dd D_X8_alike 8 rfl)
def F_X8_farthest (n : Nat) (s : XS) (p1 : Int32) (p2 : Int32) : Option (Int32 × XS) := bf (F_X8_areDays p1 p2) ((((F_X2_bestOf n s p1 p2 (1 : Int32))).bind fun r3 => some (r3, s))) ((((F_X8_refuse n s (-2 : Int32))).bind fun r1 => some (r1.1, r1.2)))
set_option maxHeartbeats 4000000 in
set_option maxRecDepth 100000 in
theorem c_X8_farthest (D : va_G) (cA : Nat → ClassId) (ax : Nat → Nat) (s : XS) (n : Nat) (p1 : Int32) (p2 : Int32) (r : (Int32 × XS)) (h : F_X8_farthest n s p1 p2 = some r) : RW m_X8_farthest 6 0 0 D cA [.ref (ax 0), .int p1, .int p2] (xW cA ax s) (exq (some (.int r.1)) (xW cA ax r.2)) := by
  refine RW.ofW gy_X8_farthest.2.2 (Nat.le_of_ble_eq_true rfl) ?_
  intro l p e sM m below meth c A H locs F hr hlk hnm hK hP hD hS hA hAb ls hl
  have hl : lv_has ls 3 [(0, .ref (ax 0)), (1, .int p1), (2, .int p2)] := hl
  unfold F_X8_farthest at h
  refine lv_iload_n F.1 F.2.1 (dd D_X8_farthest 0 rfl) rfl (lv_at hl 1 rfl) ?_
  refine lv_iload_n F.1 F.2.1 (dd D_X8_farthest 1 rfl) rfl (lv_at hl 2 rfl) ?_
  refine ro_go (st' := [.int (bI (F_X8_areDays p1 p2))]) (rS (rest := []) F (c_X8_areDays D cA p1 p2 l) lk_X8_260 (Nat.le_of_ble_eq_true rfl) (preRO hK hS hAb (emP)) rfl hl rfl (Nat.le_of_ble_eq_true rfl) (dd D_X8_farthest 2 rfl) ⟨Nat.le_of_ble_eq_true rfl, Nat.le_of_ble_eq_true rfl⟩) rfl ?_
  refine x_bif_eq (tgt := 21) F.1 F.2.1 (dd D_X8_farthest 3 rfl) rfl h (fun c5 h => ?_) (fun c5 h => ?_)
  · refine lv_aload_n F.1 F.2.1 (dd D_X8_farthest 11 rfl) rfl (lv_at hl 0 rfl) ?_
    refine lv_bipush (v := (-2 : Int32)) F.1 F.2.1 (dd D_X8_farthest 12 rfl) kb_m2 ?_
    obtain ⟨r1, e2, h⟩ := Option.bind_eq_some_iff.mp h
    refine rwe_all (st' := [.int r1.1]) hD hS hA (rV (rest := []) F (c_X8_refuse D cA ax s n (-2 : Int32) r1 e2 l H.size) lk_X8_64 (Nat.le_of_ble_eq_true rfl) (preRW hK hS hAb hP hD) (rcv_8 hK hP (q0 := (0)) (xp_0 cA ax s)) rfl hl rfl (Nat.le_of_ble_eq_true rfl) (dd D_X8_farthest 13 rfl) ⟨Nat.le_of_ble_eq_true rfl, Nat.le_of_ble_eq_true rfl⟩) rfl (fun H locs hP hD hS => ?_)
    obtain rfl := Option.some.inj h
    exact rw_i (R := rmOf 6 0 0) F hP hD hS hr hlk ⟨Nat.le_of_ble_eq_true rfl, Nat.le_of_ble_eq_true rfl⟩ ⟨rfl, rfl⟩ (dd D_X8_farthest 14 rfl)
  · refine lv_aload_n F.1 F.2.1 (dd D_X8_farthest 4 rfl) rfl (lv_at hl 0 rfl) ?_
    refine getF F hK hP lf_X8_27 (0) (xp_0 cA ax s) rfl (dd D_X8_farthest 5 rfl) ?_
    refine lv_iload_n F.1 F.2.1 (dd D_X8_farthest 6 rfl) rfl (lv_at hl 1 rfl) ?_
    refine lv_iload_n F.1 F.2.1 (dd D_X8_farthest 7 rfl) rfl (lv_at hl 2 rfl) ?_
    refine lv_iconst (v := (1 : Int32)) F.1 F.2.1 (dd D_X8_farthest 8 rfl) ki_1 ?_
    obtain ⟨r3, e4, h⟩ := Option.bind_eq_some_iff.mp h
    refine ro_go (st' := [.int r3]) (rV (rest := []) F (c_X2_bestOf D cA ax s n p1 p2 (1 : Int32) r3 e4 l) lk_X8_269 (Nat.le_of_ble_eq_true rfl) (preRO hK hS hAb hP) (rcv_2 hK hP (q0 := (40)) (xp_40 cA ax s)) rfl hl rfl (Nat.le_of_ble_eq_true rfl) (dd D_X8_farthest 9 rfl) ⟨Nat.le_of_ble_eq_true rfl, Nat.le_of_ble_eq_true rfl⟩) rfl ?_
    refine lv_goto (tgt := 27) F.1 F.2.1 (dd D_X8_farthest 10 rfl) rfl ?_
    obtain rfl := Option.some.inj h
    exact rw_i (R := rmOf 6 0 0) F hP hD hS hr hlk ⟨Nat.le_of_ble_eq_true rfl, Nat.le_of_ble_eq_true rfl⟩ ⟨rfl, rfl⟩ (dd D_X8_farthest 14 rfl)
def F_X8_grows (n : Nat) (s : XS) (p1 : Int32) : Option (Int32 × XS) := bf (F_X8_isDay p1) ((if (1476 : Int32) < (F_X2_ageOf s p1) then some ((0 : Int32), s) else some ((1 : Int32), s))) ((((F_X8_refuse n s (-2 : Int32))).bind fun r2 => some (r2.1, r2.2)))
set_option maxHeartbeats 4000000 in
set_option maxRecDepth 100000 in
theorem c_X8_grows (D : va_G) (cA : Nat → ClassId) (ax : Nat → Nat) (s : XS) (n : Nat) (p1 : Int32) (r : (Int32 × XS)) (h : F_X8_grows n s p1 = some r) : RW m_X8_grows 2 0 0 D cA [.ref (ax 0), .int p1] (xW cA ax s) (exq (some (.int r.1)) (xW cA ax r.2)) := by
  refine RW.ofW gy_X8_grows.2.2 (Nat.le_of_ble_eq_true rfl) ?_
  intro l p e sM m below meth c A H locs F hr hlk hnm hK hP hD hS hA hAb ls hl
  have hl : lv_has ls 2 [(0, .ref (ax 0)), (1, .int p1)] := hl
  unfold F_X8_grows at h
  refine lv_iload_n F.1 F.2.1 (dd D_X8_grows 0 rfl) rfl (lv_at hl 1 rfl) ?_
  refine ro_go (st' := [.int (bI (F_X8_isDay p1))]) (rS (rest := []) F (c_X8_isDay D cA p1 l) lk_X8_113 (Nat.le_of_ble_eq_true rfl) (preRO hK hS hAb (emP)) rfl hl rfl (Nat.le_of_ble_eq_true rfl) (dd D_X8_grows 1 rfl) ⟨Nat.le_of_ble_eq_true rfl, Nat.le_of_ble_eq_true rfl⟩) rfl ?_
  refine x_bif_ne (tgt := 14) F.1 F.2.1 (dd D_X8_grows 2 rfl) rfl h (fun c4 h => ?_) (fun c4 h => ?_)
  · refine lv_aload_n F.1 F.2.1 (dd D_X8_grows 7 rfl) rfl (lv_at hl 0 rfl) ?_
    refine getF F hK hP lf_X8_27 (0) (xp_0 cA ax s) rfl (dd D_X8_grows 8 rfl) ?_
    refine lv_iload_n F.1 F.2.1 (dd D_X8_grows 9 rfl) rfl (lv_at hl 1 rfl) ?_
    refine ro_go (st' := [.int (F_X2_ageOf s p1)]) (rV (rest := []) F (c_X2_ageOf D cA ax s p1 l) lk_X8_210 (Nat.le_of_ble_eq_true rfl) (preRO hK hS hAb hP) (rcv_2 hK hP (q0 := (40)) (xp_40 cA ax s)) rfl hl rfl (Nat.le_of_ble_eq_true rfl) (dd D_X8_grows 10 rfl) ⟨Nat.le_of_ble_eq_true rfl, Nat.le_of_ble_eq_true rfl⟩) rfl ?_
    refine lv_sipush (v := (1476 : Int32)) F.1 F.2.1 (dd D_X8_grows 11 rfl) ks_1476 ?_
    refine x_icmp_gt (tgt := 32) F.1 F.2.1 (dd D_X8_grows 12 rfl) rfl h (fun c1 h => ?_) (fun c1 h => ?_)
    · refine lv_iconst (v := (0 : Int32)) F.1 F.2.1 (dd D_X8_grows 15 rfl) ki_0 ?_
      obtain rfl := Option.some.inj h
      exact rw_i (R := rmOf 2 0 0) F hP hD hS hr hlk ⟨Nat.le_of_ble_eq_true rfl, Nat.le_of_ble_eq_true rfl⟩ ⟨rfl, rfl⟩ (dd D_X8_grows 16 rfl)
    · refine lv_iconst (v := (1 : Int32)) F.1 F.2.1 (dd D_X8_grows 13 rfl) ki_1 ?_
      refine lv_goto (tgt := 33) F.1 F.2.1 (dd D_X8_grows 14 rfl) rfl ?_
      obtain rfl := Option.some.inj h
      exact rw_i (R := rmOf 2 0 0) F hP hD hS hr hlk ⟨Nat.le_of_ble_eq_true rfl, Nat.le_of_ble_eq_true rfl⟩ ⟨rfl, rfl⟩ (dd D_X8_grows 16 rfl)
  · refine lv_aload_n F.1 F.2.1 (dd D_X8_grows 3 rfl) rfl (lv_at hl 0 rfl) ?_
    refine lv_bipush (v := (-2 : Int32)) F.1 F.2.1 (dd D_X8_grows 4 rfl) kb_m2 ?_
    obtain ⟨r2, e3, h⟩ := Option.bind_eq_some_iff.mp h
    refine rwe_all (st' := [.int r2.1]) hD hS hA (rV (rest := []) F (c_X8_refuse D cA ax s n (-2 : Int32) r2 e3 l H.size) lk_X8_64 (Nat.le_of_ble_eq_true rfl) (preRW hK hS hAb hP hD) (rcv_8 hK hP (q0 := (0)) (xp_0 cA ax s)) rfl hl rfl (Nat.le_of_ble_eq_true rfl) (dd D_X8_grows 5 rfl) ⟨Nat.le_of_ble_eq_true rfl, Nat.le_of_ble_eq_true rfl⟩) rfl (fun H locs hP hD hS => ?_)
    obtain rfl := Option.some.inj h
    exact rw_i (R := rmOf 2 0 0) F hP hD hS hr hlk ⟨Nat.le_of_ble_eq_true rfl, Nat.le_of_ble_eq_true rfl⟩ ⟨rfl, rfl⟩ (dd D_X8_grows 6 rfl)
def F_X8_lights_L46 (n : Nat) (u0 : XS) (v1 : Int32) (v2 : Int32) (v3 : Int32) (v4 : Int32) (v6 : Int32) : Nat → Int32 → Int32 → Option (Int32 × XS)
  | 0, _, _ => none
  | kf + 1, w5, w7 => (if v6 < w7 then some (w5, u0) else (((F_X2_lightOf n u0 w7 v3 v4)).bind fun r6 => F_X8_lights_L46 n u0 v1 v2 v3 v4 v6 kf (w5 + r6) (w7 + (1 : Int32))))
def F_X8_lights (n : Nat) (s : XS) (p1 : Int32) (p2 : Int32) (p3 : Int32) (p4 : Int32) : Option (Int32 × XS) := bf (F_X8_isDay p1) (bf (F_X8_isIn p2 (1 : Int32) (40 : Int32)) (bf (F_X8_areMinutes p3 p4) (F_X8_lights_L46 n s p1 p2 p3 p4 (F_X2_lastOf p1 p2) n (0 : Int32) p1) ((((F_X8_refuse n s (-2 : Int32))).bind fun r12 => some (r12.1, r12.2)))) ((((F_X8_refuse n s (-2 : Int32))).bind fun r3 => some (r3.1, r3.2)))) ((((F_X8_refuse n s (-2 : Int32))).bind fun r1 => some (r1.1, r1.2)))
set_option maxHeartbeats 4000000 in
set_option maxRecDepth 100000 in
theorem c_X8_lights (D : va_G) (cA : Nat → ClassId) (ax : Nat → Nat) (s : XS) (n : Nat) (p1 : Int32) (p2 : Int32) (p3 : Int32) (p4 : Int32) (r : (Int32 × XS)) (h : F_X8_lights n s p1 p2 p3 p4 = some r) : RW m_X8_lights 4 0 0 D cA [.ref (ax 0), .int p1, .int p2, .int p3, .int p4] (xW cA ax s) (exq (some (.int r.1)) (xW cA ax r.2)) := by
  refine RW.ofW gy_X8_lights.2.2 (Nat.le_of_ble_eq_true rfl) ?_
  intro l p e sM m below meth c A H locs F hr hlk hnm hK hP hD hS hA hAb ls hl
  have hl : lv_has ls 8 [(0, .ref (ax 0)), (1, .int p1), (2, .int p2), (3, .int p3), (4, .int p4)] := hl
  unfold F_X8_lights at h
  refine lv_iload_n F.1 F.2.1 (dd D_X8_lights 0 rfl) rfl (lv_at hl 1 rfl) ?_
  refine ro_go (st' := [.int (bI (F_X8_isDay p1))]) (rS (rest := []) F (c_X8_isDay D cA p1 l) lk_X8_113 (Nat.le_of_ble_eq_true rfl) (preRO hK hS hAb (emP)) rfl hl rfl (Nat.le_of_ble_eq_true rfl) (dd D_X8_lights 1 rfl) ⟨Nat.le_of_ble_eq_true rfl, Nat.le_of_ble_eq_true rfl⟩) rfl ?_
  refine x_bif_eq (tgt := 26) F.1 F.2.1 (dd D_X8_lights 2 rfl) rfl h (fun c16 h => ?_) (fun c16 h => ?_)
  · refine lv_aload_n F.1 F.2.1 (dd D_X8_lights 12 rfl) rfl (lv_at hl 0 rfl) ?_
    refine lv_bipush (v := (-2 : Int32)) F.1 F.2.1 (dd D_X8_lights 13 rfl) kb_m2 ?_
    obtain ⟨r1, e2, h⟩ := Option.bind_eq_some_iff.mp h
    refine rwe_all (st' := [.int r1.1]) hD hS hA (rV (rest := []) F (c_X8_refuse D cA ax s n (-2 : Int32) r1 e2 l H.size) lk_X8_64 (Nat.le_of_ble_eq_true rfl) (preRW hK hS hAb hP hD) (rcv_8 hK hP (q0 := (0)) (xp_0 cA ax s)) rfl hl rfl (Nat.le_of_ble_eq_true rfl) (dd D_X8_lights 14 rfl) ⟨Nat.le_of_ble_eq_true rfl, Nat.le_of_ble_eq_true rfl⟩) rfl (fun H locs hP hD hS => ?_)
    obtain rfl := Option.some.inj h
    exact rw_i (R := rmOf 4 0 0) F hP hD hS hr hlk ⟨Nat.le_of_ble_eq_true rfl, Nat.le_of_ble_eq_true rfl⟩ ⟨rfl, rfl⟩ (dd D_X8_lights 15 rfl)
  · refine lv_iload_n F.1 F.2.1 (dd D_X8_lights 3 rfl) rfl (lv_at hl 2 rfl) ?_
    refine lv_iconst (v := (1 : Int32)) F.1 F.2.1 (dd D_X8_lights 4 rfl) ki_1 ?_
    refine lv_bipush (v := (40 : Int32)) F.1 F.2.1 (dd D_X8_lights 5 rfl) kb_40 ?_
    refine ro_go (st' := [.int (bI (F_X8_isIn p2 (1 : Int32) (40 : Int32)))]) (rS (rest := []) F (c_X8_isIn D cA p2 (1 : Int32) (40 : Int32) l) lk_X8_60 (Nat.le_of_ble_eq_true rfl) (preRO hK hS hAb (emP)) rfl hl rfl (Nat.le_of_ble_eq_true rfl) (dd D_X8_lights 6 rfl) ⟨Nat.le_of_ble_eq_true rfl, Nat.le_of_ble_eq_true rfl⟩) rfl ?_
    refine x_bif_eq (tgt := 26) F.1 F.2.1 (dd D_X8_lights 7 rfl) rfl h (fun c15 h => ?_) (fun c15 h => ?_)
    · refine lv_aload_n F.1 F.2.1 (dd D_X8_lights 12 rfl) rfl (lv_at hl 0 rfl) ?_
      refine lv_bipush (v := (-2 : Int32)) F.1 F.2.1 (dd D_X8_lights 13 rfl) kb_m2 ?_
      obtain ⟨r3, e4, h⟩ := Option.bind_eq_some_iff.mp h
      refine rwe_all (st' := [.int r3.1]) hD hS hA (rV (rest := []) F (c_X8_refuse D cA ax s n (-2 : Int32) r3 e4 l H.size) lk_X8_64 (Nat.le_of_ble_eq_true rfl) (preRW hK hS hAb hP hD) (rcv_8 hK hP (q0 := (0)) (xp_0 cA ax s)) rfl hl rfl (Nat.le_of_ble_eq_true rfl) (dd D_X8_lights 14 rfl) ⟨Nat.le_of_ble_eq_true rfl, Nat.le_of_ble_eq_true rfl⟩) rfl (fun H locs hP hD hS => ?_)
      obtain rfl := Option.some.inj h
      exact rw_i (R := rmOf 4 0 0) F hP hD hS hr hlk ⟨Nat.le_of_ble_eq_true rfl, Nat.le_of_ble_eq_true rfl⟩ ⟨rfl, rfl⟩ (dd D_X8_lights 15 rfl)
    · refine lv_iload_n F.1 F.2.1 (dd D_X8_lights 8 rfl) rfl (lv_at hl 3 rfl) ?_
      refine lv_iload F.1 F.2.1 (dd D_X8_lights 9 rfl) (lv_at hl 4 rfl) ?_
      refine ro_go (st' := [.int (bI (F_X8_areMinutes p3 p4))]) (rS (rest := []) F (c_X8_areMinutes D cA p3 p4 l) lk_X8_246 (Nat.le_of_ble_eq_true rfl) (preRO hK hS hAb (emP)) rfl hl rfl (Nat.le_of_ble_eq_true rfl) (dd D_X8_lights 10 rfl) ⟨Nat.le_of_ble_eq_true rfl, Nat.le_of_ble_eq_true rfl⟩) rfl ?_
      refine x_bif_ne (tgt := 33) F.1 F.2.1 (dd D_X8_lights 11 rfl) rfl h (fun c14 h => ?_) (fun c14 h => ?_)
      · refine lv_iconst (v := (0 : Int32)) F.1 F.2.1 (dd D_X8_lights 16 rfl) ki_0 ?_
        refine lv_istore (lv' := [(5, .int (0 : Int32)), (0, .ref (ax 0)), (1, .int p1), (2, .int p2), (3, .int p3), (4, .int p4)]) F.1 F.2.1 (dd D_X8_lights 17 rfl) hl (Nat.le_of_ble_eq_true rfl) rfl (fun ls hl => ?_)
        refine lv_iload_n F.1 F.2.1 (dd D_X8_lights 18 rfl) rfl (lv_at hl 2 rfl) ?_
        refine lv_iload_n F.1 F.2.1 (dd D_X8_lights 19 rfl) rfl (lv_at hl 3 rfl) ?_
        refine ro_go (st' := [.int (F_X2_lastOf p1 p2)]) (rS (rest := []) F (c_X2_lastOf D cA p1 p2 l) lk_X8_272 (Nat.le_of_ble_eq_true rfl) (preRO hK hS hAb (emP)) rfl hl rfl (Nat.le_of_ble_eq_true rfl) (dd D_X8_lights 20 rfl) ⟨Nat.le_of_ble_eq_true rfl, Nat.le_of_ble_eq_true rfl⟩) rfl ?_
        refine lv_istore (lv' := [(6, .int (F_X2_lastOf p1 p2)), (5, .int (0 : Int32)), (0, .ref (ax 0)), (1, .int p1), (2, .int p2), (3, .int p3), (4, .int p4)]) F.1 F.2.1 (dd D_X8_lights 21 rfl) hl (Nat.le_of_ble_eq_true rfl) rfl (fun ls hl => ?_)
        refine lv_iload_n F.1 F.2.1 (dd D_X8_lights 22 rfl) rfl (lv_at hl 3 rfl) ?_
        refine lv_istore (lv' := [(7, .int p1), (6, .int (F_X2_lastOf p1 p2)), (5, .int (0 : Int32)), (0, .ref (ax 0)), (1, .int p1), (2, .int p2), (3, .int p3), (4, .int p4)]) F.1 F.2.1 (dd D_X8_lights 23 rfl) hl (Nat.le_of_ble_eq_true rfl) rfl (fun ls hl => ?_)
        have L8 : ∀ (kf : Nat) (w5_L8 : Int32) (w7_L8 : Int32) (H : Heap) (locs : List Loc) (ls : Array Slot), va_P D vwCl (xW cA ax s) H → va_D A (xW cA ax s) → va_S A sM.heap H locs → lv_has ls 8 [(0, .ref (ax 0)), (1, .int p1), (2, .int p2), (3, .int p3), (4, .int p4), (6, .int (F_X2_lastOf p1 p2)), (5, .int w5_L8), (7, .int w7_L8)] → F_X8_lights_L46 n s p1 p2 p3 p4 (F_X2_lastOf p1 p2) kf w5_L8 w7_L8 = some r → Wrw 4 0 0 D A (exq (some (.int r.1)) (xW cA ax r.2)) p l e sM m ([.ref (ax 0), .int p1, .int p2, .int p3, .int p4] : List Value).toArray below meth c H locs 0 0 46 ls [] := by
          intro kf
          induction kf with
          | zero =>
            intro w5_L8 w7_L8 H locs ls hP hD hS hl h
            cases (show none = some r from h)
          | succ k_L8 ih_L8 =>
            intro w5_L8 w7_L8 H locs ls hP hD hS hl h
            unfold F_X8_lights_L46 at h
            refine lv_iload F.1 F.2.1 (dd D_X8_lights 24 rfl) (lv_at hl 7 rfl) ?_
            refine lv_iload F.1 F.2.1 (dd D_X8_lights 25 rfl) (lv_at hl 5 rfl) ?_
            refine x_icmp_gt (tgt := 76) F.1 F.2.1 (dd D_X8_lights 26 rfl) rfl h (fun c9 h => ?_) (fun c9 h => ?_)
            · refine lv_iload F.1 F.2.1 (dd D_X8_lights 38 rfl) (lv_at hl 6 rfl) ?_
              obtain rfl := Option.some.inj h
              exact rw_i (R := rmOf 4 0 0) F hP hD hS hr hlk ⟨Nat.le_of_ble_eq_true rfl, Nat.le_of_ble_eq_true rfl⟩ ⟨rfl, rfl⟩ (dd D_X8_lights 39 rfl)
            · refine lv_iload F.1 F.2.1 (dd D_X8_lights 27 rfl) (lv_at hl 6 rfl) ?_
              refine lv_aload_n F.1 F.2.1 (dd D_X8_lights 28 rfl) rfl (lv_at hl 0 rfl) ?_
              refine getF F hK hP lf_X8_27 (0) (xp_0 cA ax s) rfl (dd D_X8_lights 29 rfl) ?_
              refine lv_iload F.1 F.2.1 (dd D_X8_lights 30 rfl) (lv_at hl 7 rfl) ?_
              refine lv_iload_n F.1 F.2.1 (dd D_X8_lights 31 rfl) rfl (lv_at hl 3 rfl) ?_
              refine lv_iload F.1 F.2.1 (dd D_X8_lights 32 rfl) (lv_at hl 4 rfl) ?_
              obtain ⟨r10, e11, h⟩ := Option.bind_eq_some_iff.mp h
              refine ro_go (st' := [.int r10, .int w5_L8]) (rV (rest := [.int w5_L8]) F (c_X2_lightOf D cA ax s n w7_L8 p3 p4 r10 e11 l) lk_X8_253 (Nat.le_of_ble_eq_true rfl) (preRO hK hS hAb hP) (rcv_2 hK hP (q0 := (40)) (xp_40 cA ax s)) rfl hl rfl (Nat.le_of_ble_eq_true rfl) (dd D_X8_lights 33 rfl) ⟨Nat.le_of_ble_eq_true rfl, Nat.le_of_ble_eq_true rfl⟩) rfl ?_
              refine lv_iadd F.1 F.2.1 (dd D_X8_lights 34 rfl) ?_
              refine lv_istore (lv' := [(5, .int (w5_L8 + r10)), (0, .ref (ax 0)), (1, .int p1), (2, .int p2), (3, .int p3), (4, .int p4), (6, .int (F_X2_lastOf p1 p2)), (7, .int w7_L8)]) F.1 F.2.1 (dd D_X8_lights 35 rfl) hl (Nat.le_of_ble_eq_true rfl) rfl (fun ls hl => ?_)
              refine lv_iinc (v := (w7_L8 + (1 : Int32))) (lv' := [(7, .int (w7_L8 + (1 : Int32))), (5, .int (w5_L8 + r10)), (0, .ref (ax 0)), (1, .int p1), (2, .int p2), (3, .int p3), (4, .int p4), (6, .int (F_X2_lastOf p1 p2))]) F.1 F.2.1 (dd D_X8_lights 36 rfl) hl (k := 7) rfl (congrArg (fun z => w7_L8 + z) ki_1) (Nat.le_of_ble_eq_true rfl) rfl (fun ls hl => ?_)
              refine lv_goto (tgt := 46) F.1 F.2.1 (dd D_X8_lights 37 rfl) rfl ?_
              exact ih_L8 (w5_L8 + r10) (w7_L8 + (1 : Int32)) _ _ ls hP hD hS (lv_sub hl [2, 3, 4, 5, 6, 7, 1, 0] rfl) h
        exact L8 n (0 : Int32) p1 _ _ ls hP hD hS (lv_sub hl [3, 4, 5, 6, 7, 1, 2, 0] rfl) h
      · refine lv_aload_n F.1 F.2.1 (dd D_X8_lights 12 rfl) rfl (lv_at hl 0 rfl) ?_
        refine lv_bipush (v := (-2 : Int32)) F.1 F.2.1 (dd D_X8_lights 13 rfl) kb_m2 ?_
        obtain ⟨r12, e13, h⟩ := Option.bind_eq_some_iff.mp h
        refine rwe_all (st' := [.int r12.1]) hD hS hA (rV (rest := []) F (c_X8_refuse D cA ax s n (-2 : Int32) r12 e13 l H.size) lk_X8_64 (Nat.le_of_ble_eq_true rfl) (preRW hK hS hAb hP hD) (rcv_8 hK hP (q0 := (0)) (xp_0 cA ax s)) rfl hl rfl (Nat.le_of_ble_eq_true rfl) (dd D_X8_lights 14 rfl) ⟨Nat.le_of_ble_eq_true rfl, Nat.le_of_ble_eq_true rfl⟩) rfl (fun H locs hP hD hS => ?_)
        obtain rfl := Option.some.inj h
        exact rw_i (R := rmOf 4 0 0) F hP hD hS hr hlk ⟨Nat.le_of_ble_eq_true rfl, Nat.le_of_ble_eq_true rfl⟩ ⟨rfl, rfl⟩ (dd D_X8_lights 15 rfl)
def F_X8_soonest (n : Nat) (s : XS) (p1 : Int32) (p2 : Int32) : Option (Int32 × XS) := bf (F_X8_areDays p1 p2) ((((F_X2_bestOf n s p1 p2 (2 : Int32))).bind fun r3 => some (r3, s))) ((((F_X8_refuse n s (-2 : Int32))).bind fun r1 => some (r1.1, r1.2)))
set_option maxHeartbeats 4000000 in
set_option maxRecDepth 100000 in
theorem c_X8_soonest (D : va_G) (cA : Nat → ClassId) (ax : Nat → Nat) (s : XS) (n : Nat) (p1 : Int32) (p2 : Int32) (r : (Int32 × XS)) (h : F_X8_soonest n s p1 p2 = some r) : RW m_X8_soonest 6 0 0 D cA [.ref (ax 0), .int p1, .int p2] (xW cA ax s) (exq (some (.int r.1)) (xW cA ax r.2)) := by
  refine RW.ofW gy_X8_soonest.2.2 (Nat.le_of_ble_eq_true rfl) ?_
  intro l p e sM m below meth c A H locs F hr hlk hnm hK hP hD hS hA hAb ls hl
  have hl : lv_has ls 3 [(0, .ref (ax 0)), (1, .int p1), (2, .int p2)] := hl
  unfold F_X8_soonest at h
  refine lv_iload_n F.1 F.2.1 (dd D_X8_soonest 0 rfl) rfl (lv_at hl 1 rfl) ?_
  refine lv_iload_n F.1 F.2.1 (dd D_X8_soonest 1 rfl) rfl (lv_at hl 2 rfl) ?_
  refine ro_go (st' := [.int (bI (F_X8_areDays p1 p2))]) (rS (rest := []) F (c_X8_areDays D cA p1 p2 l) lk_X8_260 (Nat.le_of_ble_eq_true rfl) (preRO hK hS hAb (emP)) rfl hl rfl (Nat.le_of_ble_eq_true rfl) (dd D_X8_soonest 2 rfl) ⟨Nat.le_of_ble_eq_true rfl, Nat.le_of_ble_eq_true rfl⟩) rfl ?_
  refine x_bif_eq (tgt := 21) F.1 F.2.1 (dd D_X8_soonest 3 rfl) rfl h (fun c5 h => ?_) (fun c5 h => ?_)
  · refine lv_aload_n F.1 F.2.1 (dd D_X8_soonest 11 rfl) rfl (lv_at hl 0 rfl) ?_
    refine lv_bipush (v := (-2 : Int32)) F.1 F.2.1 (dd D_X8_soonest 12 rfl) kb_m2 ?_
    obtain ⟨r1, e2, h⟩ := Option.bind_eq_some_iff.mp h
    refine rwe_all (st' := [.int r1.1]) hD hS hA (rV (rest := []) F (c_X8_refuse D cA ax s n (-2 : Int32) r1 e2 l H.size) lk_X8_64 (Nat.le_of_ble_eq_true rfl) (preRW hK hS hAb hP hD) (rcv_8 hK hP (q0 := (0)) (xp_0 cA ax s)) rfl hl rfl (Nat.le_of_ble_eq_true rfl) (dd D_X8_soonest 13 rfl) ⟨Nat.le_of_ble_eq_true rfl, Nat.le_of_ble_eq_true rfl⟩) rfl (fun H locs hP hD hS => ?_)
    obtain rfl := Option.some.inj h
    exact rw_i (R := rmOf 6 0 0) F hP hD hS hr hlk ⟨Nat.le_of_ble_eq_true rfl, Nat.le_of_ble_eq_true rfl⟩ ⟨rfl, rfl⟩ (dd D_X8_soonest 14 rfl)
  · refine lv_aload_n F.1 F.2.1 (dd D_X8_soonest 4 rfl) rfl (lv_at hl 0 rfl) ?_
    refine getF F hK hP lf_X8_27 (0) (xp_0 cA ax s) rfl (dd D_X8_soonest 5 rfl) ?_
    refine lv_iload_n F.1 F.2.1 (dd D_X8_soonest 6 rfl) rfl (lv_at hl 1 rfl) ?_
    refine lv_iload_n F.1 F.2.1 (dd D_X8_soonest 7 rfl) rfl (lv_at hl 2 rfl) ?_
    refine lv_iconst (v := (2 : Int32)) F.1 F.2.1 (dd D_X8_soonest 8 rfl) ki_2 ?_
    obtain ⟨r3, e4, h⟩ := Option.bind_eq_some_iff.mp h
    refine ro_go (st' := [.int r3]) (rV (rest := []) F (c_X2_bestOf D cA ax s n p1 p2 (2 : Int32) r3 e4 l) lk_X8_269 (Nat.le_of_ble_eq_true rfl) (preRO hK hS hAb hP) (rcv_2 hK hP (q0 := (40)) (xp_40 cA ax s)) rfl hl rfl (Nat.le_of_ble_eq_true rfl) (dd D_X8_soonest 9 rfl) ⟨Nat.le_of_ble_eq_true rfl, Nat.le_of_ble_eq_true rfl⟩) rfl ?_
    refine lv_goto (tgt := 27) F.1 F.2.1 (dd D_X8_soonest 10 rfl) rfl ?_
    obtain rfl := Option.some.inj h
    exact rw_i (R := rmOf 6 0 0) F hP hD hS hr hlk ⟨Nat.le_of_ble_eq_true rfl, Nat.le_of_ble_eq_true rfl⟩ ⟨rfl, rfl⟩ (dd D_X8_soonest 14 rfl)
def F_X8_brightest (n : Nat) (s : XS) (p1 : Int32) (p2 : Int32) : Option (Int32 × XS) := bf (F_X8_areDays p1 p2) ((((F_X2_bestOf n s p1 p2 (3 : Int32))).bind fun r3 => some (r3, s))) ((((F_X8_refuse n s (-2 : Int32))).bind fun r1 => some (r1.1, r1.2)))
set_option maxHeartbeats 4000000 in
set_option maxRecDepth 100000 in
theorem c_X8_brightest (D : va_G) (cA : Nat → ClassId) (ax : Nat → Nat) (s : XS) (n : Nat) (p1 : Int32) (p2 : Int32) (r : (Int32 × XS)) (h : F_X8_brightest n s p1 p2 = some r) : RW m_X8_brightest 6 0 0 D cA [.ref (ax 0), .int p1, .int p2] (xW cA ax s) (exq (some (.int r.1)) (xW cA ax r.2)) := by
  refine RW.ofW gy_X8_brightest.2.2 (Nat.le_of_ble_eq_true rfl) ?_
  intro l p e sM m below meth c A H locs F hr hlk hnm hK hP hD hS hA hAb ls hl
  have hl : lv_has ls 3 [(0, .ref (ax 0)), (1, .int p1), (2, .int p2)] := hl
  unfold F_X8_brightest at h
  refine lv_iload_n F.1 F.2.1 (dd D_X8_brightest 0 rfl) rfl (lv_at hl 1 rfl) ?_
  refine lv_iload_n F.1 F.2.1 (dd D_X8_brightest 1 rfl) rfl (lv_at hl 2 rfl) ?_
  refine ro_go (st' := [.int (bI (F_X8_areDays p1 p2))]) (rS (rest := []) F (c_X8_areDays D cA p1 p2 l) lk_X8_260 (Nat.le_of_ble_eq_true rfl) (preRO hK hS hAb (emP)) rfl hl rfl (Nat.le_of_ble_eq_true rfl) (dd D_X8_brightest 2 rfl) ⟨Nat.le_of_ble_eq_true rfl, Nat.le_of_ble_eq_true rfl⟩) rfl ?_
  refine x_bif_eq (tgt := 21) F.1 F.2.1 (dd D_X8_brightest 3 rfl) rfl h (fun c5 h => ?_) (fun c5 h => ?_)
  · refine lv_aload_n F.1 F.2.1 (dd D_X8_brightest 11 rfl) rfl (lv_at hl 0 rfl) ?_
    refine lv_bipush (v := (-2 : Int32)) F.1 F.2.1 (dd D_X8_brightest 12 rfl) kb_m2 ?_
    obtain ⟨r1, e2, h⟩ := Option.bind_eq_some_iff.mp h
    refine rwe_all (st' := [.int r1.1]) hD hS hA (rV (rest := []) F (c_X8_refuse D cA ax s n (-2 : Int32) r1 e2 l H.size) lk_X8_64 (Nat.le_of_ble_eq_true rfl) (preRW hK hS hAb hP hD) (rcv_8 hK hP (q0 := (0)) (xp_0 cA ax s)) rfl hl rfl (Nat.le_of_ble_eq_true rfl) (dd D_X8_brightest 13 rfl) ⟨Nat.le_of_ble_eq_true rfl, Nat.le_of_ble_eq_true rfl⟩) rfl (fun H locs hP hD hS => ?_)
    obtain rfl := Option.some.inj h
    exact rw_i (R := rmOf 6 0 0) F hP hD hS hr hlk ⟨Nat.le_of_ble_eq_true rfl, Nat.le_of_ble_eq_true rfl⟩ ⟨rfl, rfl⟩ (dd D_X8_brightest 14 rfl)
  · refine lv_aload_n F.1 F.2.1 (dd D_X8_brightest 4 rfl) rfl (lv_at hl 0 rfl) ?_
    refine getF F hK hP lf_X8_27 (0) (xp_0 cA ax s) rfl (dd D_X8_brightest 5 rfl) ?_
    refine lv_iload_n F.1 F.2.1 (dd D_X8_brightest 6 rfl) rfl (lv_at hl 1 rfl) ?_
    refine lv_iload_n F.1 F.2.1 (dd D_X8_brightest 7 rfl) rfl (lv_at hl 2 rfl) ?_
    refine lv_iconst (v := (3 : Int32)) F.1 F.2.1 (dd D_X8_brightest 8 rfl) ki_3 ?_
    obtain ⟨r3, e4, h⟩ := Option.bind_eq_some_iff.mp h
    refine ro_go (st' := [.int r3]) (rV (rest := []) F (c_X2_bestOf D cA ax s n p1 p2 (3 : Int32) r3 e4 l) lk_X8_269 (Nat.le_of_ble_eq_true rfl) (preRO hK hS hAb hP) (rcv_2 hK hP (q0 := (40)) (xp_40 cA ax s)) rfl hl rfl (Nat.le_of_ble_eq_true rfl) (dd D_X8_brightest 9 rfl) ⟨Nat.le_of_ble_eq_true rfl, Nat.le_of_ble_eq_true rfl⟩) rfl ?_
    refine lv_goto (tgt := 27) F.1 F.2.1 (dd D_X8_brightest 10 rfl) rfl ?_
    obtain rfl := Option.some.inj h
    exact rw_i (R := rmOf 6 0 0) F hP hD hS hr hlk ⟨Nat.le_of_ble_eq_true rfl, Nat.le_of_ble_eq_true rfl⟩ ⟨rfl, rfl⟩ (dd D_X8_brightest 14 rfl)
def F_X8_walks (n : Nat) (s : XS) (p1 : Int32) (p2 : Int32) (p3 : Int32) (p4 : Int32) (p5 : Int32) (p6 : Int32) : Option (Int32 × XS) := bf (F_X8_areDays p1 p2) (bf (F_X8_areMinutes p3 p4) (bf (F_X8_isIn p5 (0 : Int32) (1440 : Int32)) ((if (-1 : Int32) ≤ p6 then (((F_X2_pick n s (7 : Int32) p3 p4 p5 none p1 p2 p6)).bind fun r9 => (((F_X8_orStuck n s r9)).bind fun r11 => some (r11.1, r11.2))) else (((F_X8_refuse n s (-2 : Int32))).bind fun r13 => some (r13.1, r13.2)))) ((((F_X8_refuse n s (-2 : Int32))).bind fun r5 => some (r5.1, r5.2)))) ((((F_X8_refuse n s (-2 : Int32))).bind fun r3 => some (r3.1, r3.2)))) ((((F_X8_refuse n s (-2 : Int32))).bind fun r1 => some (r1.1, r1.2)))
set_option maxHeartbeats 4000000 in
set_option maxRecDepth 100000 in
theorem c_X8_walks (D : va_G) (cA : Nat → ClassId) (ax : Nat → Nat) (s : XS) (n : Nat) (p1 : Int32) (p2 : Int32) (p3 : Int32) (p4 : Int32) (p5 : Int32) (p6 : Int32) (r : (Int32 × XS)) (h : F_X8_walks n s p1 p2 p3 p4 p5 p6 = some r) : RW m_X8_walks 6 1 5 D cA [.ref (ax 0), .int p1, .int p2, .int p3, .int p4, .int p5, .int p6] (xW cA ax s) (exq (some (.int r.1)) (xW cA ax r.2)) := by
  refine RW.ofW gy_X8_walks.2.2 (Nat.le_of_ble_eq_true rfl) ?_
  intro l p e sM m below meth c A H locs F hr hlk hnm hK hP hD hS hA hAb ls hl
  have hl : lv_has ls 7 [(0, .ref (ax 0)), (1, .int p1), (2, .int p2), (3, .int p3), (4, .int p4), (5, .int p5), (6, .int p6)] := hl
  unfold F_X8_walks at h
  refine lv_iload_n F.1 F.2.1 (dd D_X8_walks 0 rfl) rfl (lv_at hl 1 rfl) ?_
  refine lv_iload_n F.1 F.2.1 (dd D_X8_walks 1 rfl) rfl (lv_at hl 2 rfl) ?_
  refine ro_go (st' := [.int (bI (F_X8_areDays p1 p2))]) (rS (rest := []) F (c_X8_areDays D cA p1 p2 l) lk_X8_260 (Nat.le_of_ble_eq_true rfl) (preRO hK hS hAb (emP)) rfl hl rfl (Nat.le_of_ble_eq_true rfl) (dd D_X8_walks 2 rfl) ⟨Nat.le_of_ble_eq_true rfl, Nat.le_of_ble_eq_true rfl⟩) rfl ?_
  refine x_bif_eq (tgt := 35) F.1 F.2.1 (dd D_X8_walks 3 rfl) rfl h (fun c17 h => ?_) (fun c17 h => ?_)
  · refine lv_aload_n F.1 F.2.1 (dd D_X8_walks 16 rfl) rfl (lv_at hl 0 rfl) ?_
    refine lv_bipush (v := (-2 : Int32)) F.1 F.2.1 (dd D_X8_walks 17 rfl) kb_m2 ?_
    obtain ⟨r1, e2, h⟩ := Option.bind_eq_some_iff.mp h
    refine rwe_all (st' := [.int r1.1]) hD hS hA (rV (rest := []) F (c_X8_refuse D cA ax s n (-2 : Int32) r1 e2 l H.size) lk_X8_64 (Nat.le_of_ble_eq_true rfl) (preRW hK hS hAb hP hD) (rcv_8 hK hP (q0 := (0)) (xp_0 cA ax s)) rfl hl rfl (Nat.le_of_ble_eq_true rfl) (dd D_X8_walks 18 rfl) ⟨Nat.le_of_ble_eq_true rfl, Nat.le_of_ble_eq_true rfl⟩) rfl (fun H locs hP hD hS => ?_)
    obtain rfl := Option.some.inj h
    exact rw_i (R := rmOf 6 1 5) F hP hD hS hr hlk ⟨Nat.le_of_ble_eq_true rfl, Nat.le_of_ble_eq_true rfl⟩ ⟨rfl, rfl⟩ (dd D_X8_walks 19 rfl)
  · refine lv_iload_n F.1 F.2.1 (dd D_X8_walks 4 rfl) rfl (lv_at hl 3 rfl) ?_
    refine lv_iload F.1 F.2.1 (dd D_X8_walks 5 rfl) (lv_at hl 4 rfl) ?_
    refine ro_go (st' := [.int (bI (F_X8_areMinutes p3 p4))]) (rS (rest := []) F (c_X8_areMinutes D cA p3 p4 l) lk_X8_246 (Nat.le_of_ble_eq_true rfl) (preRO hK hS hAb (emP)) rfl hl rfl (Nat.le_of_ble_eq_true rfl) (dd D_X8_walks 6 rfl) ⟨Nat.le_of_ble_eq_true rfl, Nat.le_of_ble_eq_true rfl⟩) rfl ?_
    refine x_bif_eq (tgt := 35) F.1 F.2.1 (dd D_X8_walks 7 rfl) rfl h (fun c16 h => ?_) (fun c16 h => ?_)
    · refine lv_aload_n F.1 F.2.1 (dd D_X8_walks 16 rfl) rfl (lv_at hl 0 rfl) ?_
      refine lv_bipush (v := (-2 : Int32)) F.1 F.2.1 (dd D_X8_walks 17 rfl) kb_m2 ?_
      obtain ⟨r3, e4, h⟩ := Option.bind_eq_some_iff.mp h
      refine rwe_all (st' := [.int r3.1]) hD hS hA (rV (rest := []) F (c_X8_refuse D cA ax s n (-2 : Int32) r3 e4 l H.size) lk_X8_64 (Nat.le_of_ble_eq_true rfl) (preRW hK hS hAb hP hD) (rcv_8 hK hP (q0 := (0)) (xp_0 cA ax s)) rfl hl rfl (Nat.le_of_ble_eq_true rfl) (dd D_X8_walks 18 rfl) ⟨Nat.le_of_ble_eq_true rfl, Nat.le_of_ble_eq_true rfl⟩) rfl (fun H locs hP hD hS => ?_)
      obtain rfl := Option.some.inj h
      exact rw_i (R := rmOf 6 1 5) F hP hD hS hr hlk ⟨Nat.le_of_ble_eq_true rfl, Nat.le_of_ble_eq_true rfl⟩ ⟨rfl, rfl⟩ (dd D_X8_walks 19 rfl)
    · refine lv_iload F.1 F.2.1 (dd D_X8_walks 8 rfl) (lv_at hl 5 rfl) ?_
      refine lv_iconst (v := (0 : Int32)) F.1 F.2.1 (dd D_X8_walks 9 rfl) ki_0 ?_
      refine lv_sipush (v := (1440 : Int32)) F.1 F.2.1 (dd D_X8_walks 10 rfl) ks_1440 ?_
      refine ro_go (st' := [.int (bI (F_X8_isIn p5 (0 : Int32) (1440 : Int32)))]) (rS (rest := []) F (c_X8_isIn D cA p5 (0 : Int32) (1440 : Int32) l) lk_X8_60 (Nat.le_of_ble_eq_true rfl) (preRO hK hS hAb (emP)) rfl hl rfl (Nat.le_of_ble_eq_true rfl) (dd D_X8_walks 11 rfl) ⟨Nat.le_of_ble_eq_true rfl, Nat.le_of_ble_eq_true rfl⟩) rfl ?_
      refine x_bif_eq (tgt := 35) F.1 F.2.1 (dd D_X8_walks 12 rfl) rfl h (fun c15 h => ?_) (fun c15 h => ?_)
      · refine lv_aload_n F.1 F.2.1 (dd D_X8_walks 16 rfl) rfl (lv_at hl 0 rfl) ?_
        refine lv_bipush (v := (-2 : Int32)) F.1 F.2.1 (dd D_X8_walks 17 rfl) kb_m2 ?_
        obtain ⟨r5, e6, h⟩ := Option.bind_eq_some_iff.mp h
        refine rwe_all (st' := [.int r5.1]) hD hS hA (rV (rest := []) F (c_X8_refuse D cA ax s n (-2 : Int32) r5 e6 l H.size) lk_X8_64 (Nat.le_of_ble_eq_true rfl) (preRW hK hS hAb hP hD) (rcv_8 hK hP (q0 := (0)) (xp_0 cA ax s)) rfl hl rfl (Nat.le_of_ble_eq_true rfl) (dd D_X8_walks 18 rfl) ⟨Nat.le_of_ble_eq_true rfl, Nat.le_of_ble_eq_true rfl⟩) rfl (fun H locs hP hD hS => ?_)
        obtain rfl := Option.some.inj h
        exact rw_i (R := rmOf 6 1 5) F hP hD hS hr hlk ⟨Nat.le_of_ble_eq_true rfl, Nat.le_of_ble_eq_true rfl⟩ ⟨rfl, rfl⟩ (dd D_X8_walks 19 rfl)
      · refine lv_iload F.1 F.2.1 (dd D_X8_walks 13 rfl) (lv_at hl 6 rfl) ?_
        refine lv_iconst (v := (-1 : Int32)) F.1 F.2.1 (dd D_X8_walks 14 rfl) ki_m1 ?_
        refine x_icmp_ge (tgt := 42) F.1 F.2.1 (dd D_X8_walks 15 rfl) rfl h (fun c7 h => ?_) (fun c7 h => ?_)
        · refine lv_aload_n F.1 F.2.1 (dd D_X8_walks 20 rfl) rfl (lv_at hl 0 rfl) ?_
          refine lv_aload_n F.1 F.2.1 (dd D_X8_walks 21 rfl) rfl (lv_at hl 0 rfl) ?_
          refine getF F hK hP lf_X8_27 (0) (xp_0 cA ax s) rfl (dd D_X8_walks 22 rfl) ?_
          refine lv_iload_n F.1 F.2.1 (dd D_X8_walks 23 rfl) rfl (lv_at hl 1 rfl) ?_
          refine lv_iload_n F.1 F.2.1 (dd D_X8_walks 24 rfl) rfl (lv_at hl 2 rfl) ?_
          refine lv_iload F.1 F.2.1 (dd D_X8_walks 25 rfl) (lv_at hl 6 rfl) ?_
          refine newO F hK hP hD hS hA ln_X8_132 (Nat.le_of_ble_eq_true rfl) (Nat.le_of_ble_eq_true rfl) (dd D_X8_walks 26 rfl) (fun q8 H hP hD hS => ?_)
          refine lv_dup F.1 F.2.1 (dd D_X8_walks 27 rfl) rfl ?_
          refine lv_bipush (v := (7 : Int32)) F.1 F.2.1 (dd D_X8_walks 28 rfl) kb_7 ?_
          refine lv_iload_n F.1 F.2.1 (dd D_X8_walks 29 rfl) rfl (lv_at hl 3 rfl) ?_
          refine lv_iload F.1 F.2.1 (dd D_X8_walks 30 rfl) (lv_at hl 4 rfl) ?_
          refine lv_iload F.1 F.2.1 (dd D_X8_walks 31 rfl) (lv_at hl 5 rfl) ?_
          refine rwe (V := none) (wc := [(q8, .inr (4, [.int (0 : Int32), .int (0 : Int32), .int (0 : Int32), .int (0 : Int32), .null]))]) (wc' := [(q8, .inr (4, [.int (7 : Int32), .int p3, .int p4, .int p5, .null]))]) (st' := [.ref (q8), .int p6, .int p2, .int p1, .ref (ax 40), .ref (ax 0)]) (W' := (xW cA ax s) ++ [(q8, .inr (4, [.int (7 : Int32), .int p3, .int p4, .int p5, .null]))]) hP hD hS hA [63] (jc_last (xp_len cA ax s)) (Nat_nd rfl) rfl (rI (rest := [.ref (q8), .int p6, .int p2, .int p1, .ref (ax 40), .ref (ax 0)]) F (c_X4_init__ D cA q8 (7 : Int32) p3 p4 p5 l H.size) lk_X8_263 (Nat.le_of_ble_eq_true rfl) (preRW hK hS hAb (selP hP (jc_last (xp_len cA ax s))) (selD hD (Nat_nd rfl) (jc_last (xp_len cA ax s)))) rfl hl rfl (Nat.le_of_ble_eq_true rfl) (dd D_X8_walks 32 rfl) ⟨Nat.le_of_ble_eq_true rfl, Nat.le_of_ble_eq_true rfl⟩) (js_last (xp_len cA ax s)) rfl (fun H locs hP hD hS => ?_)
          obtain ⟨r9, e10, h⟩ := Option.bind_eq_some_iff.mp h
          refine ro_go (st' := [.int r9, .ref (ax 0)]) (rV (rest := [.ref (ax 0)]) F (c_X2_pick D cA ax s q8 (7 : Int32) p3 p4 p5 none n p1 p2 p6 r9 e10 l) lk_X8_256 (Nat.le_of_ble_eq_true rfl) (preRO hK hS hAb hP) (rcv_2 hK hP (q0 := (40)) (gL (xp_40 cA ax s))) rfl hl rfl (Nat.le_of_ble_eq_true rfl) (dd D_X8_walks 33 rfl) ⟨Nat.le_of_ble_eq_true rfl, Nat.le_of_ble_eq_true rfl⟩) rfl ?_
          obtain ⟨r11, e12, h⟩ := Option.bind_eq_some_iff.mp h
          have hP := preP hP
          have hD := preD hD
          refine rwe_all (st' := [.int r11.1]) hD hS hA (rV (rest := []) F (c_X8_orStuck D cA ax s n r9 r11 e12 l H.size) lk_X8_266 (Nat.le_of_ble_eq_true rfl) (preRW hK hS hAb hP hD) (rcv_8 hK hP (q0 := (0)) (gL (xp_0 cA ax s))) rfl hl rfl (Nat.le_of_ble_eq_true rfl) (dd D_X8_walks 34 rfl) ⟨Nat.le_of_ble_eq_true rfl, Nat.le_of_ble_eq_true rfl⟩) rfl (fun H locs hP hD hS => ?_)
          obtain rfl := Option.some.inj h
          exact rw_i (R := rmOf 6 1 5) F hP hD hS hr hlk ⟨Nat.le_of_ble_eq_true rfl, Nat.le_of_ble_eq_true rfl⟩ ⟨rfl, rfl⟩ (dd D_X8_walks 35 rfl)
        · refine lv_aload_n F.1 F.2.1 (dd D_X8_walks 16 rfl) rfl (lv_at hl 0 rfl) ?_
          refine lv_bipush (v := (-2 : Int32)) F.1 F.2.1 (dd D_X8_walks 17 rfl) kb_m2 ?_
          obtain ⟨r13, e14, h⟩ := Option.bind_eq_some_iff.mp h
          refine rwe_all (st' := [.int r13.1]) hD hS hA (rV (rest := []) F (c_X8_refuse D cA ax s n (-2 : Int32) r13 e14 l H.size) lk_X8_64 (Nat.le_of_ble_eq_true rfl) (preRW hK hS hAb hP hD) (rcv_8 hK hP (q0 := (0)) (xp_0 cA ax s)) rfl hl rfl (Nat.le_of_ble_eq_true rfl) (dd D_X8_walks 18 rfl) ⟨Nat.le_of_ble_eq_true rfl, Nat.le_of_ble_eq_true rfl⟩) rfl (fun H locs hP hD hS => ?_)
          obtain rfl := Option.some.inj h
          exact rw_i (R := rmOf 6 1 5) F hP hD hS hr hlk ⟨Nat.le_of_ble_eq_true rfl, Nat.le_of_ble_eq_true rfl⟩ ⟨rfl, rfl⟩ (dd D_X8_walks 19 rfl)
def F_X8_overs (n : Nat) (s : XS) (p1 : Int32) (p2 : Int32) (p3 : Int32) (p4 : Int32) : Option (Int32 × XS) := bf (F_X8_areDays p1 p2) (bf (F_X8_isIn p3 (0 : Int32) ((F_X1_count (st_hill (x_now s))) - (1 : Int32))) ((if (-1 : Int32) ≤ p4 then (((F_X2_pick n s (8 : Int32) p3 (0 : Int32) (0 : Int32) none p1 p2 p4)).bind fun r7 => (((F_X8_orStuck n s r7)).bind fun r9 => some (r9.1, r9.2))) else (((F_X8_refuse n s (-2 : Int32))).bind fun r11 => some (r11.1, r11.2)))) ((((F_X8_refuse n s (-2 : Int32))).bind fun r3 => some (r3.1, r3.2)))) ((((F_X8_refuse n s (-2 : Int32))).bind fun r1 => some (r1.1, r1.2)))
set_option maxHeartbeats 4000000 in
set_option maxRecDepth 100000 in
theorem c_X8_overs (D : va_G) (cA : Nat → ClassId) (ax : Nat → Nat) (s : XS) (n : Nat) (p1 : Int32) (p2 : Int32) (p3 : Int32) (p4 : Int32) (r : (Int32 × XS)) (h : F_X8_overs n s p1 p2 p3 p4 = some r) : RW m_X8_overs 6 1 5 D cA [.ref (ax 0), .int p1, .int p2, .int p3, .int p4] (xW cA ax s) (exq (some (.int r.1)) (xW cA ax r.2)) := by
  refine RW.ofW gy_X8_overs.2.2 (Nat.le_of_ble_eq_true rfl) ?_
  intro l p e sM m below meth c A H locs F hr hlk hnm hK hP hD hS hA hAb ls hl
  have hl : lv_has ls 5 [(0, .ref (ax 0)), (1, .int p1), (2, .int p2), (3, .int p3), (4, .int p4)] := hl
  unfold F_X8_overs at h
  refine lv_iload_n F.1 F.2.1 (dd D_X8_overs 0 rfl) rfl (lv_at hl 1 rfl) ?_
  refine lv_iload_n F.1 F.2.1 (dd D_X8_overs 1 rfl) rfl (lv_at hl 2 rfl) ?_
  refine ro_go (st' := [.int (bI (F_X8_areDays p1 p2))]) (rS (rest := []) F (c_X8_areDays D cA p1 p2 l) lk_X8_260 (Nat.le_of_ble_eq_true rfl) (preRO hK hS hAb (emP)) rfl hl rfl (Nat.le_of_ble_eq_true rfl) (dd D_X8_overs 2 rfl) ⟨Nat.le_of_ble_eq_true rfl, Nat.le_of_ble_eq_true rfl⟩) rfl ?_
  refine x_bif_eq (tgt := 34) F.1 F.2.1 (dd D_X8_overs 3 rfl) rfl h (fun c14 h => ?_) (fun c14 h => ?_)
  · refine lv_aload_n F.1 F.2.1 (dd D_X8_overs 17 rfl) rfl (lv_at hl 0 rfl) ?_
    refine lv_bipush (v := (-2 : Int32)) F.1 F.2.1 (dd D_X8_overs 18 rfl) kb_m2 ?_
    obtain ⟨r1, e2, h⟩ := Option.bind_eq_some_iff.mp h
    refine rwe_all (st' := [.int r1.1]) hD hS hA (rV (rest := []) F (c_X8_refuse D cA ax s n (-2 : Int32) r1 e2 l H.size) lk_X8_64 (Nat.le_of_ble_eq_true rfl) (preRW hK hS hAb hP hD) (rcv_8 hK hP (q0 := (0)) (xp_0 cA ax s)) rfl hl rfl (Nat.le_of_ble_eq_true rfl) (dd D_X8_overs 19 rfl) ⟨Nat.le_of_ble_eq_true rfl, Nat.le_of_ble_eq_true rfl⟩) rfl (fun H locs hP hD hS => ?_)
    obtain rfl := Option.some.inj h
    exact rw_i (R := rmOf 6 1 5) F hP hD hS hr hlk ⟨Nat.le_of_ble_eq_true rfl, Nat.le_of_ble_eq_true rfl⟩ ⟨rfl, rfl⟩ (dd D_X8_overs 20 rfl)
  · refine lv_iload_n F.1 F.2.1 (dd D_X8_overs 4 rfl) rfl (lv_at hl 3 rfl) ?_
    refine lv_iconst (v := (0 : Int32)) F.1 F.2.1 (dd D_X8_overs 5 rfl) ki_0 ?_
    refine lv_aload_n F.1 F.2.1 (dd D_X8_overs 6 rfl) rfl (lv_at hl 0 rfl) ?_
    refine getF F hK hP lf_X8_10 (0) (xp_0 cA ax s) rfl (dd D_X8_overs 7 rfl) ?_
    refine getF F hK hP lf_X8_147 (1) (xp_1 cA ax s) rfl (dd D_X8_overs 8 rfl) ?_
    refine ro_go (st' := [.int (F_X1_count (st_hill (x_now s))), .int (0 : Int32), .int p3]) (rV (rest := [.int (0 : Int32), .int p3]) F (c_X1_count D cA (fun i => ax (2+i)) (st_hill (x_now s)) l) lk_X8_160 (Nat.le_of_ble_eq_true rfl) (preRO hK hS hAb (pg_x_2 hP)) (rcv_1 hK hP (q0 := (2)) (xp_2 cA ax s)) rfl hl rfl (Nat.le_of_ble_eq_true rfl) (dd D_X8_overs 9 rfl) ⟨Nat.le_of_ble_eq_true rfl, Nat.le_of_ble_eq_true rfl⟩) rfl ?_
    refine lv_iconst (v := (1 : Int32)) F.1 F.2.1 (dd D_X8_overs 10 rfl) ki_1 ?_
    refine lv_isub F.1 F.2.1 (dd D_X8_overs 11 rfl) ?_
    refine ro_go (st' := [.int (bI (F_X8_isIn p3 (0 : Int32) ((F_X1_count (st_hill (x_now s))) - (1 : Int32))))]) (rS (rest := []) F (c_X8_isIn D cA p3 (0 : Int32) ((F_X1_count (st_hill (x_now s))) - (1 : Int32)) l) lk_X8_60 (Nat.le_of_ble_eq_true rfl) (preRO hK hS hAb (emP)) rfl hl rfl (Nat.le_of_ble_eq_true rfl) (dd D_X8_overs 12 rfl) ⟨Nat.le_of_ble_eq_true rfl, Nat.le_of_ble_eq_true rfl⟩) rfl ?_
    refine x_bif_eq (tgt := 34) F.1 F.2.1 (dd D_X8_overs 13 rfl) rfl h (fun c13 h => ?_) (fun c13 h => ?_)
    · refine lv_aload_n F.1 F.2.1 (dd D_X8_overs 17 rfl) rfl (lv_at hl 0 rfl) ?_
      refine lv_bipush (v := (-2 : Int32)) F.1 F.2.1 (dd D_X8_overs 18 rfl) kb_m2 ?_
      obtain ⟨r3, e4, h⟩ := Option.bind_eq_some_iff.mp h
      refine rwe_all (st' := [.int r3.1]) hD hS hA (rV (rest := []) F (c_X8_refuse D cA ax s n (-2 : Int32) r3 e4 l H.size) lk_X8_64 (Nat.le_of_ble_eq_true rfl) (preRW hK hS hAb hP hD) (rcv_8 hK hP (q0 := (0)) (xp_0 cA ax s)) rfl hl rfl (Nat.le_of_ble_eq_true rfl) (dd D_X8_overs 19 rfl) ⟨Nat.le_of_ble_eq_true rfl, Nat.le_of_ble_eq_true rfl⟩) rfl (fun H locs hP hD hS => ?_)
      obtain rfl := Option.some.inj h
      exact rw_i (R := rmOf 6 1 5) F hP hD hS hr hlk ⟨Nat.le_of_ble_eq_true rfl, Nat.le_of_ble_eq_true rfl⟩ ⟨rfl, rfl⟩ (dd D_X8_overs 20 rfl)
    · refine lv_iload F.1 F.2.1 (dd D_X8_overs 14 rfl) (lv_at hl 4 rfl) ?_
      refine lv_iconst (v := (-1 : Int32)) F.1 F.2.1 (dd D_X8_overs 15 rfl) ki_m1 ?_
      refine x_icmp_ge (tgt := 41) F.1 F.2.1 (dd D_X8_overs 16 rfl) rfl h (fun c5 h => ?_) (fun c5 h => ?_)
      · refine lv_aload_n F.1 F.2.1 (dd D_X8_overs 21 rfl) rfl (lv_at hl 0 rfl) ?_
        refine lv_aload_n F.1 F.2.1 (dd D_X8_overs 22 rfl) rfl (lv_at hl 0 rfl) ?_
        refine getF F hK hP lf_X8_27 (0) (xp_0 cA ax s) rfl (dd D_X8_overs 23 rfl) ?_
        refine lv_iload_n F.1 F.2.1 (dd D_X8_overs 24 rfl) rfl (lv_at hl 1 rfl) ?_
        refine lv_iload_n F.1 F.2.1 (dd D_X8_overs 25 rfl) rfl (lv_at hl 2 rfl) ?_
        refine lv_iload F.1 F.2.1 (dd D_X8_overs 26 rfl) (lv_at hl 4 rfl) ?_
        refine newO F hK hP hD hS hA ln_X8_132 (Nat.le_of_ble_eq_true rfl) (Nat.le_of_ble_eq_true rfl) (dd D_X8_overs 27 rfl) (fun q6 H hP hD hS => ?_)
        refine lv_dup F.1 F.2.1 (dd D_X8_overs 28 rfl) rfl ?_
        refine lv_bipush (v := (8 : Int32)) F.1 F.2.1 (dd D_X8_overs 29 rfl) kb_8 ?_
        refine lv_iload_n F.1 F.2.1 (dd D_X8_overs 30 rfl) rfl (lv_at hl 3 rfl) ?_
        refine lv_iconst (v := (0 : Int32)) F.1 F.2.1 (dd D_X8_overs 31 rfl) ki_0 ?_
        refine lv_iconst (v := (0 : Int32)) F.1 F.2.1 (dd D_X8_overs 32 rfl) ki_0 ?_
        refine rwe (V := none) (wc := [(q6, .inr (4, [.int (0 : Int32), .int (0 : Int32), .int (0 : Int32), .int (0 : Int32), .null]))]) (wc' := [(q6, .inr (4, [.int (8 : Int32), .int p3, .int (0 : Int32), .int (0 : Int32), .null]))]) (st' := [.ref (q6), .int p4, .int p2, .int p1, .ref (ax 40), .ref (ax 0)]) (W' := (xW cA ax s) ++ [(q6, .inr (4, [.int (8 : Int32), .int p3, .int (0 : Int32), .int (0 : Int32), .null]))]) hP hD hS hA [63] (jc_last (xp_len cA ax s)) (Nat_nd rfl) rfl (rI (rest := [.ref (q6), .int p4, .int p2, .int p1, .ref (ax 40), .ref (ax 0)]) F (c_X4_init__ D cA q6 (8 : Int32) p3 (0 : Int32) (0 : Int32) l H.size) lk_X8_263 (Nat.le_of_ble_eq_true rfl) (preRW hK hS hAb (selP hP (jc_last (xp_len cA ax s))) (selD hD (Nat_nd rfl) (jc_last (xp_len cA ax s)))) rfl hl rfl (Nat.le_of_ble_eq_true rfl) (dd D_X8_overs 33 rfl) ⟨Nat.le_of_ble_eq_true rfl, Nat.le_of_ble_eq_true rfl⟩) (js_last (xp_len cA ax s)) rfl (fun H locs hP hD hS => ?_)
        obtain ⟨r7, e8, h⟩ := Option.bind_eq_some_iff.mp h
        refine ro_go (st' := [.int r7, .ref (ax 0)]) (rV (rest := [.ref (ax 0)]) F (c_X2_pick D cA ax s q6 (8 : Int32) p3 (0 : Int32) (0 : Int32) none n p1 p2 p4 r7 e8 l) lk_X8_256 (Nat.le_of_ble_eq_true rfl) (preRO hK hS hAb hP) (rcv_2 hK hP (q0 := (40)) (gL (xp_40 cA ax s))) rfl hl rfl (Nat.le_of_ble_eq_true rfl) (dd D_X8_overs 34 rfl) ⟨Nat.le_of_ble_eq_true rfl, Nat.le_of_ble_eq_true rfl⟩) rfl ?_
        obtain ⟨r9, e10, h⟩ := Option.bind_eq_some_iff.mp h
        have hP := preP hP
        have hD := preD hD
        refine rwe_all (st' := [.int r9.1]) hD hS hA (rV (rest := []) F (c_X8_orStuck D cA ax s n r7 r9 e10 l H.size) lk_X8_266 (Nat.le_of_ble_eq_true rfl) (preRW hK hS hAb hP hD) (rcv_8 hK hP (q0 := (0)) (gL (xp_0 cA ax s))) rfl hl rfl (Nat.le_of_ble_eq_true rfl) (dd D_X8_overs 35 rfl) ⟨Nat.le_of_ble_eq_true rfl, Nat.le_of_ble_eq_true rfl⟩) rfl (fun H locs hP hD hS => ?_)
        obtain rfl := Option.some.inj h
        exact rw_i (R := rmOf 6 1 5) F hP hD hS hr hlk ⟨Nat.le_of_ble_eq_true rfl, Nat.le_of_ble_eq_true rfl⟩ ⟨rfl, rfl⟩ (dd D_X8_overs 36 rfl)
      · refine lv_aload_n F.1 F.2.1 (dd D_X8_overs 17 rfl) rfl (lv_at hl 0 rfl) ?_
        refine lv_bipush (v := (-2 : Int32)) F.1 F.2.1 (dd D_X8_overs 18 rfl) kb_m2 ?_
        obtain ⟨r11, e12, h⟩ := Option.bind_eq_some_iff.mp h
        refine rwe_all (st' := [.int r11.1]) hD hS hA (rV (rest := []) F (c_X8_refuse D cA ax s n (-2 : Int32) r11 e12 l H.size) lk_X8_64 (Nat.le_of_ble_eq_true rfl) (preRW hK hS hAb hP hD) (rcv_8 hK hP (q0 := (0)) (xp_0 cA ax s)) rfl hl rfl (Nat.le_of_ble_eq_true rfl) (dd D_X8_overs 19 rfl) ⟨Nat.le_of_ble_eq_true rfl, Nat.le_of_ble_eq_true rfl⟩) rfl (fun H locs hP hD hS => ?_)
        obtain rfl := Option.some.inj h
        exact rw_i (R := rmOf 6 1 5) F hP hD hS hr hlk ⟨Nat.le_of_ble_eq_true rfl, Nat.le_of_ble_eq_true rfl⟩ ⟨rfl, rfl⟩ (dd D_X8_overs 20 rfl)
def F_X8_lates_L65 (n : Nat) (u0 : XS) (v1 : Int32) (v2 : Int32) (v3 : Int32) (v4 : Int32) : Nat → Int32 → Int32 → Int32 → Int32 → Option (Int32 × XS)
  | 0, _, _, _, _ => none
  | kf + 1, w5, w6, w7, w8 => (if v4 < w8 then (if v3 = 0 then some (w5, u0) else (if v3 = (1 : Int32) then some (w6, u0) else some (w7, u0))) else (((F_X2_laterOf n u0 w8)).bind fun r7 => F_X8_lates_L65 n u0 v1 v2 v3 v4 kf (F_J9_min_7cf53 w5 r7) (F_J9_max_7cf53 w6 r7) (w7 + r7) (w8 + (1 : Int32))))
def F_X8_lates (n : Nat) (s : XS) (p1 : Int32) (p2 : Int32) (p3 : Int32) : Option (Int32 × XS) := bf (F_X8_areDays p1 p2) (bf (F_X8_isIn p3 (0 : Int32) (2 : Int32)) ((if p1 = (9999 : Int32) then (((F_X8_refuse n s (-5 : Int32))).bind fun r15 => some (r15.1, r15.2)) else F_X8_lates_L65 n s p1 p2 p3 (F_J9_min_7cf53 (F_X2_lastOf p1 p2) (9998 : Int32)) n (1439 : Int32) (0 : Int32) (0 : Int32) p1)) ((((F_X8_refuse n s (-2 : Int32))).bind fun r17 => some (r17.1, r17.2)))) ((((F_X8_refuse n s (-2 : Int32))).bind fun r1 => some (r1.1, r1.2)))
set_option maxHeartbeats 4000000 in
set_option maxRecDepth 100000 in
theorem c_X8_lates (D : va_G) (cA : Nat → ClassId) (ax : Nat → Nat) (s : XS) (n : Nat) (p1 : Int32) (p2 : Int32) (p3 : Int32) (r : (Int32 × XS)) (h : F_X8_lates n s p1 p2 p3 = some r) : RW m_X8_lates 4 0 0 D cA [.ref (ax 0), .int p1, .int p2, .int p3] (xW cA ax s) (exq (some (.int r.1)) (xW cA ax r.2)) := by
  refine RW.ofW gy_X8_lates.2.2 (Nat.le_of_ble_eq_true rfl) ?_
  intro l p e sM m below meth c A H locs F hr hlk hnm hK hP hD hS hA hAb ls hl
  have hl : lv_has ls 10 [(0, .ref (ax 0)), (1, .int p1), (2, .int p2), (3, .int p3)] := hl
  unfold F_X8_lates at h
  refine lv_iload_n F.1 F.2.1 (dd D_X8_lates 0 rfl) rfl (lv_at hl 1 rfl) ?_
  refine lv_iload_n F.1 F.2.1 (dd D_X8_lates 1 rfl) rfl (lv_at hl 2 rfl) ?_
  refine ro_go (st' := [.int (bI (F_X8_areDays p1 p2))]) (rS (rest := []) F (c_X8_areDays D cA p1 p2 l) lk_X8_260 (Nat.le_of_ble_eq_true rfl) (preRO hK hS hAb (emP)) rfl hl rfl (Nat.le_of_ble_eq_true rfl) (dd D_X8_lates 2 rfl) ⟨Nat.le_of_ble_eq_true rfl, Nat.le_of_ble_eq_true rfl⟩) rfl ?_
  refine x_bif_eq (tgt := 17) F.1 F.2.1 (dd D_X8_lates 3 rfl) rfl h (fun c20 h => ?_) (fun c20 h => ?_)
  · refine lv_aload_n F.1 F.2.1 (dd D_X8_lates 9 rfl) rfl (lv_at hl 0 rfl) ?_
    refine lv_bipush (v := (-2 : Int32)) F.1 F.2.1 (dd D_X8_lates 10 rfl) kb_m2 ?_
    obtain ⟨r1, e2, h⟩ := Option.bind_eq_some_iff.mp h
    refine rwe_all (st' := [.int r1.1]) hD hS hA (rV (rest := []) F (c_X8_refuse D cA ax s n (-2 : Int32) r1 e2 l H.size) lk_X8_64 (Nat.le_of_ble_eq_true rfl) (preRW hK hS hAb hP hD) (rcv_8 hK hP (q0 := (0)) (xp_0 cA ax s)) rfl hl rfl (Nat.le_of_ble_eq_true rfl) (dd D_X8_lates 11 rfl) ⟨Nat.le_of_ble_eq_true rfl, Nat.le_of_ble_eq_true rfl⟩) rfl (fun H locs hP hD hS => ?_)
    obtain rfl := Option.some.inj h
    exact rw_i (R := rmOf 4 0 0) F hP hD hS hr hlk ⟨Nat.le_of_ble_eq_true rfl, Nat.le_of_ble_eq_true rfl⟩ ⟨rfl, rfl⟩ (dd D_X8_lates 12 rfl)
  · refine lv_iload_n F.1 F.2.1 (dd D_X8_lates 4 rfl) rfl (lv_at hl 3 rfl) ?_
    refine lv_iconst (v := (0 : Int32)) F.1 F.2.1 (dd D_X8_lates 5 rfl) ki_0 ?_
    refine lv_iconst (v := (2 : Int32)) F.1 F.2.1 (dd D_X8_lates 6 rfl) ki_2 ?_
    refine ro_go (st' := [.int (bI (F_X8_isIn p3 (0 : Int32) (2 : Int32)))]) (rS (rest := []) F (c_X8_isIn D cA p3 (0 : Int32) (2 : Int32) l) lk_X8_60 (Nat.le_of_ble_eq_true rfl) (preRO hK hS hAb (emP)) rfl hl rfl (Nat.le_of_ble_eq_true rfl) (dd D_X8_lates 7 rfl) ⟨Nat.le_of_ble_eq_true rfl, Nat.le_of_ble_eq_true rfl⟩) rfl ?_
    refine x_bif_ne (tgt := 24) F.1 F.2.1 (dd D_X8_lates 8 rfl) rfl h (fun c19 h => ?_) (fun c19 h => ?_)
    · refine lv_iload_n F.1 F.2.1 (dd D_X8_lates 13 rfl) rfl (lv_at hl 1 rfl) ?_
      refine lv_sipush (v := (9999 : Int32)) F.1 F.2.1 (dd D_X8_lates 14 rfl) ks_9999 ?_
      refine x_icmp_ne (tgt := 38) F.1 F.2.1 (dd D_X8_lates 15 rfl) rfl h (fun c3 h => ?_) (fun c3 h => ?_)
      · refine lv_iload_n F.1 F.2.1 (dd D_X8_lates 20 rfl) rfl (lv_at hl 1 rfl) ?_
        refine lv_iload_n F.1 F.2.1 (dd D_X8_lates 21 rfl) rfl (lv_at hl 2 rfl) ?_
        refine ro_go (st' := [.int (F_X2_lastOf p1 p2)]) (rS (rest := []) F (c_X2_lastOf D cA p1 p2 l) lk_X8_272 (Nat.le_of_ble_eq_true rfl) (preRO hK hS hAb (emP)) rfl hl rfl (Nat.le_of_ble_eq_true rfl) (dd D_X8_lates 22 rfl) ⟨Nat.le_of_ble_eq_true rfl, Nat.le_of_ble_eq_true rfl⟩) rfl ?_
        refine lv_sipush (v := (9998 : Int32)) F.1 F.2.1 (dd D_X8_lates 23 rfl) ks_9998 ?_
        refine ro_go (st' := [.int (F_J9_min_7cf53 (F_X2_lastOf p1 p2) (9998 : Int32))]) (rS (rest := []) F (c_J9_min_7cf53 D cA (F_X2_lastOf p1 p2) (9998 : Int32) l) lk_X8_275 (Nat.le_of_ble_eq_true rfl) (preRO hK hS hAb (emP)) rfl hl rfl (Nat.le_of_ble_eq_true rfl) (dd D_X8_lates 24 rfl) ⟨Nat.le_of_ble_eq_true rfl, Nat.le_of_ble_eq_true rfl⟩) rfl ?_
        refine lv_istore (lv' := [(4, .int (F_J9_min_7cf53 (F_X2_lastOf p1 p2) (9998 : Int32))), (0, .ref (ax 0)), (1, .int p1), (2, .int p2), (3, .int p3)]) F.1 F.2.1 (dd D_X8_lates 25 rfl) hl (Nat.le_of_ble_eq_true rfl) rfl (fun ls hl => ?_)
        refine lv_sipush (v := (1439 : Int32)) F.1 F.2.1 (dd D_X8_lates 26 rfl) ks_1439 ?_
        refine lv_istore (lv' := [(5, .int (1439 : Int32)), (4, .int (F_J9_min_7cf53 (F_X2_lastOf p1 p2) (9998 : Int32))), (0, .ref (ax 0)), (1, .int p1), (2, .int p2), (3, .int p3)]) F.1 F.2.1 (dd D_X8_lates 27 rfl) hl (Nat.le_of_ble_eq_true rfl) rfl (fun ls hl => ?_)
        refine lv_iconst (v := (0 : Int32)) F.1 F.2.1 (dd D_X8_lates 28 rfl) ki_0 ?_
        refine lv_istore (lv' := [(6, .int (0 : Int32)), (5, .int (1439 : Int32)), (4, .int (F_J9_min_7cf53 (F_X2_lastOf p1 p2) (9998 : Int32))), (0, .ref (ax 0)), (1, .int p1), (2, .int p2), (3, .int p3)]) F.1 F.2.1 (dd D_X8_lates 29 rfl) hl (Nat.le_of_ble_eq_true rfl) rfl (fun ls hl => ?_)
        refine lv_iconst (v := (0 : Int32)) F.1 F.2.1 (dd D_X8_lates 30 rfl) ki_0 ?_
        refine lv_istore (lv' := [(7, .int (0 : Int32)), (6, .int (0 : Int32)), (5, .int (1439 : Int32)), (4, .int (F_J9_min_7cf53 (F_X2_lastOf p1 p2) (9998 : Int32))), (0, .ref (ax 0)), (1, .int p1), (2, .int p2), (3, .int p3)]) F.1 F.2.1 (dd D_X8_lates 31 rfl) hl (Nat.le_of_ble_eq_true rfl) rfl (fun ls hl => ?_)
        refine lv_iload_n F.1 F.2.1 (dd D_X8_lates 32 rfl) rfl (lv_at hl 5 rfl) ?_
        refine lv_istore (lv' := [(8, .int p1), (7, .int (0 : Int32)), (6, .int (0 : Int32)), (5, .int (1439 : Int32)), (4, .int (F_J9_min_7cf53 (F_X2_lastOf p1 p2) (9998 : Int32))), (0, .ref (ax 0)), (1, .int p1), (2, .int p2), (3, .int p3)]) F.1 F.2.1 (dd D_X8_lates 33 rfl) hl (Nat.le_of_ble_eq_true rfl) rfl (fun ls hl => ?_)
        have L9 : ∀ (kf : Nat) (w5_L9 : Int32) (w6_L9 : Int32) (w7_L9 : Int32) (w8_L9 : Int32) (H : Heap) (locs : List Loc) (ls : Array Slot), va_P D vwCl (xW cA ax s) H → va_D A (xW cA ax s) → va_S A sM.heap H locs → lv_has ls 10 [(0, .ref (ax 0)), (1, .int p1), (2, .int p2), (3, .int p3), (4, .int (F_J9_min_7cf53 (F_X2_lastOf p1 p2) (9998 : Int32))), (5, .int w5_L9), (6, .int w6_L9), (7, .int w7_L9), (8, .int w8_L9)] → F_X8_lates_L65 n s p1 p2 p3 (F_J9_min_7cf53 (F_X2_lastOf p1 p2) (9998 : Int32)) kf w5_L9 w6_L9 w7_L9 w8_L9 = some r → Wrw 4 0 0 D A (exq (some (.int r.1)) (xW cA ax r.2)) p l e sM m ([.ref (ax 0), .int p1, .int p2, .int p3] : List Value).toArray below meth c H locs 0 0 65 ls [] := by
          intro kf
          induction kf with
          | zero =>
            intro w5_L9 w6_L9 w7_L9 w8_L9 H locs ls hP hD hS hl h
            cases (show none = some r from h)
          | succ k_L9 ih_L9 =>
            intro w5_L9 w6_L9 w7_L9 w8_L9 H locs ls hP hD hS hl h
            unfold F_X8_lates_L65 at h
            refine lv_iload F.1 F.2.1 (dd D_X8_lates 34 rfl) (lv_at hl 8 rfl) ?_
            refine lv_iload F.1 F.2.1 (dd D_X8_lates 35 rfl) (lv_at hl 4 rfl) ?_
            refine x_icmp_gt (tgt := 114) F.1 F.2.1 (dd D_X8_lates 36 rfl) rfl h (fun c10 h => ?_) (fun c10 h => ?_)
            · refine lv_iload_n F.1 F.2.1 (dd D_X8_lates 56 rfl) rfl (lv_at hl 3 rfl) ?_
              refine x_if_ne (tgt := 121) F.1 F.2.1 (dd D_X8_lates 57 rfl) rfl h (fun c11 h => ?_) (fun c11 h => ?_)
              · refine lv_iload_n F.1 F.2.1 (dd D_X8_lates 60 rfl) rfl (lv_at hl 3 rfl) ?_
                refine lv_iconst (v := (1 : Int32)) F.1 F.2.1 (dd D_X8_lates 61 rfl) ki_1 ?_
                refine x_icmp_ne (tgt := 131) F.1 F.2.1 (dd D_X8_lates 62 rfl) rfl h (fun c12 h => ?_) (fun c12 h => ?_)
                · refine lv_iload F.1 F.2.1 (dd D_X8_lates 65 rfl) (lv_at hl 7 rfl) ?_
                  obtain rfl := Option.some.inj h
                  exact rw_i (R := rmOf 4 0 0) F hP hD hS hr hlk ⟨Nat.le_of_ble_eq_true rfl, Nat.le_of_ble_eq_true rfl⟩ ⟨rfl, rfl⟩ (dd D_X8_lates 66 rfl)
                · refine lv_iload F.1 F.2.1 (dd D_X8_lates 63 rfl) (lv_at hl 6 rfl) ?_
                  refine lv_goto (tgt := 133) F.1 F.2.1 (dd D_X8_lates 64 rfl) rfl ?_
                  obtain rfl := Option.some.inj h
                  exact rw_i (R := rmOf 4 0 0) F hP hD hS hr hlk ⟨Nat.le_of_ble_eq_true rfl, Nat.le_of_ble_eq_true rfl⟩ ⟨rfl, rfl⟩ (dd D_X8_lates 66 rfl)
              · refine lv_iload F.1 F.2.1 (dd D_X8_lates 58 rfl) (lv_at hl 5 rfl) ?_
                obtain rfl := Option.some.inj h
                exact rw_i (R := rmOf 4 0 0) F hP hD hS hr hlk ⟨Nat.le_of_ble_eq_true rfl, Nat.le_of_ble_eq_true rfl⟩ ⟨rfl, rfl⟩ (dd D_X8_lates 59 rfl)
            · refine lv_aload_n F.1 F.2.1 (dd D_X8_lates 37 rfl) rfl (lv_at hl 0 rfl) ?_
              refine getF F hK hP lf_X8_27 (0) (xp_0 cA ax s) rfl (dd D_X8_lates 38 rfl) ?_
              refine lv_iload F.1 F.2.1 (dd D_X8_lates 39 rfl) (lv_at hl 8 rfl) ?_
              obtain ⟨r13, e14, h⟩ := Option.bind_eq_some_iff.mp h
              refine ro_go (st' := [.int r13]) (rV (rest := []) F (c_X2_laterOf D cA ax s n w8_L9 r13 e14 l) lk_X8_231 (Nat.le_of_ble_eq_true rfl) (preRO hK hS hAb hP) (rcv_2 hK hP (q0 := (40)) (xp_40 cA ax s)) rfl hl rfl (Nat.le_of_ble_eq_true rfl) (dd D_X8_lates 40 rfl) ⟨Nat.le_of_ble_eq_true rfl, Nat.le_of_ble_eq_true rfl⟩) rfl ?_
              refine lv_istore (lv' := [(9, .int r13), (0, .ref (ax 0)), (1, .int p1), (2, .int p2), (3, .int p3), (4, .int (F_J9_min_7cf53 (F_X2_lastOf p1 p2) (9998 : Int32))), (5, .int w5_L9), (6, .int w6_L9), (7, .int w7_L9), (8, .int w8_L9)]) F.1 F.2.1 (dd D_X8_lates 41 rfl) hl (Nat.le_of_ble_eq_true rfl) rfl (fun ls hl => ?_)
              refine lv_iload F.1 F.2.1 (dd D_X8_lates 42 rfl) (lv_at hl 6 rfl) ?_
              refine lv_iload F.1 F.2.1 (dd D_X8_lates 43 rfl) (lv_at hl 0 rfl) ?_
              refine ro_go (st' := [.int (F_J9_min_7cf53 w5_L9 r13)]) (rS (rest := []) F (c_J9_min_7cf53 D cA w5_L9 r13 l) lk_X8_275 (Nat.le_of_ble_eq_true rfl) (preRO hK hS hAb (emP)) rfl hl rfl (Nat.le_of_ble_eq_true rfl) (dd D_X8_lates 44 rfl) ⟨Nat.le_of_ble_eq_true rfl, Nat.le_of_ble_eq_true rfl⟩) rfl ?_
              refine lv_istore (lv' := [(5, .int (F_J9_min_7cf53 w5_L9 r13)), (9, .int r13), (0, .ref (ax 0)), (1, .int p1), (2, .int p2), (3, .int p3), (4, .int (F_J9_min_7cf53 (F_X2_lastOf p1 p2) (9998 : Int32))), (6, .int w6_L9), (7, .int w7_L9), (8, .int w8_L9)]) F.1 F.2.1 (dd D_X8_lates 45 rfl) hl (Nat.le_of_ble_eq_true rfl) rfl (fun ls hl => ?_)
              refine lv_iload F.1 F.2.1 (dd D_X8_lates 46 rfl) (lv_at hl 7 rfl) ?_
              refine lv_iload F.1 F.2.1 (dd D_X8_lates 47 rfl) (lv_at hl 1 rfl) ?_
              refine ro_go (st' := [.int (F_J9_max_7cf53 w6_L9 r13)]) (rS (rest := []) F (c_J9_max_7cf53 D cA w6_L9 r13 l) lk_X8_280 (Nat.le_of_ble_eq_true rfl) (preRO hK hS hAb (emP)) rfl hl rfl (Nat.le_of_ble_eq_true rfl) (dd D_X8_lates 48 rfl) ⟨Nat.le_of_ble_eq_true rfl, Nat.le_of_ble_eq_true rfl⟩) rfl ?_
              refine lv_istore (lv' := [(6, .int (F_J9_max_7cf53 w6_L9 r13)), (5, .int (F_J9_min_7cf53 w5_L9 r13)), (9, .int r13), (0, .ref (ax 0)), (1, .int p1), (2, .int p2), (3, .int p3), (4, .int (F_J9_min_7cf53 (F_X2_lastOf p1 p2) (9998 : Int32))), (7, .int w7_L9), (8, .int w8_L9)]) F.1 F.2.1 (dd D_X8_lates 49 rfl) hl (Nat.le_of_ble_eq_true rfl) rfl (fun ls hl => ?_)
              refine lv_iload F.1 F.2.1 (dd D_X8_lates 50 rfl) (lv_at hl 8 rfl) ?_
              refine lv_iload F.1 F.2.1 (dd D_X8_lates 51 rfl) (lv_at hl 2 rfl) ?_
              refine lv_iadd F.1 F.2.1 (dd D_X8_lates 52 rfl) ?_
              refine lv_istore (lv' := [(7, .int (w7_L9 + r13)), (6, .int (F_J9_max_7cf53 w6_L9 r13)), (5, .int (F_J9_min_7cf53 w5_L9 r13)), (9, .int r13), (0, .ref (ax 0)), (1, .int p1), (2, .int p2), (3, .int p3), (4, .int (F_J9_min_7cf53 (F_X2_lastOf p1 p2) (9998 : Int32))), (8, .int w8_L9)]) F.1 F.2.1 (dd D_X8_lates 53 rfl) hl (Nat.le_of_ble_eq_true rfl) rfl (fun ls hl => ?_)
              refine lv_iinc (v := (w8_L9 + (1 : Int32))) (lv' := [(8, .int (w8_L9 + (1 : Int32))), (7, .int (w7_L9 + r13)), (6, .int (F_J9_max_7cf53 w6_L9 r13)), (5, .int (F_J9_min_7cf53 w5_L9 r13)), (9, .int r13), (0, .ref (ax 0)), (1, .int p1), (2, .int p2), (3, .int p3), (4, .int (F_J9_min_7cf53 (F_X2_lastOf p1 p2) (9998 : Int32)))]) F.1 F.2.1 (dd D_X8_lates 54 rfl) hl (k := 9) rfl (congrArg (fun z => w8_L9 + z) ki_1) (Nat.le_of_ble_eq_true rfl) rfl (fun ls hl => ?_)
              refine lv_goto (tgt := 65) F.1 F.2.1 (dd D_X8_lates 55 rfl) rfl ?_
              exact ih_L9 (F_J9_min_7cf53 w5_L9 r13) (F_J9_max_7cf53 w6_L9 r13) (w7_L9 + r13) (w8_L9 + (1 : Int32)) _ _ ls hP hD hS (lv_sub hl [5, 6, 7, 8, 9, 3, 2, 1, 0] rfl) h
        exact L9 n (1439 : Int32) (0 : Int32) (0 : Int32) p1 _ _ ls hP hD hS (lv_sub hl [5, 6, 7, 8, 4, 3, 2, 1, 0] rfl) h
      · refine lv_aload_n F.1 F.2.1 (dd D_X8_lates 16 rfl) rfl (lv_at hl 0 rfl) ?_
        refine lv_bipush (v := (-5 : Int32)) F.1 F.2.1 (dd D_X8_lates 17 rfl) kb_m5 ?_
        obtain ⟨r15, e16, h⟩ := Option.bind_eq_some_iff.mp h
        refine rwe_all (st' := [.int r15.1]) hD hS hA (rV (rest := []) F (c_X8_refuse D cA ax s n (-5 : Int32) r15 e16 l H.size) lk_X8_64 (Nat.le_of_ble_eq_true rfl) (preRW hK hS hAb hP hD) (rcv_8 hK hP (q0 := (0)) (xp_0 cA ax s)) rfl hl rfl (Nat.le_of_ble_eq_true rfl) (dd D_X8_lates 18 rfl) ⟨Nat.le_of_ble_eq_true rfl, Nat.le_of_ble_eq_true rfl⟩) rfl (fun H locs hP hD hS => ?_)
        obtain rfl := Option.some.inj h
        exact rw_i (R := rmOf 4 0 0) F hP hD hS hr hlk ⟨Nat.le_of_ble_eq_true rfl, Nat.le_of_ble_eq_true rfl⟩ ⟨rfl, rfl⟩ (dd D_X8_lates 19 rfl)
    · refine lv_aload_n F.1 F.2.1 (dd D_X8_lates 9 rfl) rfl (lv_at hl 0 rfl) ?_
      refine lv_bipush (v := (-2 : Int32)) F.1 F.2.1 (dd D_X8_lates 10 rfl) kb_m2 ?_
      obtain ⟨r17, e18, h⟩ := Option.bind_eq_some_iff.mp h
      refine rwe_all (st' := [.int r17.1]) hD hS hA (rV (rest := []) F (c_X8_refuse D cA ax s n (-2 : Int32) r17 e18 l H.size) lk_X8_64 (Nat.le_of_ble_eq_true rfl) (preRW hK hS hAb hP hD) (rcv_8 hK hP (q0 := (0)) (xp_0 cA ax s)) rfl hl rfl (Nat.le_of_ble_eq_true rfl) (dd D_X8_lates 11 rfl) ⟨Nat.le_of_ble_eq_true rfl, Nat.le_of_ble_eq_true rfl⟩) rfl (fun H locs hP hD hS => ?_)
      obtain rfl := Option.some.inj h
      exact rw_i (R := rmOf 4 0 0) F hP hD hS hr hlk ⟨Nat.le_of_ble_eq_true rfl, Nat.le_of_ble_eq_true rfl⟩ ⟨rfl, rfl⟩ (dd D_X8_lates 12 rfl)
def F_X8_date (n : Nat) (s : XS) (p1 : Int32) : Option (Int32 × XS) := bf (F_X8_isDay p1) ((if ((F_X2_ageOf s p1) / (100 : Int32)) ≤ p1 then some ((((F_X2_ageOf s p1) / (100 : Int32)) + (1 : Int32)), s) else (((F_X8_refuse n s (-5 : Int32))).bind fun r2 => some (r2.1, r2.2)))) ((((F_X8_refuse n s (-2 : Int32))).bind fun r4 => some (r4.1, r4.2)))
set_option maxHeartbeats 4000000 in
set_option maxRecDepth 100000 in
theorem c_X8_date (D : va_G) (cA : Nat → ClassId) (ax : Nat → Nat) (s : XS) (n : Nat) (p1 : Int32) (r : (Int32 × XS)) (h : F_X8_date n s p1 = some r) : RW m_X8_date 2 0 0 D cA [.ref (ax 0), .int p1] (xW cA ax s) (exq (some (.int r.1)) (xW cA ax r.2)) := by
  refine RW.ofW gy_X8_date.2.2 (Nat.le_of_ble_eq_true rfl) ?_
  intro l p e sM m below meth c A H locs F hr hlk hnm hK hP hD hS hA hAb ls hl
  have hl : lv_has ls 3 [(0, .ref (ax 0)), (1, .int p1)] := hl
  unfold F_X8_date at h
  refine lv_iload_n F.1 F.2.1 (dd D_X8_date 0 rfl) rfl (lv_at hl 1 rfl) ?_
  refine ro_go (st' := [.int (bI (F_X8_isDay p1))]) (rS (rest := []) F (c_X8_isDay D cA p1 l) lk_X8_113 (Nat.le_of_ble_eq_true rfl) (preRO hK hS hAb (emP)) rfl hl rfl (Nat.le_of_ble_eq_true rfl) (dd D_X8_date 1 rfl) ⟨Nat.le_of_ble_eq_true rfl, Nat.le_of_ble_eq_true rfl⟩) rfl ?_
  refine x_bif_ne (tgt := 14) F.1 F.2.1 (dd D_X8_date 2 rfl) rfl h (fun c6 h => ?_) (fun c6 h => ?_)
  · refine lv_aload_n F.1 F.2.1 (dd D_X8_date 7 rfl) rfl (lv_at hl 0 rfl) ?_
    refine getF F hK hP lf_X8_27 (0) (xp_0 cA ax s) rfl (dd D_X8_date 8 rfl) ?_
    refine lv_iload_n F.1 F.2.1 (dd D_X8_date 9 rfl) rfl (lv_at hl 1 rfl) ?_
    refine ro_go (st' := [.int (F_X2_ageOf s p1)]) (rV (rest := []) F (c_X2_ageOf D cA ax s p1 l) lk_X8_210 (Nat.le_of_ble_eq_true rfl) (preRO hK hS hAb hP) (rcv_2 hK hP (q0 := (40)) (xp_40 cA ax s)) rfl hl rfl (Nat.le_of_ble_eq_true rfl) (dd D_X8_date 10 rfl) ⟨Nat.le_of_ble_eq_true rfl, Nat.le_of_ble_eq_true rfl⟩) rfl ?_
    refine lv_bipush (v := (100 : Int32)) F.1 F.2.1 (dd D_X8_date 11 rfl) kb_100 ?_
    refine lv_idiv F.1 F.2.1 (dd D_X8_date 12 rfl) kd_100 ?_
    refine lv_istore_n (lv' := [(2, .int ((F_X2_ageOf s p1) / (100 : Int32))), (0, .ref (ax 0)), (1, .int p1)]) F.1 F.2.1 (dd D_X8_date 13 rfl) rfl hl (Nat.le_of_ble_eq_true rfl) rfl (fun ls hl => ?_)
    refine lv_iload_n F.1 F.2.1 (dd D_X8_date 14 rfl) rfl (lv_at hl 0 rfl) ?_
    refine lv_iload_n F.1 F.2.1 (dd D_X8_date 15 rfl) rfl (lv_at hl 2 rfl) ?_
    refine x_icmp_le (tgt := 40) F.1 F.2.1 (dd D_X8_date 16 rfl) rfl h (fun c1 h => ?_) (fun c1 h => ?_)
    · refine lv_iload_n F.1 F.2.1 (dd D_X8_date 21 rfl) rfl (lv_at hl 0 rfl) ?_
      refine lv_iconst (v := (1 : Int32)) F.1 F.2.1 (dd D_X8_date 22 rfl) ki_1 ?_
      refine lv_iadd F.1 F.2.1 (dd D_X8_date 23 rfl) ?_
      obtain rfl := Option.some.inj h
      exact rw_i (R := rmOf 2 0 0) F hP hD hS hr hlk ⟨Nat.le_of_ble_eq_true rfl, Nat.le_of_ble_eq_true rfl⟩ ⟨rfl, rfl⟩ (dd D_X8_date 24 rfl)
    · refine lv_aload_n F.1 F.2.1 (dd D_X8_date 17 rfl) rfl (lv_at hl 1 rfl) ?_
      refine lv_bipush (v := (-5 : Int32)) F.1 F.2.1 (dd D_X8_date 18 rfl) kb_m5 ?_
      obtain ⟨r2, e3, h⟩ := Option.bind_eq_some_iff.mp h
      refine rwe_all (st' := [.int r2.1]) hD hS hA (rV (rest := []) F (c_X8_refuse D cA ax s n (-5 : Int32) r2 e3 l H.size) lk_X8_64 (Nat.le_of_ble_eq_true rfl) (preRW hK hS hAb hP hD) (rcv_8 hK hP (q0 := (0)) (xp_0 cA ax s)) rfl hl rfl (Nat.le_of_ble_eq_true rfl) (dd D_X8_date 19 rfl) ⟨Nat.le_of_ble_eq_true rfl, Nat.le_of_ble_eq_true rfl⟩) rfl (fun H locs hP hD hS => ?_)
      refine lv_goto (tgt := 43) F.1 F.2.1 (dd D_X8_date 20 rfl) rfl ?_
      obtain rfl := Option.some.inj h
      exact rw_i (R := rmOf 2 0 0) F hP hD hS hr hlk ⟨Nat.le_of_ble_eq_true rfl, Nat.le_of_ble_eq_true rfl⟩ ⟨rfl, rfl⟩ (dd D_X8_date 24 rfl)
  · refine lv_aload_n F.1 F.2.1 (dd D_X8_date 3 rfl) rfl (lv_at hl 0 rfl) ?_
    refine lv_bipush (v := (-2 : Int32)) F.1 F.2.1 (dd D_X8_date 4 rfl) kb_m2 ?_
    obtain ⟨r4, e5, h⟩ := Option.bind_eq_some_iff.mp h
    refine rwe_all (st' := [.int r4.1]) hD hS hA (rV (rest := []) F (c_X8_refuse D cA ax s n (-2 : Int32) r4 e5 l H.size) lk_X8_64 (Nat.le_of_ble_eq_true rfl) (preRW hK hS hAb hP hD) (rcv_8 hK hP (q0 := (0)) (xp_0 cA ax s)) rfl hl rfl (Nat.le_of_ble_eq_true rfl) (dd D_X8_date 5 rfl) ⟨Nat.le_of_ble_eq_true rfl, Nat.le_of_ble_eq_true rfl⟩) rfl (fun H locs hP hD hS => ?_)
    obtain rfl := Option.some.inj h
    exact rw_i (R := rmOf 2 0 0) F hP hD hS hr hlk ⟨Nat.le_of_ble_eq_true rfl, Nat.le_of_ble_eq_true rfl⟩ ⟨rfl, rfl⟩ (dd D_X8_date 6 rfl)
def F_X8_months (n : Nat) (s : XS) (p1 : Int32) : Option (Int32 × XS) := bf (F_X8_isDay p1) (some ((F_X2_newDaysTill s p1), s)) ((((F_X8_refuse n s (-2 : Int32))).bind fun r1 => some (r1.1, r1.2)))
set_option maxHeartbeats 4000000 in
set_option maxRecDepth 100000 in
theorem c_X8_months (D : va_G) (cA : Nat → ClassId) (ax : Nat → Nat) (s : XS) (n : Nat) (p1 : Int32) (r : (Int32 × XS)) (h : F_X8_months n s p1 = some r) : RW m_X8_months 2 0 0 D cA [.ref (ax 0), .int p1] (xW cA ax s) (exq (some (.int r.1)) (xW cA ax r.2)) := by
  refine RW.ofW gy_X8_months.2.2 (Nat.le_of_ble_eq_true rfl) ?_
  intro l p e sM m below meth c A H locs F hr hlk hnm hK hP hD hS hA hAb ls hl
  have hl : lv_has ls 2 [(0, .ref (ax 0)), (1, .int p1)] := hl
  unfold F_X8_months at h
  refine lv_iload_n F.1 F.2.1 (dd D_X8_months 0 rfl) rfl (lv_at hl 1 rfl) ?_
  refine ro_go (st' := [.int (bI (F_X8_isDay p1))]) (rS (rest := []) F (c_X8_isDay D cA p1 l) lk_X8_113 (Nat.le_of_ble_eq_true rfl) (preRO hK hS hAb (emP)) rfl hl rfl (Nat.le_of_ble_eq_true rfl) (dd D_X8_months 1 rfl) ⟨Nat.le_of_ble_eq_true rfl, Nat.le_of_ble_eq_true rfl⟩) rfl ?_
  refine x_bif_eq (tgt := 18) F.1 F.2.1 (dd D_X8_months 2 rfl) rfl h (fun c3 h => ?_) (fun c3 h => ?_)
  · refine lv_aload_n F.1 F.2.1 (dd D_X8_months 8 rfl) rfl (lv_at hl 0 rfl) ?_
    refine lv_bipush (v := (-2 : Int32)) F.1 F.2.1 (dd D_X8_months 9 rfl) kb_m2 ?_
    obtain ⟨r1, e2, h⟩ := Option.bind_eq_some_iff.mp h
    refine rwe_all (st' := [.int r1.1]) hD hS hA (rV (rest := []) F (c_X8_refuse D cA ax s n (-2 : Int32) r1 e2 l H.size) lk_X8_64 (Nat.le_of_ble_eq_true rfl) (preRW hK hS hAb hP hD) (rcv_8 hK hP (q0 := (0)) (xp_0 cA ax s)) rfl hl rfl (Nat.le_of_ble_eq_true rfl) (dd D_X8_months 10 rfl) ⟨Nat.le_of_ble_eq_true rfl, Nat.le_of_ble_eq_true rfl⟩) rfl (fun H locs hP hD hS => ?_)
    obtain rfl := Option.some.inj h
    exact rw_i (R := rmOf 2 0 0) F hP hD hS hr hlk ⟨Nat.le_of_ble_eq_true rfl, Nat.le_of_ble_eq_true rfl⟩ ⟨rfl, rfl⟩ (dd D_X8_months 11 rfl)
  · refine lv_aload_n F.1 F.2.1 (dd D_X8_months 3 rfl) rfl (lv_at hl 0 rfl) ?_
    refine getF F hK hP lf_X8_27 (0) (xp_0 cA ax s) rfl (dd D_X8_months 4 rfl) ?_
    refine lv_iload_n F.1 F.2.1 (dd D_X8_months 5 rfl) rfl (lv_at hl 1 rfl) ?_
    refine ro_go (st' := [.int (F_X2_newDaysTill s p1)]) (rV (rest := []) F (c_X2_newDaysTill D cA ax s p1 l) lk_X8_283 (Nat.le_of_ble_eq_true rfl) (preRO hK hS hAb hP) (rcv_2 hK hP (q0 := (40)) (xp_40 cA ax s)) rfl hl rfl (Nat.le_of_ble_eq_true rfl) (dd D_X8_months 6 rfl) ⟨Nat.le_of_ble_eq_true rfl, Nat.le_of_ble_eq_true rfl⟩) rfl ?_
    refine lv_goto (tgt := 24) F.1 F.2.1 (dd D_X8_months 7 rfl) rfl ?_
    obtain rfl := Option.some.inj h
    exact rw_i (R := rmOf 2 0 0) F hP hD hS hr hlk ⟨Nat.le_of_ble_eq_true rfl, Nat.le_of_ble_eq_true rfl⟩ ⟨rfl, rfl⟩ (dd D_X8_months 11 rfl)
def F_X8_eclipse (n : Nat) (s : XS) (p1 : Int32) : Option (Int32 × XS) := bf (F_X8_isDay p1) ((((F_X2_pick n s (9 : Int32) (0 : Int32) (0 : Int32) (0 : Int32) none p1 (1000 : Int32) (0 : Int32))).bind fun r4 => some (r4, s))) ((((F_X8_refuse n s (-2 : Int32))).bind fun r1 => some (r1.1, r1.2)))
set_option maxHeartbeats 4000000 in
set_option maxRecDepth 100000 in
theorem c_X8_eclipse (D : va_G) (cA : Nat → ClassId) (ax : Nat → Nat) (s : XS) (n : Nat) (p1 : Int32) (r : (Int32 × XS)) (h : F_X8_eclipse n s p1 = some r) : RW m_X8_eclipse 6 1 5 D cA [.ref (ax 0), .int p1] (xW cA ax s) (exq (some (.int r.1)) (xW cA ax r.2)) := by
  refine RW.ofW gy_X8_eclipse.2.2 (Nat.le_of_ble_eq_true rfl) ?_
  intro l p e sM m below meth c A H locs F hr hlk hnm hK hP hD hS hA hAb ls hl
  have hl : lv_has ls 2 [(0, .ref (ax 0)), (1, .int p1)] := hl
  unfold F_X8_eclipse at h
  refine lv_iload_n F.1 F.2.1 (dd D_X8_eclipse 0 rfl) rfl (lv_at hl 1 rfl) ?_
  refine ro_go (st' := [.int (bI (F_X8_isDay p1))]) (rS (rest := []) F (c_X8_isDay D cA p1 l) lk_X8_113 (Nat.le_of_ble_eq_true rfl) (preRO hK hS hAb (emP)) rfl hl rfl (Nat.le_of_ble_eq_true rfl) (dd D_X8_eclipse 1 rfl) ⟨Nat.le_of_ble_eq_true rfl, Nat.le_of_ble_eq_true rfl⟩) rfl ?_
  refine x_bif_eq (tgt := 31) F.1 F.2.1 (dd D_X8_eclipse 2 rfl) rfl h (fun c6 h => ?_) (fun c6 h => ?_)
  · refine lv_aload_n F.1 F.2.1 (dd D_X8_eclipse 14 rfl) rfl (lv_at hl 0 rfl) ?_
    refine lv_bipush (v := (-2 : Int32)) F.1 F.2.1 (dd D_X8_eclipse 15 rfl) kb_m2 ?_
    obtain ⟨r1, e2, h⟩ := Option.bind_eq_some_iff.mp h
    refine rwe_all (st' := [.int r1.1]) hD hS hA (rV (rest := []) F (c_X8_refuse D cA ax s n (-2 : Int32) r1 e2 l H.size) lk_X8_64 (Nat.le_of_ble_eq_true rfl) (preRW hK hS hAb hP hD) (rcv_8 hK hP (q0 := (0)) (xp_0 cA ax s)) rfl hl rfl (Nat.le_of_ble_eq_true rfl) (dd D_X8_eclipse 16 rfl) ⟨Nat.le_of_ble_eq_true rfl, Nat.le_of_ble_eq_true rfl⟩) rfl (fun H locs hP hD hS => ?_)
    obtain rfl := Option.some.inj h
    exact rw_i (R := rmOf 6 1 5) F hP hD hS hr hlk ⟨Nat.le_of_ble_eq_true rfl, Nat.le_of_ble_eq_true rfl⟩ ⟨rfl, rfl⟩ (dd D_X8_eclipse 17 rfl)
  · refine lv_aload_n F.1 F.2.1 (dd D_X8_eclipse 3 rfl) rfl (lv_at hl 0 rfl) ?_
    refine getF F hK hP lf_X8_27 (0) (xp_0 cA ax s) rfl (dd D_X8_eclipse 4 rfl) ?_
    refine lv_iload_n F.1 F.2.1 (dd D_X8_eclipse 5 rfl) rfl (lv_at hl 1 rfl) ?_
    refine lv_sipush (v := (1000 : Int32)) F.1 F.2.1 (dd D_X8_eclipse 6 rfl) ks_1000 ?_
    refine lv_iconst (v := (0 : Int32)) F.1 F.2.1 (dd D_X8_eclipse 7 rfl) ki_0 ?_
    refine newO F hK hP hD hS hA ln_X8_132 (Nat.le_of_ble_eq_true rfl) (Nat.le_of_ble_eq_true rfl) (dd D_X8_eclipse 8 rfl) (fun q3 H hP hD hS => ?_)
    refine lv_dup F.1 F.2.1 (dd D_X8_eclipse 9 rfl) rfl ?_
    refine lv_bipush (v := (9 : Int32)) F.1 F.2.1 (dd D_X8_eclipse 10 rfl) kb_9 ?_
    refine rwe (V := none) (wc := [(q3, .inr (4, [.int (0 : Int32), .int (0 : Int32), .int (0 : Int32), .int (0 : Int32), .null]))]) (wc' := [(q3, .inr (4, [.int (9 : Int32), .int (0 : Int32), .int (0 : Int32), .int (0 : Int32), .null]))]) (st' := [.ref (q3), .int (0 : Int32), .int (1000 : Int32), .int p1, .ref (ax 40)]) (W' := (xW cA ax s) ++ [(q3, .inr (4, [.int (9 : Int32), .int (0 : Int32), .int (0 : Int32), .int (0 : Int32), .null]))]) hP hD hS hA [63] (jc_last (xp_len cA ax s)) (Nat_nd rfl) rfl (rI (rest := [.ref (q3), .int (0 : Int32), .int (1000 : Int32), .int p1, .ref (ax 40)]) F (c_X4_init_ D cA q3 (9 : Int32) l H.size) lk_X8_134 (Nat.le_of_ble_eq_true rfl) (preRW hK hS hAb (selP hP (jc_last (xp_len cA ax s))) (selD hD (Nat_nd rfl) (jc_last (xp_len cA ax s)))) rfl hl rfl (Nat.le_of_ble_eq_true rfl) (dd D_X8_eclipse 11 rfl) ⟨Nat.le_of_ble_eq_true rfl, Nat.le_of_ble_eq_true rfl⟩) (js_last (xp_len cA ax s)) rfl (fun H locs hP hD hS => ?_)
    obtain ⟨r4, e5, h⟩ := Option.bind_eq_some_iff.mp h
    refine ro_go (st' := [.int r4]) (rV (rest := []) F (c_X2_pick D cA ax s q3 (9 : Int32) (0 : Int32) (0 : Int32) (0 : Int32) none n p1 (1000 : Int32) (0 : Int32) r4 e5 l) lk_X8_256 (Nat.le_of_ble_eq_true rfl) (preRO hK hS hAb hP) (rcv_2 hK hP (q0 := (40)) (gL (xp_40 cA ax s))) rfl hl rfl (Nat.le_of_ble_eq_true rfl) (dd D_X8_eclipse 12 rfl) ⟨Nat.le_of_ble_eq_true rfl, Nat.le_of_ble_eq_true rfl⟩) rfl ?_
    refine lv_goto (tgt := 37) F.1 F.2.1 (dd D_X8_eclipse 13 rfl) rfl ?_
    have hP := preP hP
    have hD := preD hD
    obtain rfl := Option.some.inj h
    exact rw_i (R := rmOf 6 1 5) F hP hD hS hr hlk ⟨Nat.le_of_ble_eq_true rfl, Nat.le_of_ble_eq_true rfl⟩ ⟨rfl, rfl⟩ (dd D_X8_eclipse 17 rfl)
def F_X8_sees (n : Nat) (s : XS) (p1 : Int32) (p2 : Int32) (p3 : Int32) : Option (Int32 × XS) := bf (F_X8_isDay p1) (bf (F_X8_isIn p2 (0 : Int32) (1439 : Int32)) (bf (F_X8_isIn p3 (0 : Int32) (1 : Int32)) ((if p3 = 0 then (((F_X8_orStuck n s (F_X2_heightAt s p1 p2))).bind fun r8 => some (r8.1, r8.2)) else (((F_X8_orStuck n s (F_X2_degreeAt s p1 p2))).bind fun r6 => some (r6.1, r6.2)))) ((((F_X8_refuse n s (-2 : Int32))).bind fun r10 => some (r10.1, r10.2)))) ((((F_X8_refuse n s (-2 : Int32))).bind fun r3 => some (r3.1, r3.2)))) ((((F_X8_refuse n s (-2 : Int32))).bind fun r1 => some (r1.1, r1.2)))
set_option maxHeartbeats 4000000 in
set_option maxRecDepth 100000 in
theorem c_X8_sees (D : va_G) (cA : Nat → ClassId) (ax : Nat → Nat) (s : XS) (n : Nat) (p1 : Int32) (p2 : Int32) (p3 : Int32) (r : (Int32 × XS)) (h : F_X8_sees n s p1 p2 p3 = some r) : RW m_X8_sees 4 0 0 D cA [.ref (ax 0), .int p1, .int p2, .int p3] (xW cA ax s) (exq (some (.int r.1)) (xW cA ax r.2)) := by
  refine RW.ofW gy_X8_sees.2.2 (Nat.le_of_ble_eq_true rfl) ?_
  intro l p e sM m below meth c A H locs F hr hlk hnm hK hP hD hS hA hAb ls hl
  have hl : lv_has ls 4 [(0, .ref (ax 0)), (1, .int p1), (2, .int p2), (3, .int p3)] := hl
  unfold F_X8_sees at h
  refine lv_iload_n F.1 F.2.1 (dd D_X8_sees 0 rfl) rfl (lv_at hl 1 rfl) ?_
  refine ro_go (st' := [.int (bI (F_X8_isDay p1))]) (rS (rest := []) F (c_X8_isDay D cA p1 l) lk_X8_113 (Nat.le_of_ble_eq_true rfl) (preRO hK hS hAb (emP)) rfl hl rfl (Nat.le_of_ble_eq_true rfl) (dd D_X8_sees 1 rfl) ⟨Nat.le_of_ble_eq_true rfl, Nat.le_of_ble_eq_true rfl⟩) rfl ?_
  refine x_bif_eq (tgt := 27) F.1 F.2.1 (dd D_X8_sees 2 rfl) rfl h (fun c14 h => ?_) (fun c14 h => ?_)
  · refine lv_aload_n F.1 F.2.1 (dd D_X8_sees 13 rfl) rfl (lv_at hl 0 rfl) ?_
    refine lv_bipush (v := (-2 : Int32)) F.1 F.2.1 (dd D_X8_sees 14 rfl) kb_m2 ?_
    obtain ⟨r1, e2, h⟩ := Option.bind_eq_some_iff.mp h
    refine rwe_all (st' := [.int r1.1]) hD hS hA (rV (rest := []) F (c_X8_refuse D cA ax s n (-2 : Int32) r1 e2 l H.size) lk_X8_64 (Nat.le_of_ble_eq_true rfl) (preRW hK hS hAb hP hD) (rcv_8 hK hP (q0 := (0)) (xp_0 cA ax s)) rfl hl rfl (Nat.le_of_ble_eq_true rfl) (dd D_X8_sees 15 rfl) ⟨Nat.le_of_ble_eq_true rfl, Nat.le_of_ble_eq_true rfl⟩) rfl (fun H locs hP hD hS => ?_)
    obtain rfl := Option.some.inj h
    exact rw_i (R := rmOf 4 0 0) F hP hD hS hr hlk ⟨Nat.le_of_ble_eq_true rfl, Nat.le_of_ble_eq_true rfl⟩ ⟨rfl, rfl⟩ (dd D_X8_sees 16 rfl)
  · refine lv_iload_n F.1 F.2.1 (dd D_X8_sees 3 rfl) rfl (lv_at hl 2 rfl) ?_
    refine lv_iconst (v := (0 : Int32)) F.1 F.2.1 (dd D_X8_sees 4 rfl) ki_0 ?_
    refine lv_sipush (v := (1439 : Int32)) F.1 F.2.1 (dd D_X8_sees 5 rfl) ks_1439 ?_
    refine ro_go (st' := [.int (bI (F_X8_isIn p2 (0 : Int32) (1439 : Int32)))]) (rS (rest := []) F (c_X8_isIn D cA p2 (0 : Int32) (1439 : Int32) l) lk_X8_60 (Nat.le_of_ble_eq_true rfl) (preRO hK hS hAb (emP)) rfl hl rfl (Nat.le_of_ble_eq_true rfl) (dd D_X8_sees 6 rfl) ⟨Nat.le_of_ble_eq_true rfl, Nat.le_of_ble_eq_true rfl⟩) rfl ?_
    refine x_bif_eq (tgt := 27) F.1 F.2.1 (dd D_X8_sees 7 rfl) rfl h (fun c13 h => ?_) (fun c13 h => ?_)
    · refine lv_aload_n F.1 F.2.1 (dd D_X8_sees 13 rfl) rfl (lv_at hl 0 rfl) ?_
      refine lv_bipush (v := (-2 : Int32)) F.1 F.2.1 (dd D_X8_sees 14 rfl) kb_m2 ?_
      obtain ⟨r3, e4, h⟩ := Option.bind_eq_some_iff.mp h
      refine rwe_all (st' := [.int r3.1]) hD hS hA (rV (rest := []) F (c_X8_refuse D cA ax s n (-2 : Int32) r3 e4 l H.size) lk_X8_64 (Nat.le_of_ble_eq_true rfl) (preRW hK hS hAb hP hD) (rcv_8 hK hP (q0 := (0)) (xp_0 cA ax s)) rfl hl rfl (Nat.le_of_ble_eq_true rfl) (dd D_X8_sees 15 rfl) ⟨Nat.le_of_ble_eq_true rfl, Nat.le_of_ble_eq_true rfl⟩) rfl (fun H locs hP hD hS => ?_)
      obtain rfl := Option.some.inj h
      exact rw_i (R := rmOf 4 0 0) F hP hD hS hr hlk ⟨Nat.le_of_ble_eq_true rfl, Nat.le_of_ble_eq_true rfl⟩ ⟨rfl, rfl⟩ (dd D_X8_sees 16 rfl)
    · refine lv_iload_n F.1 F.2.1 (dd D_X8_sees 8 rfl) rfl (lv_at hl 3 rfl) ?_
      refine lv_iconst (v := (0 : Int32)) F.1 F.2.1 (dd D_X8_sees 9 rfl) ki_0 ?_
      refine lv_iconst (v := (1 : Int32)) F.1 F.2.1 (dd D_X8_sees 10 rfl) ki_1 ?_
      refine ro_go (st' := [.int (bI (F_X8_isIn p3 (0 : Int32) (1 : Int32)))]) (rS (rest := []) F (c_X8_isIn D cA p3 (0 : Int32) (1 : Int32) l) lk_X8_60 (Nat.le_of_ble_eq_true rfl) (preRO hK hS hAb (emP)) rfl hl rfl (Nat.le_of_ble_eq_true rfl) (dd D_X8_sees 11 rfl) ⟨Nat.le_of_ble_eq_true rfl, Nat.le_of_ble_eq_true rfl⟩) rfl ?_
      refine x_bif_ne (tgt := 34) F.1 F.2.1 (dd D_X8_sees 12 rfl) rfl h (fun c12 h => ?_) (fun c12 h => ?_)
      · refine lv_aload_n F.1 F.2.1 (dd D_X8_sees 17 rfl) rfl (lv_at hl 0 rfl) ?_
        refine lv_iload_n F.1 F.2.1 (dd D_X8_sees 18 rfl) rfl (lv_at hl 3 rfl) ?_
        refine x_if_ne (tgt := 51) F.1 F.2.1 (dd D_X8_sees 19 rfl) rfl h (fun c5 h => ?_) (fun c5 h => ?_)
        · refine lv_aload_n F.1 F.2.1 (dd D_X8_sees 26 rfl) rfl (lv_at hl 0 rfl) ?_
          refine getF F hK hP lf_X8_27 (0) (xp_0 cA ax s) rfl (dd D_X8_sees 27 rfl) ?_
          refine lv_iload_n F.1 F.2.1 (dd D_X8_sees 28 rfl) rfl (lv_at hl 1 rfl) ?_
          refine lv_iload_n F.1 F.2.1 (dd D_X8_sees 29 rfl) rfl (lv_at hl 2 rfl) ?_
          refine ro_go (st' := [.int (F_X2_degreeAt s p1 p2), .ref (ax 0)]) (rV (rest := [.ref (ax 0)]) F (c_X2_degreeAt D cA ax s p1 p2 l) lk_X8_289 (Nat.le_of_ble_eq_true rfl) (preRO hK hS hAb hP) (rcv_2 hK hP (q0 := (40)) (xp_40 cA ax s)) rfl hl rfl (Nat.le_of_ble_eq_true rfl) (dd D_X8_sees 30 rfl) ⟨Nat.le_of_ble_eq_true rfl, Nat.le_of_ble_eq_true rfl⟩) rfl ?_
          obtain ⟨r6, e7, h⟩ := Option.bind_eq_some_iff.mp h
          refine rwe_all (st' := [.int r6.1]) hD hS hA (rV (rest := []) F (c_X8_orStuck D cA ax s n (F_X2_degreeAt s p1 p2) r6 e7 l H.size) lk_X8_266 (Nat.le_of_ble_eq_true rfl) (preRW hK hS hAb hP hD) (rcv_8 hK hP (q0 := (0)) (xp_0 cA ax s)) rfl hl rfl (Nat.le_of_ble_eq_true rfl) (dd D_X8_sees 31 rfl) ⟨Nat.le_of_ble_eq_true rfl, Nat.le_of_ble_eq_true rfl⟩) rfl (fun H locs hP hD hS => ?_)
          obtain rfl := Option.some.inj h
          exact rw_i (R := rmOf 4 0 0) F hP hD hS hr hlk ⟨Nat.le_of_ble_eq_true rfl, Nat.le_of_ble_eq_true rfl⟩ ⟨rfl, rfl⟩ (dd D_X8_sees 32 rfl)
        · refine lv_aload_n F.1 F.2.1 (dd D_X8_sees 20 rfl) rfl (lv_at hl 0 rfl) ?_
          refine getF F hK hP lf_X8_27 (0) (xp_0 cA ax s) rfl (dd D_X8_sees 21 rfl) ?_
          refine lv_iload_n F.1 F.2.1 (dd D_X8_sees 22 rfl) rfl (lv_at hl 1 rfl) ?_
          refine lv_iload_n F.1 F.2.1 (dd D_X8_sees 23 rfl) rfl (lv_at hl 2 rfl) ?_
          refine ro_go (st' := [.int (F_X2_heightAt s p1 p2), .ref (ax 0)]) (rV (rest := [.ref (ax 0)]) F (c_X2_heightAt D cA ax s p1 p2 l) lk_X8_286 (Nat.le_of_ble_eq_true rfl) (preRO hK hS hAb hP) (rcv_2 hK hP (q0 := (40)) (xp_40 cA ax s)) rfl hl rfl (Nat.le_of_ble_eq_true rfl) (dd D_X8_sees 24 rfl) ⟨Nat.le_of_ble_eq_true rfl, Nat.le_of_ble_eq_true rfl⟩) rfl ?_
          refine lv_goto (tgt := 60) F.1 F.2.1 (dd D_X8_sees 25 rfl) rfl ?_
          obtain ⟨r8, e9, h⟩ := Option.bind_eq_some_iff.mp h
          refine rwe_all (st' := [.int r8.1]) hD hS hA (rV (rest := []) F (c_X8_orStuck D cA ax s n (F_X2_heightAt s p1 p2) r8 e9 l H.size) lk_X8_266 (Nat.le_of_ble_eq_true rfl) (preRW hK hS hAb hP hD) (rcv_8 hK hP (q0 := (0)) (xp_0 cA ax s)) rfl hl rfl (Nat.le_of_ble_eq_true rfl) (dd D_X8_sees 31 rfl) ⟨Nat.le_of_ble_eq_true rfl, Nat.le_of_ble_eq_true rfl⟩) rfl (fun H locs hP hD hS => ?_)
          obtain rfl := Option.some.inj h
          exact rw_i (R := rmOf 4 0 0) F hP hD hS hr hlk ⟨Nat.le_of_ble_eq_true rfl, Nat.le_of_ble_eq_true rfl⟩ ⟨rfl, rfl⟩ (dd D_X8_sees 32 rfl)
      · refine lv_aload_n F.1 F.2.1 (dd D_X8_sees 13 rfl) rfl (lv_at hl 0 rfl) ?_
        refine lv_bipush (v := (-2 : Int32)) F.1 F.2.1 (dd D_X8_sees 14 rfl) kb_m2 ?_
        obtain ⟨r10, e11, h⟩ := Option.bind_eq_some_iff.mp h
        refine rwe_all (st' := [.int r10.1]) hD hS hA (rV (rest := []) F (c_X8_refuse D cA ax s n (-2 : Int32) r10 e11 l H.size) lk_X8_64 (Nat.le_of_ble_eq_true rfl) (preRW hK hS hAb hP hD) (rcv_8 hK hP (q0 := (0)) (xp_0 cA ax s)) rfl hl rfl (Nat.le_of_ble_eq_true rfl) (dd D_X8_sees 15 rfl) ⟨Nat.le_of_ble_eq_true rfl, Nat.le_of_ble_eq_true rfl⟩) rfl (fun H locs hP hD hS => ?_)
        obtain rfl := Option.some.inj h
        exact rw_i (R := rmOf 4 0 0) F hP hD hS hr hlk ⟨Nat.le_of_ble_eq_true rfl, Nat.le_of_ble_eq_true rfl⟩ ⟨rfl, rfl⟩ (dd D_X8_sees 16 rfl)
def F_X8_picture (n : Nat) (s : XS) (p1 : Int32) (p2 : Int32) (p3 : Int32) : Option (Int32 × XS) := (((F_X8_shelfAt n s p1)).bind fun r1 => oM r1 ((((F_X8_refuse n s (-2 : Int32))).bind fun r5 => some (r5.1, r5.2))) (fun k3 => gd (decide (k3 < 8)) (bf (F_X8_isDay p2) (bf (F_X8_isIn p3 (0 : Int32) (1 : Int32)) ((if (F_X5_refusalAsRow (x_sh s k3) (8 : Int32)) = 0 then (((F_X5_at n (x_sh s k3) (6 : Int32))).bind fun r10 => (((F_X5_at n (x_sh s k3) (7 : Int32))).bind fun r12 => (if (lg_cmp r12 (1 : Int64)) < 0 then (((F_X8_refuse n s (-2 : Int32))).bind fun r15 => some (r15.1, r15.2)) else (if 0 < (lg_cmp r12 (1000 : Int64)) then (((F_X8_refuse n s (-2 : Int32))).bind fun r18 => some (r18.1, r18.2)) else (if (lg_cmp r10 (0 : Int64)) < 0 then (((F_X8_refuse n s (-2 : Int32))).bind fun r21 => some (r21.1, r21.2)) else (if (lg_cmp r10 (1439 : Int64)) ≤ 0 then (if p3 = 0 then (((F_X2_pick n s (11 : Int32) (0 : Int32) (0 : Int32) (0 : Int32) (some k3) p2 (Int64.toInt32 r12) (-1 : Int32))).bind fun r31 => (((F_X8_orStuck n s r31)).bind fun r33 => some (r33.1, r33.2))) else (((F_X2_pick n s (11 : Int32) (0 : Int32) (0 : Int32) (0 : Int32) (some k3) p2 (Int64.toInt32 r12) (0 : Int32))).bind fun r26 => (((F_X8_orStuck n s r26)).bind fun r28 => some (r28.1, r28.2)))) else (((F_X8_refuse n s (-2 : Int32))).bind fun r35 => some (r35.1, r35.2)))))))) else (((F_X8_refuse n s (F_X5_refusalAsRow (x_sh s k3) (8 : Int32)))).bind fun r37 => some (r37.1, r37.2)))) ((((F_X8_refuse n s (-2 : Int32))).bind fun r39 => some (r39.1, r39.2)))) ((((F_X8_refuse n s (-2 : Int32))).bind fun r7 => some (r7.1, r7.2))))))
set_option maxHeartbeats 4000000 in
set_option maxRecDepth 100000 in
theorem c_X8_picture (D : va_G) (cA : Nat → ClassId) (ax : Nat → Nat) (s : XS) (n : Nat) (p1 : Int32) (p2 : Int32) (p3 : Int32) (r : (Int32 × XS)) (h : F_X8_picture n s p1 p2 p3 = some r) : RW m_X8_picture 6 1 5 D cA [.ref (ax 0), .int p1, .int p2, .int p3] (xW cA ax s) (exq (some (.int r.1)) (xW cA ax r.2)) := by
  refine RW.ofW gy_X8_picture.2.2 (Nat.le_of_ble_eq_true rfl) ?_
  intro l p e sM m below meth c A H locs F hr hlk hnm hK hP hD hS hA hAb ls hl
  have hl : lv_has ls 10 [(0, .ref (ax 0)), (1, .int p1), (2, .int p2), (3, .int p3)] := hl
  unfold F_X8_picture at h
  refine lv_aload_n F.1 F.2.1 (dd D_X8_picture 0 rfl) rfl (lv_at hl 0 rfl) ?_
  refine lv_iload_n F.1 F.2.1 (dd D_X8_picture 1 rfl) rfl (lv_at hl 1 rfl) ?_
  obtain ⟨r1, e2, h⟩ := Option.bind_eq_some_iff.mp h
  refine ro_go (st' := [va_rf (Option.map (fun j => ax (46+2*j)) r1)]) (rV (rest := []) F (c_X8_shelfAt D cA ax s n p1 r1 e2 l) lk_X8_56 (Nat.le_of_ble_eq_true rfl) (preRO hK hS hAb hP) (rcv_8 hK hP (q0 := (0)) (xp_0 cA ax s)) rfl hl rfl (Nat.le_of_ble_eq_true rfl) (dd D_X8_picture 2 rfl) ⟨Nat.le_of_ble_eq_true rfl, Nat.le_of_ble_eq_true rfl⟩) rfl ?_
  cases r1 with
  | none =>
    dsimp only [oM] at h
    refine lv_astoreN (lv' := [(4, .null), (0, .ref (ax 0)), (1, .int p1), (2, .int p2), (3, .int p3)]) F.1 F.2.1 (dd D_X8_picture 3 rfl) hl (Nat.le_of_ble_eq_true rfl) rfl (fun ls hl => ?_)
    refine lv_aloadN F.1 F.2.1 (dd D_X8_picture 4 rfl) (lv_at hl 0 rfl) ?_
    refine lv_ifnullN (tgt := 28) F.1 F.2.1 (dd D_X8_picture 5 rfl) rfl ?_
    refine lv_aload_n F.1 F.2.1 (dd D_X8_picture 14 rfl) rfl (lv_at hl 1 rfl) ?_
    refine lv_bipush (v := (-2 : Int32)) F.1 F.2.1 (dd D_X8_picture 15 rfl) kb_m2 ?_
    obtain ⟨r5, e6, h⟩ := Option.bind_eq_some_iff.mp h
    refine rwe_all (st' := [.int r5.1]) hD hS hA (rV (rest := []) F (c_X8_refuse D cA ax s n (-2 : Int32) r5 e6 l H.size) lk_X8_64 (Nat.le_of_ble_eq_true rfl) (preRW hK hS hAb hP hD) (rcv_8 hK hP (q0 := (0)) (xp_0 cA ax s)) rfl hl rfl (Nat.le_of_ble_eq_true rfl) (dd D_X8_picture 16 rfl) ⟨Nat.le_of_ble_eq_true rfl, Nat.le_of_ble_eq_true rfl⟩) rfl (fun H locs hP hD hS => ?_)
    obtain rfl := Option.some.inj h
    exact rw_i (R := rmOf 6 1 5) F hP hD hS hr hlk ⟨Nat.le_of_ble_eq_true rfl, Nat.le_of_ble_eq_true rfl⟩ ⟨rfl, rfl⟩ (dd D_X8_picture 17 rfl)
  | some k3 =>
    dsimp only [oM] at h
    obtain ⟨hk4, h⟩ := gd_some (b := decide (k3 < 8)) h
    have hk4 := of_decide_eq_true hk4
    refine lv_astore (lv' := [(4, .ref (ax (46+2*k3))), (0, .ref (ax 0)), (1, .int p1), (2, .int p2), (3, .int p3)]) F.1 F.2.1 (dd D_X8_picture 3 rfl) hl (Nat.le_of_ble_eq_true rfl) rfl (fun ls hl => ?_)
    refine lv_aload F.1 F.2.1 (dd D_X8_picture 4 rfl) (lv_at hl 0 rfl) ?_
    refine lv_ifnull F.1 F.2.1 (dd D_X8_picture 5 rfl) ?_
    refine lv_iload_n F.1 F.2.1 (dd D_X8_picture 6 rfl) rfl (lv_at hl 3 rfl) ?_
    refine ro_go (st' := [.int (bI (F_X8_isDay p2))]) (rS (rest := []) F (c_X8_isDay D cA p2 l) lk_X8_113 (Nat.le_of_ble_eq_true rfl) (preRO hK hS hAb (emP)) rfl hl rfl (Nat.le_of_ble_eq_true rfl) (dd D_X8_picture 7 rfl) ⟨Nat.le_of_ble_eq_true rfl, Nat.le_of_ble_eq_true rfl⟩) rfl ?_
    refine x_bif_eq (tgt := 28) F.1 F.2.1 (dd D_X8_picture 8 rfl) rfl h (fun c42 h => ?_) (fun c42 h => ?_)
    · refine lv_aload_n F.1 F.2.1 (dd D_X8_picture 14 rfl) rfl (lv_at hl 1 rfl) ?_
      refine lv_bipush (v := (-2 : Int32)) F.1 F.2.1 (dd D_X8_picture 15 rfl) kb_m2 ?_
      obtain ⟨r7, e8, h⟩ := Option.bind_eq_some_iff.mp h
      refine rwe_all (st' := [.int r7.1]) hD hS hA (rV (rest := []) F (c_X8_refuse D cA ax s n (-2 : Int32) r7 e8 l H.size) lk_X8_64 (Nat.le_of_ble_eq_true rfl) (preRW hK hS hAb hP hD) (rcv_8 hK hP (q0 := (0)) (xp_0 cA ax s)) rfl hl rfl (Nat.le_of_ble_eq_true rfl) (dd D_X8_picture 16 rfl) ⟨Nat.le_of_ble_eq_true rfl, Nat.le_of_ble_eq_true rfl⟩) rfl (fun H locs hP hD hS => ?_)
      obtain rfl := Option.some.inj h
      exact rw_i (R := rmOf 6 1 5) F hP hD hS hr hlk ⟨Nat.le_of_ble_eq_true rfl, Nat.le_of_ble_eq_true rfl⟩ ⟨rfl, rfl⟩ (dd D_X8_picture 17 rfl)
    · refine lv_iload_n F.1 F.2.1 (dd D_X8_picture 9 rfl) rfl (lv_at hl 4 rfl) ?_
      refine lv_iconst (v := (0 : Int32)) F.1 F.2.1 (dd D_X8_picture 10 rfl) ki_0 ?_
      refine lv_iconst (v := (1 : Int32)) F.1 F.2.1 (dd D_X8_picture 11 rfl) ki_1 ?_
      refine ro_go (st' := [.int (bI (F_X8_isIn p3 (0 : Int32) (1 : Int32)))]) (rS (rest := []) F (c_X8_isIn D cA p3 (0 : Int32) (1 : Int32) l) lk_X8_60 (Nat.le_of_ble_eq_true rfl) (preRO hK hS hAb (emP)) rfl hl rfl (Nat.le_of_ble_eq_true rfl) (dd D_X8_picture 12 rfl) ⟨Nat.le_of_ble_eq_true rfl, Nat.le_of_ble_eq_true rfl⟩) rfl ?_
      refine x_bif_ne (tgt := 35) F.1 F.2.1 (dd D_X8_picture 13 rfl) rfl h (fun c41 h => ?_) (fun c41 h => ?_)
      · refine lv_aload F.1 F.2.1 (dd D_X8_picture 18 rfl) (lv_at hl 0 rfl) ?_
        refine lv_bipush (v := (8 : Int32)) F.1 F.2.1 (dd D_X8_picture 19 rfl) kb_8 ?_
        refine ro_go (st' := [.int (F_X5_refusalAsRow (x_sh s k3) (8 : Int32))]) (rV (rest := []) F (c_X5_refusalAsRow D cA (fun i => ax (46+2*k3+i)) (x_sh s k3) (8 : Int32) l) lk_X8_72 (Nat.le_of_ble_eq_true rfl) (preRO hK hS hAb (pg_sh hk4 hP)) (rcv_5 hK hP (q0 := (46+2*k3)) (xp_sh cA ax s k3 hk4)) rfl hl rfl (Nat.le_of_ble_eq_true rfl) (dd D_X8_picture 20 rfl) ⟨Nat.le_of_ble_eq_true rfl, Nat.le_of_ble_eq_true rfl⟩) rfl ?_
        refine lv_istore (lv' := [(5, .int (F_X5_refusalAsRow (x_sh s k3) (8 : Int32))), (4, .ref (ax (46+2*k3))), (0, .ref (ax 0)), (1, .int p1), (2, .int p2), (3, .int p3)]) F.1 F.2.1 (dd D_X8_picture 21 rfl) hl (Nat.le_of_ble_eq_true rfl) rfl (fun ls hl => ?_)
        refine lv_iload F.1 F.2.1 (dd D_X8_picture 22 rfl) (lv_at hl 0 rfl) ?_
        refine x_if_eq (tgt := 56) F.1 F.2.1 (dd D_X8_picture 23 rfl) rfl h (fun c9 h => ?_) (fun c9 h => ?_)
        · refine lv_aload F.1 F.2.1 (dd D_X8_picture 28 rfl) (lv_at hl 1 rfl) ?_
          refine lv_bipush (v := (6 : Int32)) F.1 F.2.1 (dd D_X8_picture 29 rfl) kb_6 ?_
          obtain ⟨r10, e11, h⟩ := Option.bind_eq_some_iff.mp h
          refine ro_go (st' := [.long r10]) (rV (rest := []) F (c_X5_at D cA (fun i => ax (46+2*k3+i)) (x_sh s k3) n (6 : Int32) r10 e11 l) lk_X8_101 (Nat.le_of_ble_eq_true rfl) (preRO hK hS hAb (pg_sh hk4 hP)) (rcv_5 hK hP (q0 := (46+2*k3)) (xp_sh cA ax s k3 hk4)) rfl hl rfl (Nat.le_of_ble_eq_true rfl) (dd D_X8_picture 30 rfl) ⟨Nat.le_of_ble_eq_true rfl, Nat.le_of_ble_eq_true rfl⟩) rfl ?_
          refine lv_lstore (lv' := [(6, .long r10), (5, .int (F_X5_refusalAsRow (x_sh s k3) (8 : Int32))), (4, .ref (ax (46+2*k3))), (0, .ref (ax 0)), (1, .int p1), (2, .int p2), (3, .int p3)]) F.1 F.2.1 (dd D_X8_picture 31 rfl) hl (Nat.le_of_ble_eq_true rfl) rfl (fun ls hl => ?_)
          refine lv_aload F.1 F.2.1 (dd D_X8_picture 32 rfl) (lv_at hl 2 rfl) ?_
          refine lv_bipush (v := (7 : Int32)) F.1 F.2.1 (dd D_X8_picture 33 rfl) kb_7 ?_
          obtain ⟨r12, e13, h⟩ := Option.bind_eq_some_iff.mp h
          refine ro_go (st' := [.long r12]) (rV (rest := []) F (c_X5_at D cA (fun i => ax (46+2*k3+i)) (x_sh s k3) n (7 : Int32) r12 e13 l) lk_X8_101 (Nat.le_of_ble_eq_true rfl) (preRO hK hS hAb (pg_sh hk4 hP)) (rcv_5 hK hP (q0 := (46+2*k3)) (xp_sh cA ax s k3 hk4)) rfl hl rfl (Nat.le_of_ble_eq_true rfl) (dd D_X8_picture 34 rfl) ⟨Nat.le_of_ble_eq_true rfl, Nat.le_of_ble_eq_true rfl⟩) rfl ?_
          refine lv_lstore (lv' := [(8, .long r12), (6, .long r10), (5, .int (F_X5_refusalAsRow (x_sh s k3) (8 : Int32))), (4, .ref (ax (46+2*k3))), (0, .ref (ax 0)), (1, .int p1), (2, .int p2), (3, .int p3)]) F.1 F.2.1 (dd D_X8_picture 35 rfl) hl (Nat.le_of_ble_eq_true rfl) rfl (fun ls hl => ?_)
          refine lv_lload F.1 F.2.1 (dd D_X8_picture 36 rfl) (lv_at hl 0 rfl) ?_
          refine lv_lconst (v := (1 : Int64)) F.1 F.2.1 (dd D_X8_picture 37 rfl) kl_1 ?_
          refine W.lcmp F.1 F.2.1 (dd D_X8_picture 38 rfl) ?_
          refine x_if_lt (tgt := 106) F.1 F.2.1 (dd D_X8_picture 39 rfl) rfl h (fun c14 h => ?_) (fun c14 h => ?_)
          · refine lv_aload_n F.1 F.2.1 (dd D_X8_picture 52 rfl) rfl (lv_at hl 4 rfl) ?_
            refine lv_bipush (v := (-2 : Int32)) F.1 F.2.1 (dd D_X8_picture 53 rfl) kb_m2 ?_
            obtain ⟨r15, e16, h⟩ := Option.bind_eq_some_iff.mp h
            refine rwe_all (st' := [.int r15.1]) hD hS hA (rV (rest := []) F (c_X8_refuse D cA ax s n (-2 : Int32) r15 e16 l H.size) lk_X8_64 (Nat.le_of_ble_eq_true rfl) (preRW hK hS hAb hP hD) (rcv_8 hK hP (q0 := (0)) (xp_0 cA ax s)) rfl hl rfl (Nat.le_of_ble_eq_true rfl) (dd D_X8_picture 54 rfl) ⟨Nat.le_of_ble_eq_true rfl, Nat.le_of_ble_eq_true rfl⟩) rfl (fun H locs hP hD hS => ?_)
            obtain rfl := Option.some.inj h
            exact rw_i (R := rmOf 6 1 5) F hP hD hS hr hlk ⟨Nat.le_of_ble_eq_true rfl, Nat.le_of_ble_eq_true rfl⟩ ⟨rfl, rfl⟩ (dd D_X8_picture 55 rfl)
          · refine lv_lload F.1 F.2.1 (dd D_X8_picture 40 rfl) (lv_at hl 0 rfl) ?_
            refine lv_ldc2 (own := RX8) (v := (1000 : Int64)) F.1 F.2.1 F.2.2.2.1 (F.2.2.2.2 _ (kL_X8_292)) (dd D_X8_picture 41 rfl) ?_
            refine W.lcmp F.1 F.2.1 (dd D_X8_picture 42 rfl) ?_
            refine x_if_gt (tgt := 106) F.1 F.2.1 (dd D_X8_picture 43 rfl) rfl h (fun c17 h => ?_) (fun c17 h => ?_)
            · refine lv_aload_n F.1 F.2.1 (dd D_X8_picture 52 rfl) rfl (lv_at hl 4 rfl) ?_
              refine lv_bipush (v := (-2 : Int32)) F.1 F.2.1 (dd D_X8_picture 53 rfl) kb_m2 ?_
              obtain ⟨r18, e19, h⟩ := Option.bind_eq_some_iff.mp h
              refine rwe_all (st' := [.int r18.1]) hD hS hA (rV (rest := []) F (c_X8_refuse D cA ax s n (-2 : Int32) r18 e19 l H.size) lk_X8_64 (Nat.le_of_ble_eq_true rfl) (preRW hK hS hAb hP hD) (rcv_8 hK hP (q0 := (0)) (xp_0 cA ax s)) rfl hl rfl (Nat.le_of_ble_eq_true rfl) (dd D_X8_picture 54 rfl) ⟨Nat.le_of_ble_eq_true rfl, Nat.le_of_ble_eq_true rfl⟩) rfl (fun H locs hP hD hS => ?_)
              obtain rfl := Option.some.inj h
              exact rw_i (R := rmOf 6 1 5) F hP hD hS hr hlk ⟨Nat.le_of_ble_eq_true rfl, Nat.le_of_ble_eq_true rfl⟩ ⟨rfl, rfl⟩ (dd D_X8_picture 55 rfl)
            · refine lv_lload F.1 F.2.1 (dd D_X8_picture 44 rfl) (lv_at hl 1 rfl) ?_
              refine lv_lconst (v := (0 : Int64)) F.1 F.2.1 (dd D_X8_picture 45 rfl) kl_0 ?_
              refine W.lcmp F.1 F.2.1 (dd D_X8_picture 46 rfl) ?_
              refine x_if_lt (tgt := 106) F.1 F.2.1 (dd D_X8_picture 47 rfl) rfl h (fun c20 h => ?_) (fun c20 h => ?_)
              · refine lv_aload_n F.1 F.2.1 (dd D_X8_picture 52 rfl) rfl (lv_at hl 4 rfl) ?_
                refine lv_bipush (v := (-2 : Int32)) F.1 F.2.1 (dd D_X8_picture 53 rfl) kb_m2 ?_
                obtain ⟨r21, e22, h⟩ := Option.bind_eq_some_iff.mp h
                refine rwe_all (st' := [.int r21.1]) hD hS hA (rV (rest := []) F (c_X8_refuse D cA ax s n (-2 : Int32) r21 e22 l H.size) lk_X8_64 (Nat.le_of_ble_eq_true rfl) (preRW hK hS hAb hP hD) (rcv_8 hK hP (q0 := (0)) (xp_0 cA ax s)) rfl hl rfl (Nat.le_of_ble_eq_true rfl) (dd D_X8_picture 54 rfl) ⟨Nat.le_of_ble_eq_true rfl, Nat.le_of_ble_eq_true rfl⟩) rfl (fun H locs hP hD hS => ?_)
                obtain rfl := Option.some.inj h
                exact rw_i (R := rmOf 6 1 5) F hP hD hS hr hlk ⟨Nat.le_of_ble_eq_true rfl, Nat.le_of_ble_eq_true rfl⟩ ⟨rfl, rfl⟩ (dd D_X8_picture 55 rfl)
              · refine lv_lload F.1 F.2.1 (dd D_X8_picture 48 rfl) (lv_at hl 1 rfl) ?_
                refine lv_ldc2 (own := RX8) (v := (1439 : Int64)) F.1 F.2.1 F.2.2.2.1 (F.2.2.2.2 _ (kL_X8_294)) (dd D_X8_picture 49 rfl) ?_
                refine W.lcmp F.1 F.2.1 (dd D_X8_picture 50 rfl) ?_
                refine x_if_le (tgt := 113) F.1 F.2.1 (dd D_X8_picture 51 rfl) rfl h (fun c23 h => ?_) (fun c23 h => ?_)
                · refine lv_aload_n F.1 F.2.1 (dd D_X8_picture 56 rfl) rfl (lv_at hl 4 rfl) ?_
                  refine lv_aload_n F.1 F.2.1 (dd D_X8_picture 57 rfl) rfl (lv_at hl 4 rfl) ?_
                  refine getF F hK hP lf_X8_27 (0) (xp_0 cA ax s) rfl (dd D_X8_picture 58 rfl) ?_
                  refine lv_iload_n F.1 F.2.1 (dd D_X8_picture 59 rfl) rfl (lv_at hl 6 rfl) ?_
                  refine lv_lload F.1 F.2.1 (dd D_X8_picture 60 rfl) (lv_at hl 0 rfl) ?_
                  refine lv_l2i (v := (Int64.toInt32 r12)) F.1 F.2.1 (dd D_X8_picture 61 rfl) rfl ?_
                  refine lv_iload_n F.1 F.2.1 (dd D_X8_picture 62 rfl) rfl (lv_at hl 7 rfl) ?_
                  refine x_if_ne (tgt := 130) F.1 F.2.1 (dd D_X8_picture 63 rfl) rfl h (fun c24 h => ?_) (fun c24 h => ?_)
                  · refine lv_iconst (v := (0 : Int32)) F.1 F.2.1 (dd D_X8_picture 66 rfl) ki_0 ?_
                    refine newO F hK hP hD hS hA ln_X8_132 (Nat.le_of_ble_eq_true rfl) (Nat.le_of_ble_eq_true rfl) (dd D_X8_picture 67 rfl) (fun q25 H hP hD hS => ?_)
                    refine lv_dup F.1 F.2.1 (dd D_X8_picture 68 rfl) rfl ?_
                    refine lv_aload F.1 F.2.1 (dd D_X8_picture 69 rfl) (lv_at hl 3 rfl) ?_
                    refine rwe (V := none) (wc := [(q25, .inr (4, [.int (0 : Int32), .int (0 : Int32), .int (0 : Int32), .int (0 : Int32), .null]))]) (wc' := [(q25, .inr (4, [.int (11 : Int32), .int (0 : Int32), .int (0 : Int32), .int (0 : Int32), .ref (ax (46+2*k3))]))]) (st' := [.ref (q25), .int (0 : Int32), .int (Int64.toInt32 r12), .int p2, .ref (ax 40), .ref (ax 0)]) (W' := (xW cA ax s) ++ [(q25, .inr (4, [.int (11 : Int32), .int (0 : Int32), .int (0 : Int32), .int (0 : Int32), .ref (ax (46+2*k3))]))]) hP hD hS hA [63] (jc_last (xp_len cA ax s)) (Nat_nd rfl) rfl (rI (rest := [.ref (q25), .int (0 : Int32), .int (Int64.toInt32 r12), .int p2, .ref (ax 40), .ref (ax 0)]) F (c_X4_init___ D cA q25 (ax (46+2*k3)) l H.size) lk_X8_296 (Nat.le_of_ble_eq_true rfl) (preRW hK hS hAb (selP hP (jc_last (xp_len cA ax s))) (selD hD (Nat_nd rfl) (jc_last (xp_len cA ax s)))) rfl hl rfl (Nat.le_of_ble_eq_true rfl) (dd D_X8_picture 70 rfl) ⟨Nat.le_of_ble_eq_true rfl, Nat.le_of_ble_eq_true rfl⟩) (js_last (xp_len cA ax s)) rfl (fun H locs hP hD hS => ?_)
                    obtain ⟨r26, e27, h⟩ := Option.bind_eq_some_iff.mp h
                    refine ro_go (st' := [.int r26, .ref (ax 0)]) (rV (rest := [.ref (ax 0)]) F (c_X2_pick D cA ax s q25 (11 : Int32) (0 : Int32) (0 : Int32) (0 : Int32) (some k3) n p2 (Int64.toInt32 r12) (0 : Int32) r26 e27 l) lk_X8_256 (Nat.le_of_ble_eq_true rfl) (preRO hK hS hAb hP) (rcv_2 hK hP (q0 := (40)) (gL (xp_40 cA ax s))) rfl hl rfl (Nat.le_of_ble_eq_true rfl) (dd D_X8_picture 71 rfl) ⟨Nat.le_of_ble_eq_true rfl, Nat.le_of_ble_eq_true rfl⟩) rfl ?_
                    obtain ⟨r28, e29, h⟩ := Option.bind_eq_some_iff.mp h
                    have hP := preP hP
                    have hD := preD hD
                    refine rwe_all (st' := [.int r28.1]) hD hS hA (rV (rest := []) F (c_X8_orStuck D cA ax s n r26 r28 e29 l H.size) lk_X8_266 (Nat.le_of_ble_eq_true rfl) (preRW hK hS hAb hP hD) (rcv_8 hK hP (q0 := (0)) (gL (xp_0 cA ax s))) rfl hl rfl (Nat.le_of_ble_eq_true rfl) (dd D_X8_picture 72 rfl) ⟨Nat.le_of_ble_eq_true rfl, Nat.le_of_ble_eq_true rfl⟩) rfl (fun H locs hP hD hS => ?_)
                    obtain rfl := Option.some.inj h
                    exact rw_i (R := rmOf 6 1 5) F hP hD hS hr hlk ⟨Nat.le_of_ble_eq_true rfl, Nat.le_of_ble_eq_true rfl⟩ ⟨rfl, rfl⟩ (dd D_X8_picture 73 rfl)
                  · refine lv_iconst (v := (-1 : Int32)) F.1 F.2.1 (dd D_X8_picture 64 rfl) ki_m1 ?_
                    refine lv_goto (tgt := 131) F.1 F.2.1 (dd D_X8_picture 65 rfl) rfl ?_
                    refine newO F hK hP hD hS hA ln_X8_132 (Nat.le_of_ble_eq_true rfl) (Nat.le_of_ble_eq_true rfl) (dd D_X8_picture 67 rfl) (fun q30 H hP hD hS => ?_)
                    refine lv_dup F.1 F.2.1 (dd D_X8_picture 68 rfl) rfl ?_
                    refine lv_aload F.1 F.2.1 (dd D_X8_picture 69 rfl) (lv_at hl 3 rfl) ?_
                    refine rwe (V := none) (wc := [(q30, .inr (4, [.int (0 : Int32), .int (0 : Int32), .int (0 : Int32), .int (0 : Int32), .null]))]) (wc' := [(q30, .inr (4, [.int (11 : Int32), .int (0 : Int32), .int (0 : Int32), .int (0 : Int32), .ref (ax (46+2*k3))]))]) (st' := [.ref (q30), .int (-1 : Int32), .int (Int64.toInt32 r12), .int p2, .ref (ax 40), .ref (ax 0)]) (W' := (xW cA ax s) ++ [(q30, .inr (4, [.int (11 : Int32), .int (0 : Int32), .int (0 : Int32), .int (0 : Int32), .ref (ax (46+2*k3))]))]) hP hD hS hA [63] (jc_last (xp_len cA ax s)) (Nat_nd rfl) rfl (rI (rest := [.ref (q30), .int (-1 : Int32), .int (Int64.toInt32 r12), .int p2, .ref (ax 40), .ref (ax 0)]) F (c_X4_init___ D cA q30 (ax (46+2*k3)) l H.size) lk_X8_296 (Nat.le_of_ble_eq_true rfl) (preRW hK hS hAb (selP hP (jc_last (xp_len cA ax s))) (selD hD (Nat_nd rfl) (jc_last (xp_len cA ax s)))) rfl hl rfl (Nat.le_of_ble_eq_true rfl) (dd D_X8_picture 70 rfl) ⟨Nat.le_of_ble_eq_true rfl, Nat.le_of_ble_eq_true rfl⟩) (js_last (xp_len cA ax s)) rfl (fun H locs hP hD hS => ?_)
                    obtain ⟨r31, e32, h⟩ := Option.bind_eq_some_iff.mp h
                    refine ro_go (st' := [.int r31, .ref (ax 0)]) (rV (rest := [.ref (ax 0)]) F (c_X2_pick D cA ax s q30 (11 : Int32) (0 : Int32) (0 : Int32) (0 : Int32) (some k3) n p2 (Int64.toInt32 r12) (-1 : Int32) r31 e32 l) lk_X8_256 (Nat.le_of_ble_eq_true rfl) (preRO hK hS hAb hP) (rcv_2 hK hP (q0 := (40)) (gL (xp_40 cA ax s))) rfl hl rfl (Nat.le_of_ble_eq_true rfl) (dd D_X8_picture 71 rfl) ⟨Nat.le_of_ble_eq_true rfl, Nat.le_of_ble_eq_true rfl⟩) rfl ?_
                    obtain ⟨r33, e34, h⟩ := Option.bind_eq_some_iff.mp h
                    have hP := preP hP
                    have hD := preD hD
                    refine rwe_all (st' := [.int r33.1]) hD hS hA (rV (rest := []) F (c_X8_orStuck D cA ax s n r31 r33 e34 l H.size) lk_X8_266 (Nat.le_of_ble_eq_true rfl) (preRW hK hS hAb hP hD) (rcv_8 hK hP (q0 := (0)) (gL (xp_0 cA ax s))) rfl hl rfl (Nat.le_of_ble_eq_true rfl) (dd D_X8_picture 72 rfl) ⟨Nat.le_of_ble_eq_true rfl, Nat.le_of_ble_eq_true rfl⟩) rfl (fun H locs hP hD hS => ?_)
                    obtain rfl := Option.some.inj h
                    exact rw_i (R := rmOf 6 1 5) F hP hD hS hr hlk ⟨Nat.le_of_ble_eq_true rfl, Nat.le_of_ble_eq_true rfl⟩ ⟨rfl, rfl⟩ (dd D_X8_picture 73 rfl)
                · refine lv_aload_n F.1 F.2.1 (dd D_X8_picture 52 rfl) rfl (lv_at hl 4 rfl) ?_
                  refine lv_bipush (v := (-2 : Int32)) F.1 F.2.1 (dd D_X8_picture 53 rfl) kb_m2 ?_
                  obtain ⟨r35, e36, h⟩ := Option.bind_eq_some_iff.mp h
                  refine rwe_all (st' := [.int r35.1]) hD hS hA (rV (rest := []) F (c_X8_refuse D cA ax s n (-2 : Int32) r35 e36 l H.size) lk_X8_64 (Nat.le_of_ble_eq_true rfl) (preRW hK hS hAb hP hD) (rcv_8 hK hP (q0 := (0)) (xp_0 cA ax s)) rfl hl rfl (Nat.le_of_ble_eq_true rfl) (dd D_X8_picture 54 rfl) ⟨Nat.le_of_ble_eq_true rfl, Nat.le_of_ble_eq_true rfl⟩) rfl (fun H locs hP hD hS => ?_)
                  obtain rfl := Option.some.inj h
                  exact rw_i (R := rmOf 6 1 5) F hP hD hS hr hlk ⟨Nat.le_of_ble_eq_true rfl, Nat.le_of_ble_eq_true rfl⟩ ⟨rfl, rfl⟩ (dd D_X8_picture 55 rfl)
        · refine lv_aload_n F.1 F.2.1 (dd D_X8_picture 24 rfl) rfl (lv_at hl 2 rfl) ?_
          refine lv_iload F.1 F.2.1 (dd D_X8_picture 25 rfl) (lv_at hl 0 rfl) ?_
          obtain ⟨r37, e38, h⟩ := Option.bind_eq_some_iff.mp h
          refine rwe_all (st' := [.int r37.1]) hD hS hA (rV (rest := []) F (c_X8_refuse D cA ax s n (F_X5_refusalAsRow (x_sh s k3) (8 : Int32)) r37 e38 l H.size) lk_X8_64 (Nat.le_of_ble_eq_true rfl) (preRW hK hS hAb hP hD) (rcv_8 hK hP (q0 := (0)) (xp_0 cA ax s)) rfl hl rfl (Nat.le_of_ble_eq_true rfl) (dd D_X8_picture 26 rfl) ⟨Nat.le_of_ble_eq_true rfl, Nat.le_of_ble_eq_true rfl⟩) rfl (fun H locs hP hD hS => ?_)
          obtain rfl := Option.some.inj h
          exact rw_i (R := rmOf 6 1 5) F hP hD hS hr hlk ⟨Nat.le_of_ble_eq_true rfl, Nat.le_of_ble_eq_true rfl⟩ ⟨rfl, rfl⟩ (dd D_X8_picture 27 rfl)
      · refine lv_aload_n F.1 F.2.1 (dd D_X8_picture 14 rfl) rfl (lv_at hl 1 rfl) ?_
        refine lv_bipush (v := (-2 : Int32)) F.1 F.2.1 (dd D_X8_picture 15 rfl) kb_m2 ?_
        obtain ⟨r39, e40, h⟩ := Option.bind_eq_some_iff.mp h
        refine rwe_all (st' := [.int r39.1]) hD hS hA (rV (rest := []) F (c_X8_refuse D cA ax s n (-2 : Int32) r39 e40 l H.size) lk_X8_64 (Nat.le_of_ble_eq_true rfl) (preRW hK hS hAb hP hD) (rcv_8 hK hP (q0 := (0)) (xp_0 cA ax s)) rfl hl rfl (Nat.le_of_ble_eq_true rfl) (dd D_X8_picture 16 rfl) ⟨Nat.le_of_ble_eq_true rfl, Nat.le_of_ble_eq_true rfl⟩) rfl (fun H locs hP hD hS => ?_)
        obtain rfl := Option.some.inj h
        exact rw_i (R := rmOf 6 1 5) F hP hD hS hr hlk ⟨Nat.le_of_ble_eq_true rfl, Nat.le_of_ble_eq_true rfl⟩ ⟨rfl, rfl⟩ (dd D_X8_picture 17 rfl)
def F_X8_seen (n : Nat) (s : XS) (p1 : Int32) (p2 : Int32) : Option (Int32 × XS) := bf (F_X8_isDay p1) (bf (F_X8_isIn p2 (0 : Int32) (50 : Int32)) ((((F_X2_pick n s (10 : Int32) p2 (0 : Int32) (0 : Int32) none p1 (1000 : Int32) (0 : Int32))).bind fun r4 => some (r4, s))) ((((F_X8_refuse n s (-2 : Int32))).bind fun r6 => some (r6.1, r6.2)))) ((((F_X8_refuse n s (-2 : Int32))).bind fun r1 => some (r1.1, r1.2)))
set_option maxHeartbeats 4000000 in
set_option maxRecDepth 100000 in
theorem c_X8_seen (D : va_G) (cA : Nat → ClassId) (ax : Nat → Nat) (s : XS) (n : Nat) (p1 : Int32) (p2 : Int32) (r : (Int32 × XS)) (h : F_X8_seen n s p1 p2 = some r) : RW m_X8_seen 6 1 5 D cA [.ref (ax 0), .int p1, .int p2] (xW cA ax s) (exq (some (.int r.1)) (xW cA ax r.2)) := by
  refine RW.ofW gy_X8_seen.2.2 (Nat.le_of_ble_eq_true rfl) ?_
  intro l p e sM m below meth c A H locs F hr hlk hnm hK hP hD hS hA hAb ls hl
  have hl : lv_has ls 3 [(0, .ref (ax 0)), (1, .int p1), (2, .int p2)] := hl
  unfold F_X8_seen at h
  refine lv_iload_n F.1 F.2.1 (dd D_X8_seen 0 rfl) rfl (lv_at hl 1 rfl) ?_
  refine ro_go (st' := [.int (bI (F_X8_isDay p1))]) (rS (rest := []) F (c_X8_isDay D cA p1 l) lk_X8_113 (Nat.le_of_ble_eq_true rfl) (preRO hK hS hAb (emP)) rfl hl rfl (Nat.le_of_ble_eq_true rfl) (dd D_X8_seen 1 rfl) ⟨Nat.le_of_ble_eq_true rfl, Nat.le_of_ble_eq_true rfl⟩) rfl ?_
  refine x_bif_eq (tgt := 17) F.1 F.2.1 (dd D_X8_seen 2 rfl) rfl h (fun c9 h => ?_) (fun c9 h => ?_)
  · refine lv_aload_n F.1 F.2.1 (dd D_X8_seen 8 rfl) rfl (lv_at hl 0 rfl) ?_
    refine lv_bipush (v := (-2 : Int32)) F.1 F.2.1 (dd D_X8_seen 9 rfl) kb_m2 ?_
    obtain ⟨r1, e2, h⟩ := Option.bind_eq_some_iff.mp h
    refine rwe_all (st' := [.int r1.1]) hD hS hA (rV (rest := []) F (c_X8_refuse D cA ax s n (-2 : Int32) r1 e2 l H.size) lk_X8_64 (Nat.le_of_ble_eq_true rfl) (preRW hK hS hAb hP hD) (rcv_8 hK hP (q0 := (0)) (xp_0 cA ax s)) rfl hl rfl (Nat.le_of_ble_eq_true rfl) (dd D_X8_seen 10 rfl) ⟨Nat.le_of_ble_eq_true rfl, Nat.le_of_ble_eq_true rfl⟩) rfl (fun H locs hP hD hS => ?_)
    obtain rfl := Option.some.inj h
    exact rw_i (R := rmOf 6 1 5) F hP hD hS hr hlk ⟨Nat.le_of_ble_eq_true rfl, Nat.le_of_ble_eq_true rfl⟩ ⟨rfl, rfl⟩ (dd D_X8_seen 11 rfl)
  · refine lv_iload_n F.1 F.2.1 (dd D_X8_seen 3 rfl) rfl (lv_at hl 2 rfl) ?_
    refine lv_iconst (v := (0 : Int32)) F.1 F.2.1 (dd D_X8_seen 4 rfl) ki_0 ?_
    refine lv_bipush (v := (50 : Int32)) F.1 F.2.1 (dd D_X8_seen 5 rfl) kb_50 ?_
    refine ro_go (st' := [.int (bI (F_X8_isIn p2 (0 : Int32) (50 : Int32)))]) (rS (rest := []) F (c_X8_isIn D cA p2 (0 : Int32) (50 : Int32) l) lk_X8_60 (Nat.le_of_ble_eq_true rfl) (preRO hK hS hAb (emP)) rfl hl rfl (Nat.le_of_ble_eq_true rfl) (dd D_X8_seen 6 rfl) ⟨Nat.le_of_ble_eq_true rfl, Nat.le_of_ble_eq_true rfl⟩) rfl ?_
    refine x_bif_ne (tgt := 24) F.1 F.2.1 (dd D_X8_seen 7 rfl) rfl h (fun c8 h => ?_) (fun c8 h => ?_)
    · refine lv_aload_n F.1 F.2.1 (dd D_X8_seen 12 rfl) rfl (lv_at hl 0 rfl) ?_
      refine getF F hK hP lf_X8_27 (0) (xp_0 cA ax s) rfl (dd D_X8_seen 13 rfl) ?_
      refine lv_iload_n F.1 F.2.1 (dd D_X8_seen 14 rfl) rfl (lv_at hl 1 rfl) ?_
      refine lv_sipush (v := (1000 : Int32)) F.1 F.2.1 (dd D_X8_seen 15 rfl) ks_1000 ?_
      refine lv_iconst (v := (0 : Int32)) F.1 F.2.1 (dd D_X8_seen 16 rfl) ki_0 ?_
      refine newO F hK hP hD hS hA ln_X8_132 (Nat.le_of_ble_eq_true rfl) (Nat.le_of_ble_eq_true rfl) (dd D_X8_seen 17 rfl) (fun q3 H hP hD hS => ?_)
      refine lv_dup F.1 F.2.1 (dd D_X8_seen 18 rfl) rfl ?_
      refine lv_bipush (v := (10 : Int32)) F.1 F.2.1 (dd D_X8_seen 19 rfl) kb_10 ?_
      refine lv_iload_n F.1 F.2.1 (dd D_X8_seen 20 rfl) rfl (lv_at hl 2 rfl) ?_
      refine lv_iconst (v := (0 : Int32)) F.1 F.2.1 (dd D_X8_seen 21 rfl) ki_0 ?_
      refine lv_iconst (v := (0 : Int32)) F.1 F.2.1 (dd D_X8_seen 22 rfl) ki_0 ?_
      refine rwe (V := none) (wc := [(q3, .inr (4, [.int (0 : Int32), .int (0 : Int32), .int (0 : Int32), .int (0 : Int32), .null]))]) (wc' := [(q3, .inr (4, [.int (10 : Int32), .int p2, .int (0 : Int32), .int (0 : Int32), .null]))]) (st' := [.ref (q3), .int (0 : Int32), .int (1000 : Int32), .int p1, .ref (ax 40)]) (W' := (xW cA ax s) ++ [(q3, .inr (4, [.int (10 : Int32), .int p2, .int (0 : Int32), .int (0 : Int32), .null]))]) hP hD hS hA [63] (jc_last (xp_len cA ax s)) (Nat_nd rfl) rfl (rI (rest := [.ref (q3), .int (0 : Int32), .int (1000 : Int32), .int p1, .ref (ax 40)]) F (c_X4_init__ D cA q3 (10 : Int32) p2 (0 : Int32) (0 : Int32) l H.size) lk_X8_263 (Nat.le_of_ble_eq_true rfl) (preRW hK hS hAb (selP hP (jc_last (xp_len cA ax s))) (selD hD (Nat_nd rfl) (jc_last (xp_len cA ax s)))) rfl hl rfl (Nat.le_of_ble_eq_true rfl) (dd D_X8_seen 23 rfl) ⟨Nat.le_of_ble_eq_true rfl, Nat.le_of_ble_eq_true rfl⟩) (js_last (xp_len cA ax s)) rfl (fun H locs hP hD hS => ?_)
      obtain ⟨r4, e5, h⟩ := Option.bind_eq_some_iff.mp h
      refine ro_go (st' := [.int r4]) (rV (rest := []) F (c_X2_pick D cA ax s q3 (10 : Int32) p2 (0 : Int32) (0 : Int32) none n p1 (1000 : Int32) (0 : Int32) r4 e5 l) lk_X8_256 (Nat.le_of_ble_eq_true rfl) (preRO hK hS hAb hP) (rcv_2 hK hP (q0 := (40)) (gL (xp_40 cA ax s))) rfl hl rfl (Nat.le_of_ble_eq_true rfl) (dd D_X8_seen 24 rfl) ⟨Nat.le_of_ble_eq_true rfl, Nat.le_of_ble_eq_true rfl⟩) rfl ?_
      have hP := preP hP
      have hD := preD hD
      obtain rfl := Option.some.inj h
      exact rw_i (R := rmOf 6 1 5) F hP hD hS hr hlk ⟨Nat.le_of_ble_eq_true rfl, Nat.le_of_ble_eq_true rfl⟩ ⟨rfl, rfl⟩ (dd D_X8_seen 25 rfl)
    · refine lv_aload_n F.1 F.2.1 (dd D_X8_seen 8 rfl) rfl (lv_at hl 0 rfl) ?_
      refine lv_bipush (v := (-2 : Int32)) F.1 F.2.1 (dd D_X8_seen 9 rfl) kb_m2 ?_
      obtain ⟨r6, e7, h⟩ := Option.bind_eq_some_iff.mp h
      refine rwe_all (st' := [.int r6.1]) hD hS hA (rV (rest := []) F (c_X8_refuse D cA ax s n (-2 : Int32) r6 e7 l H.size) lk_X8_64 (Nat.le_of_ble_eq_true rfl) (preRW hK hS hAb hP hD) (rcv_8 hK hP (q0 := (0)) (xp_0 cA ax s)) rfl hl rfl (Nat.le_of_ble_eq_true rfl) (dd D_X8_seen 10 rfl) ⟨Nat.le_of_ble_eq_true rfl, Nat.le_of_ble_eq_true rfl⟩) rfl (fun H locs hP hD hS => ?_)
      obtain rfl := Option.some.inj h
      exact rw_i (R := rmOf 6 1 5) F hP hD hS hr hlk ⟨Nat.le_of_ble_eq_true rfl, Nat.le_of_ble_eq_true rfl⟩ ⟨rfl, rfl⟩ (dd D_X8_seen 11 rfl)
def F_X8_toldByMost_L8 (n : Nat) (u0 : XS) (ky0 : Nat) (v2 : Int32) : Nat → Int32 → Int32 → Int32 → Option Int32
  | 0, _, _, _ => none
  | kf + 1, w3, w4, w5 => (if v2 ≤ w5 then some (w4) else (((F_X5_at n (x_sh u0 ky0) w5)).bind fun r2 => bf (F_X2_couldBegin u0 r2) ((((F_X5_timesOf n (x_sh u0 ky0) r2 v2)).bind fun r4 => (if r4 ≤ w3 then F_X8_toldByMost_L8 n u0 ky0 v2 kf w3 w4 (w5 + (1 : Int32)) else F_X8_toldByMost_L8 n u0 ky0 v2 kf r4 (Int64.toInt32 r2) (w5 + (1 : Int32))))) (F_X8_toldByMost_L8 n u0 ky0 v2 kf w3 w4 (w5 + (1 : Int32)))))
def F_X8_toldByMost (n : Nat) (s : XS) (k : Nat) (p2 : Int32) : Option Int32 := F_X8_toldByMost_L8 n s k p2 n (0 : Int32) (-1 : Int32) (0 : Int32)
set_option maxHeartbeats 4000000 in
set_option maxRecDepth 100000 in
theorem c_X8_toldByMost (D : va_G) (cA : Nat → ClassId) (ax : Nat → Nat) (s : XS) (k : Nat) (hk : k < 8) (n : Nat) (p2 : Int32) (r : Int32) (h : F_X8_toldByMost n s k p2 = some r) : RO m_X8_toldByMost 2 D cA [.ref (ax 0), .ref (ax (46+2*k)), .int p2] (xW cA ax s) (some (.int r)) := by
  refine RO.ofW gy_X8_toldByMost.2.2 (Nat.le_of_ble_eq_true rfl) ?_
  intro l p e sM m below meth c F hr hlk hK hP hS hAb ls hl
  have hl : lv_has ls 9 [(0, .ref (ax 0)), (1, .ref (ax (46+2*k))), (2, .int p2)] := hl
  unfold F_X8_toldByMost at h
  refine lv_iconst (v := (0 : Int32)) F.1 F.2.1 (dd D_X8_toldByMost 0 rfl) ki_0 ?_
  refine lv_istore_n (lv' := [(3, .int (0 : Int32)), (0, .ref (ax 0)), (1, .ref (ax (46+2*k))), (2, .int p2)]) F.1 F.2.1 (dd D_X8_toldByMost 1 rfl) rfl hl (Nat.le_of_ble_eq_true rfl) rfl (fun ls hl => ?_)
  refine lv_iconst (v := (-1 : Int32)) F.1 F.2.1 (dd D_X8_toldByMost 2 rfl) ki_m1 ?_
  refine lv_istore (lv' := [(4, .int (-1 : Int32)), (3, .int (0 : Int32)), (0, .ref (ax 0)), (1, .ref (ax (46+2*k))), (2, .int p2)]) F.1 F.2.1 (dd D_X8_toldByMost 3 rfl) hl (Nat.le_of_ble_eq_true rfl) rfl (fun ls hl => ?_)
  refine lv_iconst (v := (0 : Int32)) F.1 F.2.1 (dd D_X8_toldByMost 4 rfl) ki_0 ?_
  refine lv_istore (lv' := [(5, .int (0 : Int32)), (4, .int (-1 : Int32)), (3, .int (0 : Int32)), (0, .ref (ax 0)), (1, .ref (ax (46+2*k))), (2, .int p2)]) F.1 F.2.1 (dd D_X8_toldByMost 5 rfl) hl (Nat.le_of_ble_eq_true rfl) rfl (fun ls hl => ?_)
  have L8 : ∀ (kf : Nat) (w3_L8 : Int32) (w4_L8 : Int32) (w5_L8 : Int32) (ls : Array Slot), lv_has ls 9 [(0, .ref (ax 0)), (1, .ref (ax (46+2*k))), (2, .int p2), (3, .int w3_L8), (4, .int w4_L8), (5, .int w5_L8)] → F_X8_toldByMost_L8 n s k p2 kf w3_L8 w4_L8 w5_L8 = some r → Wro 2 (some (.int r)) p l e sM m ([.ref (ax 0), .ref (ax (46+2*k)), .int p2] : List Value).toArray below meth c 8 ls [] := by
    intro kf
    induction kf with
    | zero =>
      intro w3_L8 w4_L8 w5_L8 ls hl h
      cases (show none = some r from h)
    | succ k_L8 ih_L8 =>
      intro w3_L8 w4_L8 w5_L8 ls hl h
      unfold F_X8_toldByMost_L8 at h
      refine lv_iload F.1 F.2.1 (dd D_X8_toldByMost 6 rfl) (lv_at hl 5 rfl) ?_
      refine lv_iload_n F.1 F.2.1 (dd D_X8_toldByMost 7 rfl) rfl (lv_at hl 2 rfl) ?_
      refine x_icmp_ge (tgt := 63) F.1 F.2.1 (dd D_X8_toldByMost 8 rfl) rfl h (fun c9 h => ?_) (fun c9 h => ?_)
      · refine lv_iload F.1 F.2.1 (dd D_X8_toldByMost 33 rfl) (lv_at hl 4 rfl) ?_
        exact ro_i (R := rmOf 2 0 0) F hr hlk (congrArg (Option.map Value.int) h) (dd D_X8_toldByMost 34 rfl)
      · refine lv_aload_n F.1 F.2.1 (dd D_X8_toldByMost 9 rfl) rfl (lv_at hl 1 rfl) ?_
        refine lv_iload F.1 F.2.1 (dd D_X8_toldByMost 10 rfl) (lv_at hl 5 rfl) ?_
        obtain ⟨r10, e11, h⟩ := Option.bind_eq_some_iff.mp h
        refine ro_go (st' := [.long r10]) (rV (rest := []) F (c_X5_at D cA (fun i => ax (46+2*k+i)) (x_sh s k) n w5_L8 r10 e11 l) lk_X8_101 (Nat.le_of_ble_eq_true rfl) (preRO hK hS hAb (pg_sh hk hP)) (rcv_5 hK hP (q0 := (46+2*k)) (xp_sh cA ax s k hk)) rfl hl rfl (Nat.le_of_ble_eq_true rfl) (dd D_X8_toldByMost 11 rfl) ⟨Nat.le_of_ble_eq_true rfl, Nat.le_of_ble_eq_true rfl⟩) rfl ?_
        refine lv_lstore (lv' := [(6, .long r10), (0, .ref (ax 0)), (1, .ref (ax (46+2*k))), (2, .int p2), (3, .int w3_L8), (4, .int w4_L8), (5, .int w5_L8)]) F.1 F.2.1 (dd D_X8_toldByMost 12 rfl) hl (Nat.le_of_ble_eq_true rfl) rfl (fun ls hl => ?_)
        refine lv_aload_n F.1 F.2.1 (dd D_X8_toldByMost 13 rfl) rfl (lv_at hl 1 rfl) ?_
        refine getF F hK hP lf_X8_27 (0) (xp_0 cA ax s) rfl (dd D_X8_toldByMost 14 rfl) ?_
        refine lv_lload F.1 F.2.1 (dd D_X8_toldByMost 15 rfl) (lv_at hl 0 rfl) ?_
        refine ro_go (st' := [.int (bI (F_X2_couldBegin s r10))]) (rV (rest := []) F (c_X2_couldBegin D cA ax s r10 l) lk_X8_303 (Nat.le_of_ble_eq_true rfl) (preRO hK hS hAb hP) (rcv_2 hK hP (q0 := (40)) (xp_40 cA ax s)) rfl hl rfl (Nat.le_of_ble_eq_true rfl) (dd D_X8_toldByMost 16 rfl) ⟨Nat.le_of_ble_eq_true rfl, Nat.le_of_ble_eq_true rfl⟩) rfl ?_
        refine x_bif_eq (tgt := 57) F.1 F.2.1 (dd D_X8_toldByMost 17 rfl) rfl h (fun c15 h => ?_) (fun c15 h => ?_)
        · refine lv_iinc (v := (w5_L8 + (1 : Int32))) (lv' := [(5, .int (w5_L8 + (1 : Int32))), (6, .long r10), (0, .ref (ax 0)), (1, .ref (ax (46+2*k))), (2, .int p2), (3, .int w3_L8), (4, .int w4_L8)]) F.1 F.2.1 (dd D_X8_toldByMost 31 rfl) hl (k := 6) rfl (congrArg (fun z => w5_L8 + z) ki_1) (Nat.le_of_ble_eq_true rfl) rfl (fun ls hl => ?_)
          refine lv_goto (tgt := 8) F.1 F.2.1 (dd D_X8_toldByMost 32 rfl) rfl ?_
          exact ih_L8 w3_L8 w4_L8 (w5_L8 + (1 : Int32)) ls (lv_sub hl [2, 3, 4, 5, 6, 0] rfl) h
        · refine lv_aload_n F.1 F.2.1 (dd D_X8_toldByMost 18 rfl) rfl (lv_at hl 2 rfl) ?_
          refine lv_lload F.1 F.2.1 (dd D_X8_toldByMost 19 rfl) (lv_at hl 0 rfl) ?_
          refine lv_iload_n F.1 F.2.1 (dd D_X8_toldByMost 20 rfl) rfl (lv_at hl 3 rfl) ?_
          obtain ⟨r12, e13, h⟩ := Option.bind_eq_some_iff.mp h
          refine ro_go (st' := [.int r12]) (rV (rest := []) F (c_X5_timesOf D cA (fun i => ax (46+2*k+i)) (x_sh s k) n r10 p2 r12 e13 l) lk_X8_370 (Nat.le_of_ble_eq_true rfl) (preRO hK hS hAb (pg_sh hk hP)) (rcv_5 hK hP (q0 := (46+2*k)) (xp_sh cA ax s k hk)) rfl hl rfl (Nat.le_of_ble_eq_true rfl) (dd D_X8_toldByMost 21 rfl) ⟨Nat.le_of_ble_eq_true rfl, Nat.le_of_ble_eq_true rfl⟩) rfl ?_
          refine lv_istore (lv' := [(8, .int r12), (6, .long r10), (0, .ref (ax 0)), (1, .ref (ax (46+2*k))), (2, .int p2), (3, .int w3_L8), (4, .int w4_L8), (5, .int w5_L8)]) F.1 F.2.1 (dd D_X8_toldByMost 22 rfl) hl (Nat.le_of_ble_eq_true rfl) rfl (fun ls hl => ?_)
          refine lv_iload F.1 F.2.1 (dd D_X8_toldByMost 23 rfl) (lv_at hl 0 rfl) ?_
          refine lv_iload_n F.1 F.2.1 (dd D_X8_toldByMost 24 rfl) rfl (lv_at hl 5 rfl) ?_
          refine x_icmp_le (tgt := 57) F.1 F.2.1 (dd D_X8_toldByMost 25 rfl) rfl h (fun c14 h => ?_) (fun c14 h => ?_)
          · refine lv_iinc (v := (w5_L8 + (1 : Int32))) (lv' := [(5, .int (w5_L8 + (1 : Int32))), (8, .int r12), (6, .long r10), (0, .ref (ax 0)), (1, .ref (ax (46+2*k))), (2, .int p2), (3, .int w3_L8), (4, .int w4_L8)]) F.1 F.2.1 (dd D_X8_toldByMost 31 rfl) hl (k := 7) rfl (congrArg (fun z => w5_L8 + z) ki_1) (Nat.le_of_ble_eq_true rfl) rfl (fun ls hl => ?_)
            refine lv_goto (tgt := 8) F.1 F.2.1 (dd D_X8_toldByMost 32 rfl) rfl ?_
            exact ih_L8 w3_L8 w4_L8 (w5_L8 + (1 : Int32)) ls (lv_sub hl [3, 4, 5, 6, 7, 0] rfl) h
          · refine lv_iload F.1 F.2.1 (dd D_X8_toldByMost 26 rfl) (lv_at hl 0 rfl) ?_
            refine lv_istore_n (lv' := [(3, .int r12), (8, .int r12), (6, .long r10), (0, .ref (ax 0)), (1, .ref (ax (46+2*k))), (2, .int p2), (4, .int w4_L8), (5, .int w5_L8)]) F.1 F.2.1 (dd D_X8_toldByMost 27 rfl) rfl hl (Nat.le_of_ble_eq_true rfl) rfl (fun ls hl => ?_)
            refine lv_lload F.1 F.2.1 (dd D_X8_toldByMost 28 rfl) (lv_at hl 2 rfl) ?_
            refine lv_l2i (v := (Int64.toInt32 r10)) F.1 F.2.1 (dd D_X8_toldByMost 29 rfl) rfl ?_
            refine lv_istore (lv' := [(4, .int (Int64.toInt32 r10)), (3, .int r12), (8, .int r12), (6, .long r10), (0, .ref (ax 0)), (1, .ref (ax (46+2*k))), (2, .int p2), (5, .int w5_L8)]) F.1 F.2.1 (dd D_X8_toldByMost 30 rfl) hl (Nat.le_of_ble_eq_true rfl) rfl (fun ls hl => ?_)
            refine lv_iinc (v := (w5_L8 + (1 : Int32))) (lv' := [(5, .int (w5_L8 + (1 : Int32))), (4, .int (Int64.toInt32 r10)), (3, .int r12), (8, .int r12), (6, .long r10), (0, .ref (ax 0)), (1, .ref (ax (46+2*k))), (2, .int p2)]) F.1 F.2.1 (dd D_X8_toldByMost 31 rfl) hl (k := 7) rfl (congrArg (fun z => w5_L8 + z) ki_1) (Nat.le_of_ble_eq_true rfl) rfl (fun ls hl => ?_)
            refine lv_goto (tgt := 8) F.1 F.2.1 (dd D_X8_toldByMost 32 rfl) rfl ?_
            exact ih_L8 r12 (Int64.toInt32 r10) (w5_L8 + (1 : Int32)) ls (lv_sub hl [5, 6, 7, 2, 1, 0] rfl) h
  exact L8 n (0 : Int32) (-1 : Int32) (0 : Int32) ls (lv_sub hl [3, 4, 5, 2, 1, 0] rfl) h
def F_X8_court (n : Nat) (s : XS) (p1 : Int32) (p2 : Int32) : Option (Int32 × XS) := (((F_X8_shelfAt n s p1)).bind fun r1 => oM r1 ((((F_X8_refuse n s (-2 : Int32))).bind fun r5 => some (r5.1, r5.2))) (fun k3 => gd (decide (k3 < 8)) (bf (F_X8_isIn p2 (1 : Int32) (40 : Int32)) ((if (F_X5_refusalAsRow (x_sh s k3) p2) = 0 then (((F_X8_toldByMost n s k3 p2)).bind fun r8 => some (r8, s)) else (((F_X8_refuse n s (F_X5_refusalAsRow (x_sh s k3) p2))).bind fun r10 => some (r10.1, r10.2)))) ((((F_X8_refuse n s (-2 : Int32))).bind fun r12 => some (r12.1, r12.2))))))
set_option maxHeartbeats 4000000 in
set_option maxRecDepth 100000 in
theorem c_X8_court (D : va_G) (cA : Nat → ClassId) (ax : Nat → Nat) (s : XS) (n : Nat) (p1 : Int32) (p2 : Int32) (r : (Int32 × XS)) (h : F_X8_court n s p1 p2 = some r) : RW m_X8_court 3 0 0 D cA [.ref (ax 0), .int p1, .int p2] (xW cA ax s) (exq (some (.int r.1)) (xW cA ax r.2)) := by
  refine RW.ofW gy_X8_court.2.2 (Nat.le_of_ble_eq_true rfl) ?_
  intro l p e sM m below meth c A H locs F hr hlk hnm hK hP hD hS hA hAb ls hl
  have hl : lv_has ls 5 [(0, .ref (ax 0)), (1, .int p1), (2, .int p2)] := hl
  unfold F_X8_court at h
  refine lv_aload_n F.1 F.2.1 (dd D_X8_court 0 rfl) rfl (lv_at hl 0 rfl) ?_
  refine lv_iload_n F.1 F.2.1 (dd D_X8_court 1 rfl) rfl (lv_at hl 1 rfl) ?_
  obtain ⟨r1, e2, h⟩ := Option.bind_eq_some_iff.mp h
  refine ro_go (st' := [va_rf (Option.map (fun j => ax (46+2*j)) r1)]) (rV (rest := []) F (c_X8_shelfAt D cA ax s n p1 r1 e2 l) lk_X8_56 (Nat.le_of_ble_eq_true rfl) (preRO hK hS hAb hP) (rcv_8 hK hP (q0 := (0)) (xp_0 cA ax s)) rfl hl rfl (Nat.le_of_ble_eq_true rfl) (dd D_X8_court 2 rfl) ⟨Nat.le_of_ble_eq_true rfl, Nat.le_of_ble_eq_true rfl⟩) rfl ?_
  cases r1 with
  | none =>
    dsimp only [oM] at h
    refine lv_astore_nN (lv' := [(3, .null), (0, .ref (ax 0)), (1, .int p1), (2, .int p2)]) F.1 F.2.1 (dd D_X8_court 3 rfl) rfl hl (Nat.le_of_ble_eq_true rfl) rfl (fun ls hl => ?_)
    refine lv_aload_nN F.1 F.2.1 (dd D_X8_court 4 rfl) rfl (lv_at hl 0 rfl) ?_
    refine lv_ifnullN (tgt := 20) F.1 F.2.1 (dd D_X8_court 5 rfl) rfl ?_
    refine lv_aload_n F.1 F.2.1 (dd D_X8_court 11 rfl) rfl (lv_at hl 1 rfl) ?_
    refine lv_bipush (v := (-2 : Int32)) F.1 F.2.1 (dd D_X8_court 12 rfl) kb_m2 ?_
    obtain ⟨r5, e6, h⟩ := Option.bind_eq_some_iff.mp h
    refine rwe_all (st' := [.int r5.1]) hD hS hA (rV (rest := []) F (c_X8_refuse D cA ax s n (-2 : Int32) r5 e6 l H.size) lk_X8_64 (Nat.le_of_ble_eq_true rfl) (preRW hK hS hAb hP hD) (rcv_8 hK hP (q0 := (0)) (xp_0 cA ax s)) rfl hl rfl (Nat.le_of_ble_eq_true rfl) (dd D_X8_court 13 rfl) ⟨Nat.le_of_ble_eq_true rfl, Nat.le_of_ble_eq_true rfl⟩) rfl (fun H locs hP hD hS => ?_)
    obtain rfl := Option.some.inj h
    exact rw_i (R := rmOf 3 0 0) F hP hD hS hr hlk ⟨Nat.le_of_ble_eq_true rfl, Nat.le_of_ble_eq_true rfl⟩ ⟨rfl, rfl⟩ (dd D_X8_court 14 rfl)
  | some k3 =>
    dsimp only [oM] at h
    obtain ⟨hk4, h⟩ := gd_some (b := decide (k3 < 8)) h
    have hk4 := of_decide_eq_true hk4
    refine lv_astore_n (lv' := [(3, .ref (ax (46+2*k3))), (0, .ref (ax 0)), (1, .int p1), (2, .int p2)]) F.1 F.2.1 (dd D_X8_court 3 rfl) rfl hl (Nat.le_of_ble_eq_true rfl) rfl (fun ls hl => ?_)
    refine lv_aload_n F.1 F.2.1 (dd D_X8_court 4 rfl) rfl (lv_at hl 0 rfl) ?_
    refine lv_ifnull F.1 F.2.1 (dd D_X8_court 5 rfl) ?_
    refine lv_iload_n F.1 F.2.1 (dd D_X8_court 6 rfl) rfl (lv_at hl 3 rfl) ?_
    refine lv_iconst (v := (1 : Int32)) F.1 F.2.1 (dd D_X8_court 7 rfl) ki_1 ?_
    refine lv_bipush (v := (40 : Int32)) F.1 F.2.1 (dd D_X8_court 8 rfl) kb_40 ?_
    refine ro_go (st' := [.int (bI (F_X8_isIn p2 (1 : Int32) (40 : Int32)))]) (rS (rest := []) F (c_X8_isIn D cA p2 (1 : Int32) (40 : Int32) l) lk_X8_60 (Nat.le_of_ble_eq_true rfl) (preRO hK hS hAb (emP)) rfl hl rfl (Nat.le_of_ble_eq_true rfl) (dd D_X8_court 9 rfl) ⟨Nat.le_of_ble_eq_true rfl, Nat.le_of_ble_eq_true rfl⟩) rfl ?_
    refine x_bif_ne (tgt := 27) F.1 F.2.1 (dd D_X8_court 10 rfl) rfl h (fun c14 h => ?_) (fun c14 h => ?_)
    · refine lv_aload_n F.1 F.2.1 (dd D_X8_court 15 rfl) rfl (lv_at hl 0 rfl) ?_
      refine lv_iload_n F.1 F.2.1 (dd D_X8_court 16 rfl) rfl (lv_at hl 3 rfl) ?_
      refine ro_go (st' := [.int (F_X5_refusalAsRow (x_sh s k3) p2)]) (rV (rest := []) F (c_X5_refusalAsRow D cA (fun i => ax (46+2*k3+i)) (x_sh s k3) p2 l) lk_X8_72 (Nat.le_of_ble_eq_true rfl) (preRO hK hS hAb (pg_sh hk4 hP)) (rcv_5 hK hP (q0 := (46+2*k3)) (xp_sh cA ax s k3 hk4)) rfl hl rfl (Nat.le_of_ble_eq_true rfl) (dd D_X8_court 17 rfl) ⟨Nat.le_of_ble_eq_true rfl, Nat.le_of_ble_eq_true rfl⟩) rfl ?_
      refine lv_istore (lv' := [(4, .int (F_X5_refusalAsRow (x_sh s k3) p2)), (3, .ref (ax (46+2*k3))), (0, .ref (ax 0)), (1, .int p1), (2, .int p2)]) F.1 F.2.1 (dd D_X8_court 18 rfl) hl (Nat.le_of_ble_eq_true rfl) rfl (fun ls hl => ?_)
      refine lv_iload F.1 F.2.1 (dd D_X8_court 19 rfl) (lv_at hl 0 rfl) ?_
      refine x_if_eq (tgt := 48) F.1 F.2.1 (dd D_X8_court 20 rfl) rfl h (fun c7 h => ?_) (fun c7 h => ?_)
      · refine lv_aload_n F.1 F.2.1 (dd D_X8_court 25 rfl) rfl (lv_at hl 2 rfl) ?_
        refine lv_aload_n F.1 F.2.1 (dd D_X8_court 26 rfl) rfl (lv_at hl 1 rfl) ?_
        refine lv_iload_n F.1 F.2.1 (dd D_X8_court 27 rfl) rfl (lv_at hl 4 rfl) ?_
        obtain ⟨r8, e9, h⟩ := Option.bind_eq_some_iff.mp h
        refine ro_go (st' := [.int r8]) (rV (rest := []) F (c_X8_toldByMost D cA ax s k3 hk4 n p2 r8 e9 l) lk_X8_299 (Nat.le_of_ble_eq_true rfl) (preRO hK hS hAb hP) (rcv_8 hK hP (q0 := (0)) (xp_0 cA ax s)) rfl hl rfl (Nat.le_of_ble_eq_true rfl) (dd D_X8_court 28 rfl) ⟨Nat.le_of_ble_eq_true rfl, Nat.le_of_ble_eq_true rfl⟩) rfl ?_
        obtain rfl := Option.some.inj h
        exact rw_i (R := rmOf 3 0 0) F hP hD hS hr hlk ⟨Nat.le_of_ble_eq_true rfl, Nat.le_of_ble_eq_true rfl⟩ ⟨rfl, rfl⟩ (dd D_X8_court 29 rfl)
      · refine lv_aload_n F.1 F.2.1 (dd D_X8_court 21 rfl) rfl (lv_at hl 2 rfl) ?_
        refine lv_iload F.1 F.2.1 (dd D_X8_court 22 rfl) (lv_at hl 0 rfl) ?_
        obtain ⟨r10, e11, h⟩ := Option.bind_eq_some_iff.mp h
        refine rwe_all (st' := [.int r10.1]) hD hS hA (rV (rest := []) F (c_X8_refuse D cA ax s n (F_X5_refusalAsRow (x_sh s k3) p2) r10 e11 l H.size) lk_X8_64 (Nat.le_of_ble_eq_true rfl) (preRW hK hS hAb hP hD) (rcv_8 hK hP (q0 := (0)) (xp_0 cA ax s)) rfl hl rfl (Nat.le_of_ble_eq_true rfl) (dd D_X8_court 23 rfl) ⟨Nat.le_of_ble_eq_true rfl, Nat.le_of_ble_eq_true rfl⟩) rfl (fun H locs hP hD hS => ?_)
        refine lv_goto (tgt := 54) F.1 F.2.1 (dd D_X8_court 24 rfl) rfl ?_
        obtain rfl := Option.some.inj h
        exact rw_i (R := rmOf 3 0 0) F hP hD hS hr hlk ⟨Nat.le_of_ble_eq_true rfl, Nat.le_of_ble_eq_true rfl⟩ ⟨rfl, rfl⟩ (dd D_X8_court 29 rfl)
    · refine lv_aload_n F.1 F.2.1 (dd D_X8_court 11 rfl) rfl (lv_at hl 1 rfl) ?_
      refine lv_bipush (v := (-2 : Int32)) F.1 F.2.1 (dd D_X8_court 12 rfl) kb_m2 ?_
      obtain ⟨r12, e13, h⟩ := Option.bind_eq_some_iff.mp h
      refine rwe_all (st' := [.int r12.1]) hD hS hA (rV (rest := []) F (c_X8_refuse D cA ax s n (-2 : Int32) r12 e13 l H.size) lk_X8_64 (Nat.le_of_ble_eq_true rfl) (preRW hK hS hAb hP hD) (rcv_8 hK hP (q0 := (0)) (xp_0 cA ax s)) rfl hl rfl (Nat.le_of_ble_eq_true rfl) (dd D_X8_court 13 rfl) ⟨Nat.le_of_ble_eq_true rfl, Nat.le_of_ble_eq_true rfl⟩) rfl (fun H locs hP hD hS => ?_)
      obtain rfl := Option.some.inj h
      exact rw_i (R := rmOf 3 0 0) F hP hD hS hr hlk ⟨Nat.le_of_ble_eq_true rfl, Nat.le_of_ble_eq_true rfl⟩ ⟨rfl, rfl⟩ (dd D_X8_court 14 rfl)
def F_X8_eager_L52 (n : Nat) (u0 : XS) (ky0 : Nat) (v1 : Int32) (v2 : Int32) (v4 : Int32) : Nat → Int32 → Int32 → Option (Int32 × XS)
  | 0, _, _ => none
  | kf + 1, w5, w6 => (if v2 ≤ w6 then some (w5, u0) else (((F_X5_at n (x_sh u0 ky0) w6)).bind fun r9 => bf (F_X2_couldBegin u0 r9) (F_X8_eager_L52 n u0 ky0 v1 v2 v4 kf w5 (w6 + (1 : Int32))) (F_X8_eager_L52 n u0 ky0 v1 v2 v4 kf (w5 + (1 : Int32)) (w6 + (1 : Int32)))))
def F_X8_eager (n : Nat) (s : XS) (p1 : Int32) (p2 : Int32) : Option (Int32 × XS) := (((F_X8_shelfAt n s p1)).bind fun r1 => oM r1 ((((F_X8_refuse n s (-2 : Int32))).bind fun r5 => some (r5.1, r5.2))) (fun k3 => gd (decide (k3 < 8)) (bf (F_X8_isIn p2 (1 : Int32) (40 : Int32)) ((if (F_X5_refusalAsRow (x_sh s k3) p2) = 0 then F_X8_eager_L52 n s k3 p1 p2 (F_X5_refusalAsRow (x_sh s k3) p2) n (0 : Int32) (0 : Int32) else (((F_X8_refuse n s (F_X5_refusalAsRow (x_sh s k3) p2))).bind fun r17 => some (r17.1, r17.2)))) ((((F_X8_refuse n s (-2 : Int32))).bind fun r19 => some (r19.1, r19.2))))))
set_option maxHeartbeats 4000000 in
set_option maxRecDepth 100000 in
theorem c_X8_eager (D : va_G) (cA : Nat → ClassId) (ax : Nat → Nat) (s : XS) (n : Nat) (p1 : Int32) (p2 : Int32) (r : (Int32 × XS)) (h : F_X8_eager n s p1 p2 = some r) : RW m_X8_eager 2 0 0 D cA [.ref (ax 0), .int p1, .int p2] (xW cA ax s) (exq (some (.int r.1)) (xW cA ax r.2)) := by
  refine RW.ofW gy_X8_eager.2.2 (Nat.le_of_ble_eq_true rfl) ?_
  intro l p e sM m below meth c A H locs F hr hlk hnm hK hP hD hS hA hAb ls hl
  have hl : lv_has ls 7 [(0, .ref (ax 0)), (1, .int p1), (2, .int p2)] := hl
  unfold F_X8_eager at h
  refine lv_aload_n F.1 F.2.1 (dd D_X8_eager 0 rfl) rfl (lv_at hl 0 rfl) ?_
  refine lv_iload_n F.1 F.2.1 (dd D_X8_eager 1 rfl) rfl (lv_at hl 1 rfl) ?_
  obtain ⟨r1, e2, h⟩ := Option.bind_eq_some_iff.mp h
  refine ro_go (st' := [va_rf (Option.map (fun j => ax (46+2*j)) r1)]) (rV (rest := []) F (c_X8_shelfAt D cA ax s n p1 r1 e2 l) lk_X8_56 (Nat.le_of_ble_eq_true rfl) (preRO hK hS hAb hP) (rcv_8 hK hP (q0 := (0)) (xp_0 cA ax s)) rfl hl rfl (Nat.le_of_ble_eq_true rfl) (dd D_X8_eager 2 rfl) ⟨Nat.le_of_ble_eq_true rfl, Nat.le_of_ble_eq_true rfl⟩) rfl ?_
  cases r1 with
  | none =>
    dsimp only [oM] at h
    refine lv_astore_nN (lv' := [(3, .null), (0, .ref (ax 0)), (1, .int p1), (2, .int p2)]) F.1 F.2.1 (dd D_X8_eager 3 rfl) rfl hl (Nat.le_of_ble_eq_true rfl) rfl (fun ls hl => ?_)
    refine lv_aload_nN F.1 F.2.1 (dd D_X8_eager 4 rfl) rfl (lv_at hl 0 rfl) ?_
    refine lv_ifnullN (tgt := 20) F.1 F.2.1 (dd D_X8_eager 5 rfl) rfl ?_
    refine lv_aload_n F.1 F.2.1 (dd D_X8_eager 11 rfl) rfl (lv_at hl 1 rfl) ?_
    refine lv_bipush (v := (-2 : Int32)) F.1 F.2.1 (dd D_X8_eager 12 rfl) kb_m2 ?_
    obtain ⟨r5, e6, h⟩ := Option.bind_eq_some_iff.mp h
    refine rwe_all (st' := [.int r5.1]) hD hS hA (rV (rest := []) F (c_X8_refuse D cA ax s n (-2 : Int32) r5 e6 l H.size) lk_X8_64 (Nat.le_of_ble_eq_true rfl) (preRW hK hS hAb hP hD) (rcv_8 hK hP (q0 := (0)) (xp_0 cA ax s)) rfl hl rfl (Nat.le_of_ble_eq_true rfl) (dd D_X8_eager 13 rfl) ⟨Nat.le_of_ble_eq_true rfl, Nat.le_of_ble_eq_true rfl⟩) rfl (fun H locs hP hD hS => ?_)
    obtain rfl := Option.some.inj h
    exact rw_i (R := rmOf 2 0 0) F hP hD hS hr hlk ⟨Nat.le_of_ble_eq_true rfl, Nat.le_of_ble_eq_true rfl⟩ ⟨rfl, rfl⟩ (dd D_X8_eager 14 rfl)
  | some k3 =>
    dsimp only [oM] at h
    obtain ⟨hk4, h⟩ := gd_some (b := decide (k3 < 8)) h
    have hk4 := of_decide_eq_true hk4
    refine lv_astore_n (lv' := [(3, .ref (ax (46+2*k3))), (0, .ref (ax 0)), (1, .int p1), (2, .int p2)]) F.1 F.2.1 (dd D_X8_eager 3 rfl) rfl hl (Nat.le_of_ble_eq_true rfl) rfl (fun ls hl => ?_)
    refine lv_aload_n F.1 F.2.1 (dd D_X8_eager 4 rfl) rfl (lv_at hl 0 rfl) ?_
    refine lv_ifnull F.1 F.2.1 (dd D_X8_eager 5 rfl) ?_
    refine lv_iload_n F.1 F.2.1 (dd D_X8_eager 6 rfl) rfl (lv_at hl 3 rfl) ?_
    refine lv_iconst (v := (1 : Int32)) F.1 F.2.1 (dd D_X8_eager 7 rfl) ki_1 ?_
    refine lv_bipush (v := (40 : Int32)) F.1 F.2.1 (dd D_X8_eager 8 rfl) kb_40 ?_
    refine ro_go (st' := [.int (bI (F_X8_isIn p2 (1 : Int32) (40 : Int32)))]) (rS (rest := []) F (c_X8_isIn D cA p2 (1 : Int32) (40 : Int32) l) lk_X8_60 (Nat.le_of_ble_eq_true rfl) (preRO hK hS hAb (emP)) rfl hl rfl (Nat.le_of_ble_eq_true rfl) (dd D_X8_eager 9 rfl) ⟨Nat.le_of_ble_eq_true rfl, Nat.le_of_ble_eq_true rfl⟩) rfl ?_
    refine x_bif_ne (tgt := 27) F.1 F.2.1 (dd D_X8_eager 10 rfl) rfl h (fun c21 h => ?_) (fun c21 h => ?_)
    · refine lv_aload_n F.1 F.2.1 (dd D_X8_eager 15 rfl) rfl (lv_at hl 0 rfl) ?_
      refine lv_iload_n F.1 F.2.1 (dd D_X8_eager 16 rfl) rfl (lv_at hl 3 rfl) ?_
      refine ro_go (st' := [.int (F_X5_refusalAsRow (x_sh s k3) p2)]) (rV (rest := []) F (c_X5_refusalAsRow D cA (fun i => ax (46+2*k3+i)) (x_sh s k3) p2 l) lk_X8_72 (Nat.le_of_ble_eq_true rfl) (preRO hK hS hAb (pg_sh hk4 hP)) (rcv_5 hK hP (q0 := (46+2*k3)) (xp_sh cA ax s k3 hk4)) rfl hl rfl (Nat.le_of_ble_eq_true rfl) (dd D_X8_eager 17 rfl) ⟨Nat.le_of_ble_eq_true rfl, Nat.le_of_ble_eq_true rfl⟩) rfl ?_
      refine lv_istore (lv' := [(4, .int (F_X5_refusalAsRow (x_sh s k3) p2)), (3, .ref (ax (46+2*k3))), (0, .ref (ax 0)), (1, .int p1), (2, .int p2)]) F.1 F.2.1 (dd D_X8_eager 18 rfl) hl (Nat.le_of_ble_eq_true rfl) rfl (fun ls hl => ?_)
      refine lv_iload F.1 F.2.1 (dd D_X8_eager 19 rfl) (lv_at hl 0 rfl) ?_
      refine x_if_eq (tgt := 46) F.1 F.2.1 (dd D_X8_eager 20 rfl) rfl h (fun c7 h => ?_) (fun c7 h => ?_)
      · refine lv_iconst (v := (0 : Int32)) F.1 F.2.1 (dd D_X8_eager 25 rfl) ki_0 ?_
        refine lv_istore (lv' := [(5, .int (0 : Int32)), (4, .int (F_X5_refusalAsRow (x_sh s k3) p2)), (3, .ref (ax (46+2*k3))), (0, .ref (ax 0)), (1, .int p1), (2, .int p2)]) F.1 F.2.1 (dd D_X8_eager 26 rfl) hl (Nat.le_of_ble_eq_true rfl) rfl (fun ls hl => ?_)
        refine lv_iconst (v := (0 : Int32)) F.1 F.2.1 (dd D_X8_eager 27 rfl) ki_0 ?_
        refine lv_istore (lv' := [(6, .int (0 : Int32)), (5, .int (0 : Int32)), (4, .int (F_X5_refusalAsRow (x_sh s k3) p2)), (3, .ref (ax (46+2*k3))), (0, .ref (ax 0)), (1, .int p1), (2, .int p2)]) F.1 F.2.1 (dd D_X8_eager 28 rfl) hl (Nat.le_of_ble_eq_true rfl) rfl (fun ls hl => ?_)
        have L12 : ∀ (kf : Nat) (w5_L12 : Int32) (w6_L12 : Int32) (H : Heap) (locs : List Loc) (ls : Array Slot), va_P D vwCl (xW cA ax s) H → va_D A (xW cA ax s) → va_S A sM.heap H locs → lv_has ls 7 [(0, .ref (ax 0)), (1, .int p1), (2, .int p2), (3, .ref (ax (46+2*k3))), (4, .int (F_X5_refusalAsRow (x_sh s k3) p2)), (5, .int w5_L12), (6, .int w6_L12)] → F_X8_eager_L52 n s k3 p1 p2 (F_X5_refusalAsRow (x_sh s k3) p2) kf w5_L12 w6_L12 = some r → Wrw 2 0 0 D A (exq (some (.int r.1)) (xW cA ax r.2)) p l e sM m ([.ref (ax 0), .int p1, .int p2] : List Value).toArray below meth c H locs 0 0 52 ls [] := by
          intro kf
          induction kf with
          | zero =>
            intro w5_L12 w6_L12 H locs ls hP hD hS hl h
            cases (show none = some r from h)
          | succ k_L12 ih_L12 =>
            intro w5_L12 w6_L12 H locs ls hP hD hS hl h
            unfold F_X8_eager_L52 at h
            refine lv_iload F.1 F.2.1 (dd D_X8_eager 29 rfl) (lv_at hl 6 rfl) ?_
            refine lv_iload_n F.1 F.2.1 (dd D_X8_eager 30 rfl) rfl (lv_at hl 2 rfl) ?_
            refine x_icmp_ge (tgt := 83) F.1 F.2.1 (dd D_X8_eager 31 rfl) rfl h (fun c13 h => ?_) (fun c13 h => ?_)
            · refine lv_iload F.1 F.2.1 (dd D_X8_eager 42 rfl) (lv_at hl 5 rfl) ?_
              obtain rfl := Option.some.inj h
              exact rw_i (R := rmOf 2 0 0) F hP hD hS hr hlk ⟨Nat.le_of_ble_eq_true rfl, Nat.le_of_ble_eq_true rfl⟩ ⟨rfl, rfl⟩ (dd D_X8_eager 43 rfl)
            · refine lv_aload_n F.1 F.2.1 (dd D_X8_eager 32 rfl) rfl (lv_at hl 0 rfl) ?_
              refine getF F hK hP lf_X8_27 (0) (xp_0 cA ax s) rfl (dd D_X8_eager 33 rfl) ?_
              refine lv_aload_n F.1 F.2.1 (dd D_X8_eager 34 rfl) rfl (lv_at hl 3 rfl) ?_
              refine lv_iload F.1 F.2.1 (dd D_X8_eager 35 rfl) (lv_at hl 6 rfl) ?_
              obtain ⟨r14, e15, h⟩ := Option.bind_eq_some_iff.mp h
              refine ro_go (st' := [.long r14, .ref (ax 40)]) (rV (rest := [.ref (ax 40)]) F (c_X5_at D cA (fun i => ax (46+2*k3+i)) (x_sh s k3) n w6_L12 r14 e15 l) lk_X8_101 (Nat.le_of_ble_eq_true rfl) (preRO hK hS hAb (pg_sh hk4 hP)) (rcv_5 hK hP (q0 := (46+2*k3)) (xp_sh cA ax s k3 hk4)) rfl hl rfl (Nat.le_of_ble_eq_true rfl) (dd D_X8_eager 36 rfl) ⟨Nat.le_of_ble_eq_true rfl, Nat.le_of_ble_eq_true rfl⟩) rfl ?_
              refine ro_go (st' := [.int (bI (F_X2_couldBegin s r14))]) (rV (rest := []) F (c_X2_couldBegin D cA ax s r14 l) lk_X8_303 (Nat.le_of_ble_eq_true rfl) (preRO hK hS hAb hP) (rcv_2 hK hP (q0 := (40)) (xp_40 cA ax s)) rfl hl rfl (Nat.le_of_ble_eq_true rfl) (dd D_X8_eager 37 rfl) ⟨Nat.le_of_ble_eq_true rfl, Nat.le_of_ble_eq_true rfl⟩) rfl ?_
              refine x_bif_ne (tgt := 77) F.1 F.2.1 (dd D_X8_eager 38 rfl) rfl h (fun c16 h => ?_) (fun c16 h => ?_)
              · refine lv_iinc (v := (w6_L12 + (1 : Int32))) (lv' := [(6, .int (w6_L12 + (1 : Int32))), (0, .ref (ax 0)), (1, .int p1), (2, .int p2), (3, .ref (ax (46+2*k3))), (4, .int (F_X5_refusalAsRow (x_sh s k3) p2)), (5, .int w5_L12)]) F.1 F.2.1 (dd D_X8_eager 40 rfl) hl (k := 6) rfl (congrArg (fun z => w6_L12 + z) ki_1) (Nat.le_of_ble_eq_true rfl) rfl (fun ls hl => ?_)
                refine lv_goto (tgt := 52) F.1 F.2.1 (dd D_X8_eager 41 rfl) rfl ?_
                exact ih_L12 w5_L12 (w6_L12 + (1 : Int32)) _ _ ls hP hD hS (lv_sub hl [1, 2, 3, 4, 5, 6, 0] rfl) h
              · refine lv_iinc (v := (w5_L12 + (1 : Int32))) (lv' := [(5, .int (w5_L12 + (1 : Int32))), (0, .ref (ax 0)), (1, .int p1), (2, .int p2), (3, .ref (ax (46+2*k3))), (4, .int (F_X5_refusalAsRow (x_sh s k3) p2)), (6, .int w6_L12)]) F.1 F.2.1 (dd D_X8_eager 39 rfl) hl (k := 5) rfl (congrArg (fun z => w5_L12 + z) ki_1) (Nat.le_of_ble_eq_true rfl) rfl (fun ls hl => ?_)
                refine lv_iinc (v := (w6_L12 + (1 : Int32))) (lv' := [(6, .int (w6_L12 + (1 : Int32))), (5, .int (w5_L12 + (1 : Int32))), (0, .ref (ax 0)), (1, .int p1), (2, .int p2), (3, .ref (ax (46+2*k3))), (4, .int (F_X5_refusalAsRow (x_sh s k3) p2))]) F.1 F.2.1 (dd D_X8_eager 40 rfl) hl (k := 6) rfl (congrArg (fun z => w6_L12 + z) ki_1) (Nat.le_of_ble_eq_true rfl) rfl (fun ls hl => ?_)
                refine lv_goto (tgt := 52) F.1 F.2.1 (dd D_X8_eager 41 rfl) rfl ?_
                exact ih_L12 (w5_L12 + (1 : Int32)) (w6_L12 + (1 : Int32)) _ _ ls hP hD hS (lv_sub hl [2, 3, 4, 5, 6, 1, 0] rfl) h
        exact L12 n (0 : Int32) (0 : Int32) _ _ ls hP hD hS (lv_sub hl [4, 5, 6, 3, 2, 1, 0] rfl) h
      · refine lv_aload_n F.1 F.2.1 (dd D_X8_eager 21 rfl) rfl (lv_at hl 2 rfl) ?_
        refine lv_iload F.1 F.2.1 (dd D_X8_eager 22 rfl) (lv_at hl 0 rfl) ?_
        obtain ⟨r17, e18, h⟩ := Option.bind_eq_some_iff.mp h
        refine rwe_all (st' := [.int r17.1]) hD hS hA (rV (rest := []) F (c_X8_refuse D cA ax s n (F_X5_refusalAsRow (x_sh s k3) p2) r17 e18 l H.size) lk_X8_64 (Nat.le_of_ble_eq_true rfl) (preRW hK hS hAb hP hD) (rcv_8 hK hP (q0 := (0)) (xp_0 cA ax s)) rfl hl rfl (Nat.le_of_ble_eq_true rfl) (dd D_X8_eager 23 rfl) ⟨Nat.le_of_ble_eq_true rfl, Nat.le_of_ble_eq_true rfl⟩) rfl (fun H locs hP hD hS => ?_)
        obtain rfl := Option.some.inj h
        exact rw_i (R := rmOf 2 0 0) F hP hD hS hr hlk ⟨Nat.le_of_ble_eq_true rfl, Nat.le_of_ble_eq_true rfl⟩ ⟨rfl, rfl⟩ (dd D_X8_eager 24 rfl)
    · refine lv_aload_n F.1 F.2.1 (dd D_X8_eager 11 rfl) rfl (lv_at hl 1 rfl) ?_
      refine lv_bipush (v := (-2 : Int32)) F.1 F.2.1 (dd D_X8_eager 12 rfl) kb_m2 ?_
      obtain ⟨r19, e20, h⟩ := Option.bind_eq_some_iff.mp h
      refine rwe_all (st' := [.int r19.1]) hD hS hA (rV (rest := []) F (c_X8_refuse D cA ax s n (-2 : Int32) r19 e20 l H.size) lk_X8_64 (Nat.le_of_ble_eq_true rfl) (preRW hK hS hAb hP hD) (rcv_8 hK hP (q0 := (0)) (xp_0 cA ax s)) rfl hl rfl (Nat.le_of_ble_eq_true rfl) (dd D_X8_eager 13 rfl) ⟨Nat.le_of_ble_eq_true rfl, Nat.le_of_ble_eq_true rfl⟩) rfl (fun H locs hP hD hS => ?_)
      obtain rfl := Option.some.inj h
      exact rw_i (R := rmOf 2 0 0) F hP hD hS hr hlk ⟨Nat.le_of_ble_eq_true rfl, Nat.le_of_ble_eq_true rfl⟩ ⟨rfl, rfl⟩ (dd D_X8_eager 14 rfl)
def F_X8_tide (n : Nat) (s : XS) (p1 : Int32) (p2 : Int32) : Option (Int32 × XS) := bf (F_X8_isDay p1) (bf (F_X8_isIn p2 (0 : Int32) (1439 : Int32)) (some ((F_X2_tideAt s p1 p2), s)) ((((F_X8_refuse n s (-2 : Int32))).bind fun r3 => some (r3.1, r3.2)))) ((((F_X8_refuse n s (-2 : Int32))).bind fun r1 => some (r1.1, r1.2)))
set_option maxHeartbeats 4000000 in
set_option maxRecDepth 100000 in
theorem c_X8_tide (D : va_G) (cA : Nat → ClassId) (ax : Nat → Nat) (s : XS) (n : Nat) (p1 : Int32) (p2 : Int32) (r : (Int32 × XS)) (h : F_X8_tide n s p1 p2 = some r) : RW m_X8_tide 5 0 0 D cA [.ref (ax 0), .int p1, .int p2] (xW cA ax s) (exq (some (.int r.1)) (xW cA ax r.2)) := by
  refine RW.ofW gy_X8_tide.2.2 (Nat.le_of_ble_eq_true rfl) ?_
  intro l p e sM m below meth c A H locs F hr hlk hnm hK hP hD hS hA hAb ls hl
  have hl : lv_has ls 3 [(0, .ref (ax 0)), (1, .int p1), (2, .int p2)] := hl
  unfold F_X8_tide at h
  refine lv_iload_n F.1 F.2.1 (dd D_X8_tide 0 rfl) rfl (lv_at hl 1 rfl) ?_
  refine ro_go (st' := [.int (bI (F_X8_isDay p1))]) (rS (rest := []) F (c_X8_isDay D cA p1 l) lk_X8_113 (Nat.le_of_ble_eq_true rfl) (preRO hK hS hAb (emP)) rfl hl rfl (Nat.le_of_ble_eq_true rfl) (dd D_X8_tide 1 rfl) ⟨Nat.le_of_ble_eq_true rfl, Nat.le_of_ble_eq_true rfl⟩) rfl ?_
  refine x_bif_eq (tgt := 18) F.1 F.2.1 (dd D_X8_tide 2 rfl) rfl h (fun c6 h => ?_) (fun c6 h => ?_)
  · refine lv_aload_n F.1 F.2.1 (dd D_X8_tide 8 rfl) rfl (lv_at hl 0 rfl) ?_
    refine lv_bipush (v := (-2 : Int32)) F.1 F.2.1 (dd D_X8_tide 9 rfl) kb_m2 ?_
    obtain ⟨r1, e2, h⟩ := Option.bind_eq_some_iff.mp h
    refine rwe_all (st' := [.int r1.1]) hD hS hA (rV (rest := []) F (c_X8_refuse D cA ax s n (-2 : Int32) r1 e2 l H.size) lk_X8_64 (Nat.le_of_ble_eq_true rfl) (preRW hK hS hAb hP hD) (rcv_8 hK hP (q0 := (0)) (xp_0 cA ax s)) rfl hl rfl (Nat.le_of_ble_eq_true rfl) (dd D_X8_tide 10 rfl) ⟨Nat.le_of_ble_eq_true rfl, Nat.le_of_ble_eq_true rfl⟩) rfl (fun H locs hP hD hS => ?_)
    obtain rfl := Option.some.inj h
    exact rw_i (R := rmOf 5 0 0) F hP hD hS hr hlk ⟨Nat.le_of_ble_eq_true rfl, Nat.le_of_ble_eq_true rfl⟩ ⟨rfl, rfl⟩ (dd D_X8_tide 11 rfl)
  · refine lv_iload_n F.1 F.2.1 (dd D_X8_tide 3 rfl) rfl (lv_at hl 2 rfl) ?_
    refine lv_iconst (v := (0 : Int32)) F.1 F.2.1 (dd D_X8_tide 4 rfl) ki_0 ?_
    refine lv_sipush (v := (1439 : Int32)) F.1 F.2.1 (dd D_X8_tide 5 rfl) ks_1439 ?_
    refine ro_go (st' := [.int (bI (F_X8_isIn p2 (0 : Int32) (1439 : Int32)))]) (rS (rest := []) F (c_X8_isIn D cA p2 (0 : Int32) (1439 : Int32) l) lk_X8_60 (Nat.le_of_ble_eq_true rfl) (preRO hK hS hAb (emP)) rfl hl rfl (Nat.le_of_ble_eq_true rfl) (dd D_X8_tide 6 rfl) ⟨Nat.le_of_ble_eq_true rfl, Nat.le_of_ble_eq_true rfl⟩) rfl ?_
    refine x_bif_ne (tgt := 25) F.1 F.2.1 (dd D_X8_tide 7 rfl) rfl h (fun c5 h => ?_) (fun c5 h => ?_)
    · refine lv_aload_n F.1 F.2.1 (dd D_X8_tide 12 rfl) rfl (lv_at hl 0 rfl) ?_
      refine getF F hK hP lf_X8_27 (0) (xp_0 cA ax s) rfl (dd D_X8_tide 13 rfl) ?_
      refine lv_iload_n F.1 F.2.1 (dd D_X8_tide 14 rfl) rfl (lv_at hl 1 rfl) ?_
      refine lv_iload_n F.1 F.2.1 (dd D_X8_tide 15 rfl) rfl (lv_at hl 2 rfl) ?_
      refine ro_go (st' := [.int (F_X2_tideAt s p1 p2)]) (rV (rest := []) F (c_X2_tideAt D cA ax s p1 p2 l) lk_X8_307 (Nat.le_of_ble_eq_true rfl) (preRO hK hS hAb hP) (rcv_2 hK hP (q0 := (40)) (xp_40 cA ax s)) rfl hl rfl (Nat.le_of_ble_eq_true rfl) (dd D_X8_tide 16 rfl) ⟨Nat.le_of_ble_eq_true rfl, Nat.le_of_ble_eq_true rfl⟩) rfl ?_
      obtain rfl := Option.some.inj h
      exact rw_i (R := rmOf 5 0 0) F hP hD hS hr hlk ⟨Nat.le_of_ble_eq_true rfl, Nat.le_of_ble_eq_true rfl⟩ ⟨rfl, rfl⟩ (dd D_X8_tide 17 rfl)
    · refine lv_aload_n F.1 F.2.1 (dd D_X8_tide 8 rfl) rfl (lv_at hl 0 rfl) ?_
      refine lv_bipush (v := (-2 : Int32)) F.1 F.2.1 (dd D_X8_tide 9 rfl) kb_m2 ?_
      obtain ⟨r3, e4, h⟩ := Option.bind_eq_some_iff.mp h
      refine rwe_all (st' := [.int r3.1]) hD hS hA (rV (rest := []) F (c_X8_refuse D cA ax s n (-2 : Int32) r3 e4 l H.size) lk_X8_64 (Nat.le_of_ble_eq_true rfl) (preRW hK hS hAb hP hD) (rcv_8 hK hP (q0 := (0)) (xp_0 cA ax s)) rfl hl rfl (Nat.le_of_ble_eq_true rfl) (dd D_X8_tide 10 rfl) ⟨Nat.le_of_ble_eq_true rfl, Nat.le_of_ble_eq_true rfl⟩) rfl (fun H locs hP hD hS => ?_)
      obtain rfl := Option.some.inj h
      exact rw_i (R := rmOf 5 0 0) F hP hD hS hr hlk ⟨Nat.le_of_ble_eq_true rfl, Nat.le_of_ble_eq_true rfl⟩ ⟨rfl, rfl⟩ (dd D_X8_tide 11 rfl)
def F_X8_high (n : Nat) (s : XS) (p1 : Int32) : Option (Int32 × XS) := bf (F_X8_isDay p1) (some ((F_X2_highWaterOf s p1), s)) ((((F_X8_refuse n s (-2 : Int32))).bind fun r1 => some (r1.1, r1.2)))
set_option maxHeartbeats 4000000 in
set_option maxRecDepth 100000 in
theorem c_X8_high (D : va_G) (cA : Nat → ClassId) (ax : Nat → Nat) (s : XS) (n : Nat) (p1 : Int32) (r : (Int32 × XS)) (h : F_X8_high n s p1 = some r) : RW m_X8_high 4 0 0 D cA [.ref (ax 0), .int p1] (xW cA ax s) (exq (some (.int r.1)) (xW cA ax r.2)) := by
  refine RW.ofW gy_X8_high.2.2 (Nat.le_of_ble_eq_true rfl) ?_
  intro l p e sM m below meth c A H locs F hr hlk hnm hK hP hD hS hA hAb ls hl
  have hl : lv_has ls 2 [(0, .ref (ax 0)), (1, .int p1)] := hl
  unfold F_X8_high at h
  refine lv_iload_n F.1 F.2.1 (dd D_X8_high 0 rfl) rfl (lv_at hl 1 rfl) ?_
  refine ro_go (st' := [.int (bI (F_X8_isDay p1))]) (rS (rest := []) F (c_X8_isDay D cA p1 l) lk_X8_113 (Nat.le_of_ble_eq_true rfl) (preRO hK hS hAb (emP)) rfl hl rfl (Nat.le_of_ble_eq_true rfl) (dd D_X8_high 1 rfl) ⟨Nat.le_of_ble_eq_true rfl, Nat.le_of_ble_eq_true rfl⟩) rfl ?_
  refine x_bif_eq (tgt := 18) F.1 F.2.1 (dd D_X8_high 2 rfl) rfl h (fun c3 h => ?_) (fun c3 h => ?_)
  · refine lv_aload_n F.1 F.2.1 (dd D_X8_high 8 rfl) rfl (lv_at hl 0 rfl) ?_
    refine lv_bipush (v := (-2 : Int32)) F.1 F.2.1 (dd D_X8_high 9 rfl) kb_m2 ?_
    obtain ⟨r1, e2, h⟩ := Option.bind_eq_some_iff.mp h
    refine rwe_all (st' := [.int r1.1]) hD hS hA (rV (rest := []) F (c_X8_refuse D cA ax s n (-2 : Int32) r1 e2 l H.size) lk_X8_64 (Nat.le_of_ble_eq_true rfl) (preRW hK hS hAb hP hD) (rcv_8 hK hP (q0 := (0)) (xp_0 cA ax s)) rfl hl rfl (Nat.le_of_ble_eq_true rfl) (dd D_X8_high 10 rfl) ⟨Nat.le_of_ble_eq_true rfl, Nat.le_of_ble_eq_true rfl⟩) rfl (fun H locs hP hD hS => ?_)
    obtain rfl := Option.some.inj h
    exact rw_i (R := rmOf 4 0 0) F hP hD hS hr hlk ⟨Nat.le_of_ble_eq_true rfl, Nat.le_of_ble_eq_true rfl⟩ ⟨rfl, rfl⟩ (dd D_X8_high 11 rfl)
  · refine lv_aload_n F.1 F.2.1 (dd D_X8_high 3 rfl) rfl (lv_at hl 0 rfl) ?_
    refine getF F hK hP lf_X8_27 (0) (xp_0 cA ax s) rfl (dd D_X8_high 4 rfl) ?_
    refine lv_iload_n F.1 F.2.1 (dd D_X8_high 5 rfl) rfl (lv_at hl 1 rfl) ?_
    refine ro_go (st' := [.int (F_X2_highWaterOf s p1)]) (rV (rest := []) F (c_X2_highWaterOf D cA ax s p1 l) lk_X8_310 (Nat.le_of_ble_eq_true rfl) (preRO hK hS hAb hP) (rcv_2 hK hP (q0 := (40)) (xp_40 cA ax s)) rfl hl rfl (Nat.le_of_ble_eq_true rfl) (dd D_X8_high 6 rfl) ⟨Nat.le_of_ble_eq_true rfl, Nat.le_of_ble_eq_true rfl⟩) rfl ?_
    refine lv_goto (tgt := 24) F.1 F.2.1 (dd D_X8_high 7 rfl) rfl ?_
    obtain rfl := Option.some.inj h
    exact rw_i (R := rmOf 4 0 0) F hP hD hS hr hlk ⟨Nat.le_of_ble_eq_true rfl, Nat.le_of_ble_eq_true rfl⟩ ⟨rfl, rfl⟩ (dd D_X8_high 11 rfl)
def F_X8_bone (n : Nat) (s : XS) (p1 : Int32) (p2 : Int32) (p3 : Int32) : Option (Int32 × XS) := (((F_X8_shelfAt n s p1)).bind fun r1 => oM r1 ((((F_X8_refuse n s (-2 : Int32))).bind fun r5 => some (r5.1, r5.2))) (fun k3 => gd (decide (k3 < 8)) (bf (F_X8_isIn p2 (1 : Int32) (40 : Int32)) (bf (F_X8_isIn p3 (0 : Int32) (2 : Int32)) ((if (F_X5_refusalAsRow (x_sh s k3) p2) = 0 then (if p3 = 0 then (((F_X5_monthCounts n (x_sh s k3) p2)).bind fun r16 => some (r16, s)) else (if p3 = (1 : Int32) then (((F_X5_longestRun n (x_sh s k3) p2)).bind fun r14 => some (r14, s)) else (((F_X5_threesOfMonths n (x_sh s k3) p2)).bind fun r12 => some (r12, s)))) else (((F_X8_refuse n s (F_X5_refusalAsRow (x_sh s k3) p2))).bind fun r18 => some (r18.1, r18.2)))) ((((F_X8_refuse n s (-2 : Int32))).bind fun r20 => some (r20.1, r20.2)))) ((((F_X8_refuse n s (-2 : Int32))).bind fun r7 => some (r7.1, r7.2))))))
set_option maxHeartbeats 4000000 in
set_option maxRecDepth 100000 in
theorem c_X8_bone (D : va_G) (cA : Nat → ClassId) (ax : Nat → Nat) (s : XS) (n : Nat) (p1 : Int32) (p2 : Int32) (p3 : Int32) (r : (Int32 × XS)) (h : F_X8_bone n s p1 p2 p3 = some r) : RW m_X8_bone 3 0 0 D cA [.ref (ax 0), .int p1, .int p2, .int p3] (xW cA ax s) (exq (some (.int r.1)) (xW cA ax r.2)) := by
  refine RW.ofW gy_X8_bone.2.2 (Nat.le_of_ble_eq_true rfl) ?_
  intro l p e sM m below meth c A H locs F hr hlk hnm hK hP hD hS hA hAb ls hl
  have hl : lv_has ls 6 [(0, .ref (ax 0)), (1, .int p1), (2, .int p2), (3, .int p3)] := hl
  unfold F_X8_bone at h
  refine lv_aload_n F.1 F.2.1 (dd D_X8_bone 0 rfl) rfl (lv_at hl 0 rfl) ?_
  refine lv_iload_n F.1 F.2.1 (dd D_X8_bone 1 rfl) rfl (lv_at hl 1 rfl) ?_
  obtain ⟨r1, e2, h⟩ := Option.bind_eq_some_iff.mp h
  refine ro_go (st' := [va_rf (Option.map (fun j => ax (46+2*j)) r1)]) (rV (rest := []) F (c_X8_shelfAt D cA ax s n p1 r1 e2 l) lk_X8_56 (Nat.le_of_ble_eq_true rfl) (preRO hK hS hAb hP) (rcv_8 hK hP (q0 := (0)) (xp_0 cA ax s)) rfl hl rfl (Nat.le_of_ble_eq_true rfl) (dd D_X8_bone 2 rfl) ⟨Nat.le_of_ble_eq_true rfl, Nat.le_of_ble_eq_true rfl⟩) rfl ?_
  cases r1 with
  | none =>
    dsimp only [oM] at h
    refine lv_astoreN (lv' := [(4, .null), (0, .ref (ax 0)), (1, .int p1), (2, .int p2), (3, .int p3)]) F.1 F.2.1 (dd D_X8_bone 3 rfl) hl (Nat.le_of_ble_eq_true rfl) rfl (fun ls hl => ?_)
    refine lv_aloadN F.1 F.2.1 (dd D_X8_bone 4 rfl) (lv_at hl 0 rfl) ?_
    refine lv_ifnullN (tgt := 31) F.1 F.2.1 (dd D_X8_bone 5 rfl) rfl ?_
    refine lv_aload_n F.1 F.2.1 (dd D_X8_bone 16 rfl) rfl (lv_at hl 1 rfl) ?_
    refine lv_bipush (v := (-2 : Int32)) F.1 F.2.1 (dd D_X8_bone 17 rfl) kb_m2 ?_
    obtain ⟨r5, e6, h⟩ := Option.bind_eq_some_iff.mp h
    refine rwe_all (st' := [.int r5.1]) hD hS hA (rV (rest := []) F (c_X8_refuse D cA ax s n (-2 : Int32) r5 e6 l H.size) lk_X8_64 (Nat.le_of_ble_eq_true rfl) (preRW hK hS hAb hP hD) (rcv_8 hK hP (q0 := (0)) (xp_0 cA ax s)) rfl hl rfl (Nat.le_of_ble_eq_true rfl) (dd D_X8_bone 18 rfl) ⟨Nat.le_of_ble_eq_true rfl, Nat.le_of_ble_eq_true rfl⟩) rfl (fun H locs hP hD hS => ?_)
    obtain rfl := Option.some.inj h
    exact rw_i (R := rmOf 3 0 0) F hP hD hS hr hlk ⟨Nat.le_of_ble_eq_true rfl, Nat.le_of_ble_eq_true rfl⟩ ⟨rfl, rfl⟩ (dd D_X8_bone 19 rfl)
  | some k3 =>
    dsimp only [oM] at h
    obtain ⟨hk4, h⟩ := gd_some (b := decide (k3 < 8)) h
    have hk4 := of_decide_eq_true hk4
    refine lv_astore (lv' := [(4, .ref (ax (46+2*k3))), (0, .ref (ax 0)), (1, .int p1), (2, .int p2), (3, .int p3)]) F.1 F.2.1 (dd D_X8_bone 3 rfl) hl (Nat.le_of_ble_eq_true rfl) rfl (fun ls hl => ?_)
    refine lv_aload F.1 F.2.1 (dd D_X8_bone 4 rfl) (lv_at hl 0 rfl) ?_
    refine lv_ifnull F.1 F.2.1 (dd D_X8_bone 5 rfl) ?_
    refine lv_iload_n F.1 F.2.1 (dd D_X8_bone 6 rfl) rfl (lv_at hl 3 rfl) ?_
    refine lv_iconst (v := (1 : Int32)) F.1 F.2.1 (dd D_X8_bone 7 rfl) ki_1 ?_
    refine lv_bipush (v := (40 : Int32)) F.1 F.2.1 (dd D_X8_bone 8 rfl) kb_40 ?_
    refine ro_go (st' := [.int (bI (F_X8_isIn p2 (1 : Int32) (40 : Int32)))]) (rS (rest := []) F (c_X8_isIn D cA p2 (1 : Int32) (40 : Int32) l) lk_X8_60 (Nat.le_of_ble_eq_true rfl) (preRO hK hS hAb (emP)) rfl hl rfl (Nat.le_of_ble_eq_true rfl) (dd D_X8_bone 9 rfl) ⟨Nat.le_of_ble_eq_true rfl, Nat.le_of_ble_eq_true rfl⟩) rfl ?_
    refine x_bif_eq (tgt := 31) F.1 F.2.1 (dd D_X8_bone 10 rfl) rfl h (fun c23 h => ?_) (fun c23 h => ?_)
    · refine lv_aload_n F.1 F.2.1 (dd D_X8_bone 16 rfl) rfl (lv_at hl 1 rfl) ?_
      refine lv_bipush (v := (-2 : Int32)) F.1 F.2.1 (dd D_X8_bone 17 rfl) kb_m2 ?_
      obtain ⟨r7, e8, h⟩ := Option.bind_eq_some_iff.mp h
      refine rwe_all (st' := [.int r7.1]) hD hS hA (rV (rest := []) F (c_X8_refuse D cA ax s n (-2 : Int32) r7 e8 l H.size) lk_X8_64 (Nat.le_of_ble_eq_true rfl) (preRW hK hS hAb hP hD) (rcv_8 hK hP (q0 := (0)) (xp_0 cA ax s)) rfl hl rfl (Nat.le_of_ble_eq_true rfl) (dd D_X8_bone 18 rfl) ⟨Nat.le_of_ble_eq_true rfl, Nat.le_of_ble_eq_true rfl⟩) rfl (fun H locs hP hD hS => ?_)
      obtain rfl := Option.some.inj h
      exact rw_i (R := rmOf 3 0 0) F hP hD hS hr hlk ⟨Nat.le_of_ble_eq_true rfl, Nat.le_of_ble_eq_true rfl⟩ ⟨rfl, rfl⟩ (dd D_X8_bone 19 rfl)
    · refine lv_iload_n F.1 F.2.1 (dd D_X8_bone 11 rfl) rfl (lv_at hl 4 rfl) ?_
      refine lv_iconst (v := (0 : Int32)) F.1 F.2.1 (dd D_X8_bone 12 rfl) ki_0 ?_
      refine lv_iconst (v := (2 : Int32)) F.1 F.2.1 (dd D_X8_bone 13 rfl) ki_2 ?_
      refine ro_go (st' := [.int (bI (F_X8_isIn p3 (0 : Int32) (2 : Int32)))]) (rS (rest := []) F (c_X8_isIn D cA p3 (0 : Int32) (2 : Int32) l) lk_X8_60 (Nat.le_of_ble_eq_true rfl) (preRO hK hS hAb (emP)) rfl hl rfl (Nat.le_of_ble_eq_true rfl) (dd D_X8_bone 14 rfl) ⟨Nat.le_of_ble_eq_true rfl, Nat.le_of_ble_eq_true rfl⟩) rfl ?_
      refine x_bif_ne (tgt := 38) F.1 F.2.1 (dd D_X8_bone 15 rfl) rfl h (fun c22 h => ?_) (fun c22 h => ?_)
      · refine lv_aload F.1 F.2.1 (dd D_X8_bone 20 rfl) (lv_at hl 0 rfl) ?_
        refine lv_iload_n F.1 F.2.1 (dd D_X8_bone 21 rfl) rfl (lv_at hl 3 rfl) ?_
        refine ro_go (st' := [.int (F_X5_refusalAsRow (x_sh s k3) p2)]) (rV (rest := []) F (c_X5_refusalAsRow D cA (fun i => ax (46+2*k3+i)) (x_sh s k3) p2 l) lk_X8_72 (Nat.le_of_ble_eq_true rfl) (preRO hK hS hAb (pg_sh hk4 hP)) (rcv_5 hK hP (q0 := (46+2*k3)) (xp_sh cA ax s k3 hk4)) rfl hl rfl (Nat.le_of_ble_eq_true rfl) (dd D_X8_bone 22 rfl) ⟨Nat.le_of_ble_eq_true rfl, Nat.le_of_ble_eq_true rfl⟩) rfl ?_
        refine lv_istore (lv' := [(5, .int (F_X5_refusalAsRow (x_sh s k3) p2)), (4, .ref (ax (46+2*k3))), (0, .ref (ax 0)), (1, .int p1), (2, .int p2), (3, .int p3)]) F.1 F.2.1 (dd D_X8_bone 23 rfl) hl (Nat.le_of_ble_eq_true rfl) rfl (fun ls hl => ?_)
        refine lv_iload F.1 F.2.1 (dd D_X8_bone 24 rfl) (lv_at hl 0 rfl) ?_
        refine x_if_eq (tgt := 58) F.1 F.2.1 (dd D_X8_bone 25 rfl) rfl h (fun c9 h => ?_) (fun c9 h => ?_)
        · refine lv_iload_n F.1 F.2.1 (dd D_X8_bone 30 rfl) rfl (lv_at hl 5 rfl) ?_
          refine x_if_ne (tgt := 69) F.1 F.2.1 (dd D_X8_bone 31 rfl) rfl h (fun c10 h => ?_) (fun c10 h => ?_)
          · refine lv_iload_n F.1 F.2.1 (dd D_X8_bone 36 rfl) rfl (lv_at hl 5 rfl) ?_
            refine lv_iconst (v := (1 : Int32)) F.1 F.2.1 (dd D_X8_bone 37 rfl) ki_1 ?_
            refine x_icmp_ne (tgt := 83) F.1 F.2.1 (dd D_X8_bone 38 rfl) rfl h (fun c11 h => ?_) (fun c11 h => ?_)
            · refine lv_aload F.1 F.2.1 (dd D_X8_bone 43 rfl) (lv_at hl 1 rfl) ?_
              refine lv_iload_n F.1 F.2.1 (dd D_X8_bone 44 rfl) rfl (lv_at hl 4 rfl) ?_
              obtain ⟨r12, e13, h⟩ := Option.bind_eq_some_iff.mp h
              refine ro_go (st' := [.int r12]) (rV (rest := []) F (c_X5_threesOfMonths D cA (fun i => ax (46+2*k3+i)) (x_sh s k3) n p2 r12 e13 l) lk_X8_319 (Nat.le_of_ble_eq_true rfl) (preRO hK hS hAb (pg_sh hk4 hP)) (rcv_5 hK hP (q0 := (46+2*k3)) (xp_sh cA ax s k3 hk4)) rfl hl rfl (Nat.le_of_ble_eq_true rfl) (dd D_X8_bone 45 rfl) ⟨Nat.le_of_ble_eq_true rfl, Nat.le_of_ble_eq_true rfl⟩) rfl ?_
              obtain rfl := Option.some.inj h
              exact rw_i (R := rmOf 3 0 0) F hP hD hS hr hlk ⟨Nat.le_of_ble_eq_true rfl, Nat.le_of_ble_eq_true rfl⟩ ⟨rfl, rfl⟩ (dd D_X8_bone 46 rfl)
            · refine lv_aload F.1 F.2.1 (dd D_X8_bone 39 rfl) (lv_at hl 1 rfl) ?_
              refine lv_iload_n F.1 F.2.1 (dd D_X8_bone 40 rfl) rfl (lv_at hl 4 rfl) ?_
              obtain ⟨r14, e15, h⟩ := Option.bind_eq_some_iff.mp h
              refine ro_go (st' := [.int r14]) (rV (rest := []) F (c_X5_longestRun D cA (fun i => ax (46+2*k3+i)) (x_sh s k3) n p2 r14 e15 l) lk_X8_316 (Nat.le_of_ble_eq_true rfl) (preRO hK hS hAb (pg_sh hk4 hP)) (rcv_5 hK hP (q0 := (46+2*k3)) (xp_sh cA ax s k3 hk4)) rfl hl rfl (Nat.le_of_ble_eq_true rfl) (dd D_X8_bone 41 rfl) ⟨Nat.le_of_ble_eq_true rfl, Nat.le_of_ble_eq_true rfl⟩) rfl ?_
              refine lv_goto (tgt := 89) F.1 F.2.1 (dd D_X8_bone 42 rfl) rfl ?_
              obtain rfl := Option.some.inj h
              exact rw_i (R := rmOf 3 0 0) F hP hD hS hr hlk ⟨Nat.le_of_ble_eq_true rfl, Nat.le_of_ble_eq_true rfl⟩ ⟨rfl, rfl⟩ (dd D_X8_bone 46 rfl)
          · refine lv_aload F.1 F.2.1 (dd D_X8_bone 32 rfl) (lv_at hl 1 rfl) ?_
            refine lv_iload_n F.1 F.2.1 (dd D_X8_bone 33 rfl) rfl (lv_at hl 4 rfl) ?_
            obtain ⟨r16, e17, h⟩ := Option.bind_eq_some_iff.mp h
            refine ro_go (st' := [.int r16]) (rV (rest := []) F (c_X5_monthCounts D cA (fun i => ax (46+2*k3+i)) (x_sh s k3) n p2 r16 e17 l) lk_X8_313 (Nat.le_of_ble_eq_true rfl) (preRO hK hS hAb (pg_sh hk4 hP)) (rcv_5 hK hP (q0 := (46+2*k3)) (xp_sh cA ax s k3 hk4)) rfl hl rfl (Nat.le_of_ble_eq_true rfl) (dd D_X8_bone 34 rfl) ⟨Nat.le_of_ble_eq_true rfl, Nat.le_of_ble_eq_true rfl⟩) rfl ?_
            obtain rfl := Option.some.inj h
            exact rw_i (R := rmOf 3 0 0) F hP hD hS hr hlk ⟨Nat.le_of_ble_eq_true rfl, Nat.le_of_ble_eq_true rfl⟩ ⟨rfl, rfl⟩ (dd D_X8_bone 35 rfl)
        · refine lv_aload_n F.1 F.2.1 (dd D_X8_bone 26 rfl) rfl (lv_at hl 2 rfl) ?_
          refine lv_iload F.1 F.2.1 (dd D_X8_bone 27 rfl) (lv_at hl 0 rfl) ?_
          obtain ⟨r18, e19, h⟩ := Option.bind_eq_some_iff.mp h
          refine rwe_all (st' := [.int r18.1]) hD hS hA (rV (rest := []) F (c_X8_refuse D cA ax s n (F_X5_refusalAsRow (x_sh s k3) p2) r18 e19 l H.size) lk_X8_64 (Nat.le_of_ble_eq_true rfl) (preRW hK hS hAb hP hD) (rcv_8 hK hP (q0 := (0)) (xp_0 cA ax s)) rfl hl rfl (Nat.le_of_ble_eq_true rfl) (dd D_X8_bone 28 rfl) ⟨Nat.le_of_ble_eq_true rfl, Nat.le_of_ble_eq_true rfl⟩) rfl (fun H locs hP hD hS => ?_)
          obtain rfl := Option.some.inj h
          exact rw_i (R := rmOf 3 0 0) F hP hD hS hr hlk ⟨Nat.le_of_ble_eq_true rfl, Nat.le_of_ble_eq_true rfl⟩ ⟨rfl, rfl⟩ (dd D_X8_bone 29 rfl)
      · refine lv_aload_n F.1 F.2.1 (dd D_X8_bone 16 rfl) rfl (lv_at hl 1 rfl) ?_
        refine lv_bipush (v := (-2 : Int32)) F.1 F.2.1 (dd D_X8_bone 17 rfl) kb_m2 ?_
        obtain ⟨r20, e21, h⟩ := Option.bind_eq_some_iff.mp h
        refine rwe_all (st' := [.int r20.1]) hD hS hA (rV (rest := []) F (c_X8_refuse D cA ax s n (-2 : Int32) r20 e21 l H.size) lk_X8_64 (Nat.le_of_ble_eq_true rfl) (preRW hK hS hAb hP hD) (rcv_8 hK hP (q0 := (0)) (xp_0 cA ax s)) rfl hl rfl (Nat.le_of_ble_eq_true rfl) (dd D_X8_bone 18 rfl) ⟨Nat.le_of_ble_eq_true rfl, Nat.le_of_ble_eq_true rfl⟩) rfl (fun H locs hP hD hS => ?_)
        obtain rfl := Option.some.inj h
        exact rw_i (R := rmOf 3 0 0) F hP hD hS hr hlk ⟨Nat.le_of_ble_eq_true rfl, Nat.le_of_ble_eq_true rfl⟩ ⟨rfl, rfl⟩ (dd D_X8_bone 19 rfl)
def F_X8_stonesThatHit_L4 (n : Nat) (u0 : XS) (v1 : Int32) : Nat → Int32 → Int32 → Option Int32
  | 0, _, _ => none
  | kf + 1, w2, w3 => (if (F_X0_count 6 (st_stones (x_now u0))) ≤ w3 then some (w2) else (((F_X0_at n 6 (st_stones (x_now u0)) w3)).bind fun r2 => (((F_X3_near n u0 r2 v1)).bind fun r4 => (if r4 ≤ 0 then F_X8_stonesThatHit_L4 n u0 v1 kf w2 (w3 + (1 : Int32)) else F_X8_stonesThatHit_L4 n u0 v1 kf (w2 ||| ((1 : Int32) <<< (w3 &&& 31))) (w3 + (1 : Int32))))))
def F_X8_stonesThatHit (n : Nat) (s : XS) (p1 : Int32) : Option Int32 := F_X8_stonesThatHit_L4 n s p1 n (0 : Int32) (0 : Int32)
set_option maxHeartbeats 4000000 in
set_option maxRecDepth 100000 in
theorem c_X8_stonesThatHit (D : va_G) (cA : Nat → ClassId) (ax : Nat → Nat) (s : XS) (n : Nat) (p1 : Int32) (r : Int32) (h : F_X8_stonesThatHit n s p1 = some r) : RO m_X8_stonesThatHit 2 D cA [.ref (ax 0), .int p1] (xW cA ax s) (some (.int r)) := by
  refine RO.ofW gy_X8_stonesThatHit.2.2 (Nat.le_of_ble_eq_true rfl) ?_
  intro l p e sM m below meth c F hr hlk hK hP hS hAb ls hl
  have hl : lv_has ls 4 [(0, .ref (ax 0)), (1, .int p1)] := hl
  unfold F_X8_stonesThatHit at h
  refine lv_iconst (v := (0 : Int32)) F.1 F.2.1 (dd D_X8_stonesThatHit 0 rfl) ki_0 ?_
  refine lv_istore_n (lv' := [(2, .int (0 : Int32)), (0, .ref (ax 0)), (1, .int p1)]) F.1 F.2.1 (dd D_X8_stonesThatHit 1 rfl) rfl hl (Nat.le_of_ble_eq_true rfl) rfl (fun ls hl => ?_)
  refine lv_iconst (v := (0 : Int32)) F.1 F.2.1 (dd D_X8_stonesThatHit 2 rfl) ki_0 ?_
  refine lv_istore_n (lv' := [(3, .int (0 : Int32)), (2, .int (0 : Int32)), (0, .ref (ax 0)), (1, .int p1)]) F.1 F.2.1 (dd D_X8_stonesThatHit 3 rfl) rfl hl (Nat.le_of_ble_eq_true rfl) rfl (fun ls hl => ?_)
  have L7 : ∀ (kf : Nat) (w2_L7 : Int32) (w3_L7 : Int32) (ls : Array Slot), lv_has ls 4 [(0, .ref (ax 0)), (1, .int p1), (2, .int w2_L7), (3, .int w3_L7)] → F_X8_stonesThatHit_L4 n s p1 kf w2_L7 w3_L7 = some r → Wro 2 (some (.int r)) p l e sM m ([.ref (ax 0), .int p1] : List Value).toArray below meth c 4 ls [] := by
    intro kf
    induction kf with
    | zero =>
      intro w2_L7 w3_L7 ls hl h
      cases (show none = some r from h)
    | succ k_L7 ih_L7 =>
      intro w2_L7 w3_L7 ls hl h
      unfold F_X8_stonesThatHit_L4 at h
      refine lv_iload_n F.1 F.2.1 (dd D_X8_stonesThatHit 4 rfl) rfl (lv_at hl 3 rfl) ?_
      refine lv_aload_n F.1 F.2.1 (dd D_X8_stonesThatHit 5 rfl) rfl (lv_at hl 0 rfl) ?_
      refine getF F hK hP lf_X8_10 (0) (xp_0 cA ax s) rfl (dd D_X8_stonesThatHit 6 rfl) ?_
      refine getF F hK hP lf_X8_163 (1) (xp_1 cA ax s) rfl (dd D_X8_stonesThatHit 7 rfl) ?_
      refine ro_go (st' := [.int (F_X0_count 6 (st_stones (x_now s))), .int w3_L7]) (rV (rest := [.int w3_L7]) F (c_X0_count D cA 6 (fun i => ax (10+i)) (st_stones (x_now s)) l) lk_X8_172 (Nat.le_of_ble_eq_true rfl) (preRO hK hS hAb (pg_x_10 hP)) (rcv_0 hK hP (q0 := (10)) (xp_10 cA ax s)) rfl hl rfl (Nat.le_of_ble_eq_true rfl) (dd D_X8_stonesThatHit 8 rfl) ⟨Nat.le_of_ble_eq_true rfl, Nat.le_of_ble_eq_true rfl⟩) rfl ?_
      refine x_icmp_ge (tgt := 52) F.1 F.2.1 (dd D_X8_stonesThatHit 9 rfl) rfl h (fun c8 h => ?_) (fun c8 h => ?_)
      · refine lv_iload_n F.1 F.2.1 (dd D_X8_stonesThatHit 28 rfl) rfl (lv_at hl 2 rfl) ?_
        exact ro_i (R := rmOf 2 0 0) F hr hlk (congrArg (Option.map Value.int) h) (dd D_X8_stonesThatHit 29 rfl)
      · refine lv_aload_n F.1 F.2.1 (dd D_X8_stonesThatHit 10 rfl) rfl (lv_at hl 0 rfl) ?_
        refine getF F hK hP lf_X8_41 (0) (xp_0 cA ax s) rfl (dd D_X8_stonesThatHit 11 rfl) ?_
        refine lv_aload_n F.1 F.2.1 (dd D_X8_stonesThatHit 12 rfl) rfl (lv_at hl 0 rfl) ?_
        refine getF F hK hP lf_X8_10 (0) (xp_0 cA ax s) rfl (dd D_X8_stonesThatHit 13 rfl) ?_
        refine getF F hK hP lf_X8_163 (1) (xp_1 cA ax s) rfl (dd D_X8_stonesThatHit 14 rfl) ?_
        refine lv_iload_n F.1 F.2.1 (dd D_X8_stonesThatHit 15 rfl) rfl (lv_at hl 3 rfl) ?_
        obtain ⟨r9, e10, h⟩ := Option.bind_eq_some_iff.mp h
        refine ro_go (st' := [.int r9, .ref (ax 43)]) (rV (rest := [.ref (ax 43)]) F (c_X0_at D cA 6 (fun i => ax (10+i)) (st_stones (x_now s)) n w3_L7 r9 e10 l) lk_X8_205 (Nat.le_of_ble_eq_true rfl) (preRO hK hS hAb (pg_x_10 hP)) (rcv_0 hK hP (q0 := (10)) (xp_10 cA ax s)) rfl hl rfl (Nat.le_of_ble_eq_true rfl) (dd D_X8_stonesThatHit 16 rfl) ⟨Nat.le_of_ble_eq_true rfl, Nat.le_of_ble_eq_true rfl⟩) rfl ?_
        refine lv_iload_n F.1 F.2.1 (dd D_X8_stonesThatHit 17 rfl) rfl (lv_at hl 1 rfl) ?_
        obtain ⟨r11, e12, h⟩ := Option.bind_eq_some_iff.mp h
        refine ro_go (st' := [.int r11]) (rV (rest := []) F (c_X3_near D cA ax s n r9 p1 r11 e12 l) lk_X8_374 (Nat.le_of_ble_eq_true rfl) (preRO hK hS hAb hP) (rcv_3 hK hP (q0 := (43)) (xp_43 cA ax s)) rfl hl rfl (Nat.le_of_ble_eq_true rfl) (dd D_X8_stonesThatHit 18 rfl) ⟨Nat.le_of_ble_eq_true rfl, Nat.le_of_ble_eq_true rfl⟩) rfl ?_
        refine x_if_le (tgt := 46) F.1 F.2.1 (dd D_X8_stonesThatHit 19 rfl) rfl h (fun c13 h => ?_) (fun c13 h => ?_)
        · refine lv_iinc (v := (w3_L7 + (1 : Int32))) (lv' := [(3, .int (w3_L7 + (1 : Int32))), (0, .ref (ax 0)), (1, .int p1), (2, .int w2_L7)]) F.1 F.2.1 (dd D_X8_stonesThatHit 26 rfl) hl (k := 3) rfl (congrArg (fun z => w3_L7 + z) ki_1) (Nat.le_of_ble_eq_true rfl) rfl (fun ls hl => ?_)
          refine lv_goto (tgt := 4) F.1 F.2.1 (dd D_X8_stonesThatHit 27 rfl) rfl ?_
          exact ih_L7 w2_L7 (w3_L7 + (1 : Int32)) ls (lv_sub hl [1, 2, 3, 0] rfl) h
        · refine lv_iload_n F.1 F.2.1 (dd D_X8_stonesThatHit 20 rfl) rfl (lv_at hl 2 rfl) ?_
          refine lv_iconst (v := (1 : Int32)) F.1 F.2.1 (dd D_X8_stonesThatHit 21 rfl) ki_1 ?_
          refine lv_iload_n F.1 F.2.1 (dd D_X8_stonesThatHit 22 rfl) rfl (lv_at hl 3 rfl) ?_
          refine lv_ishl F.1 F.2.1 (dd D_X8_stonesThatHit 23 rfl) ?_
          refine lv_ior F.1 F.2.1 (dd D_X8_stonesThatHit 24 rfl) ?_
          refine lv_istore_n (lv' := [(2, .int (w2_L7 ||| ((1 : Int32) <<< (w3_L7 &&& 31)))), (0, .ref (ax 0)), (1, .int p1), (3, .int w3_L7)]) F.1 F.2.1 (dd D_X8_stonesThatHit 25 rfl) rfl hl (Nat.le_of_ble_eq_true rfl) rfl (fun ls hl => ?_)
          refine lv_iinc (v := (w3_L7 + (1 : Int32))) (lv' := [(3, .int (w3_L7 + (1 : Int32))), (2, .int (w2_L7 ||| ((1 : Int32) <<< (w3_L7 &&& 31)))), (0, .ref (ax 0)), (1, .int p1)]) F.1 F.2.1 (dd D_X8_stonesThatHit 26 rfl) hl (k := 3) rfl (congrArg (fun z => w3_L7 + z) ki_1) (Nat.le_of_ble_eq_true rfl) rfl (fun ls hl => ?_)
          refine lv_goto (tgt := 4) F.1 F.2.1 (dd D_X8_stonesThatHit 27 rfl) rfl ?_
          exact ih_L7 (w2_L7 ||| ((1 : Int32) <<< (w3_L7 &&& 31))) (w3_L7 + (1 : Int32)) ls (lv_sub hl [2, 3, 1, 0] rfl) h
  exact L7 n (0 : Int32) (0 : Int32) ls (lv_sub hl [2, 3, 1, 0] rfl) h
def F_X8_hits (n : Nat) (s : XS) (p1 : Int32) (p2 : Int32) (p3 : Int32) : Option (Int32 × XS) := bf (F_X8_areDays p1 p2) (bf (F_X8_isIn p3 (0 : Int32) (20 : Int32)) ((((F_X3_gather n s p1 p2)).bind fun r3 => (((F_X8_stonesThatHit n r3 p3)).bind fun r5 => some (r5, r3)))) ((((F_X8_refuse n s (-2 : Int32))).bind fun r7 => some (r7.1, r7.2)))) ((((F_X8_refuse n s (-2 : Int32))).bind fun r1 => some (r1.1, r1.2)))
set_option maxHeartbeats 4000000 in
set_option maxRecDepth 100000 in
theorem c_X8_hits (D : va_G) (cA : Nat → ClassId) (ax : Nat → Nat) (s : XS) (n : Nat) (p1 : Int32) (p2 : Int32) (p3 : Int32) (r : (Int32 × XS)) (h : F_X8_hits n s p1 p2 p3 = some r) : RW m_X8_hits 5 0 0 D cA [.ref (ax 0), .int p1, .int p2, .int p3] (xW cA ax s) (exq (some (.int r.1)) (xW cA ax r.2)) := by
  refine RW.ofW gy_X8_hits.2.2 (Nat.le_of_ble_eq_true rfl) ?_
  intro l p e sM m below meth c A H locs F hr hlk hnm hK hP hD hS hA hAb ls hl
  have hl : lv_has ls 4 [(0, .ref (ax 0)), (1, .int p1), (2, .int p2), (3, .int p3)] := hl
  unfold F_X8_hits at h
  refine lv_iload_n F.1 F.2.1 (dd D_X8_hits 0 rfl) rfl (lv_at hl 1 rfl) ?_
  refine lv_iload_n F.1 F.2.1 (dd D_X8_hits 1 rfl) rfl (lv_at hl 2 rfl) ?_
  refine ro_go (st' := [.int (bI (F_X8_areDays p1 p2))]) (rS (rest := []) F (c_X8_areDays D cA p1 p2 l) lk_X8_260 (Nat.le_of_ble_eq_true rfl) (preRO hK hS hAb (emP)) rfl hl rfl (Nat.le_of_ble_eq_true rfl) (dd D_X8_hits 2 rfl) ⟨Nat.le_of_ble_eq_true rfl, Nat.le_of_ble_eq_true rfl⟩) rfl ?_
  refine x_bif_eq (tgt := 18) F.1 F.2.1 (dd D_X8_hits 3 rfl) rfl h (fun c10 h => ?_) (fun c10 h => ?_)
  · refine lv_aload_n F.1 F.2.1 (dd D_X8_hits 9 rfl) rfl (lv_at hl 0 rfl) ?_
    refine lv_bipush (v := (-2 : Int32)) F.1 F.2.1 (dd D_X8_hits 10 rfl) kb_m2 ?_
    obtain ⟨r1, e2, h⟩ := Option.bind_eq_some_iff.mp h
    refine rwe_all (st' := [.int r1.1]) hD hS hA (rV (rest := []) F (c_X8_refuse D cA ax s n (-2 : Int32) r1 e2 l H.size) lk_X8_64 (Nat.le_of_ble_eq_true rfl) (preRW hK hS hAb hP hD) (rcv_8 hK hP (q0 := (0)) (xp_0 cA ax s)) rfl hl rfl (Nat.le_of_ble_eq_true rfl) (dd D_X8_hits 11 rfl) ⟨Nat.le_of_ble_eq_true rfl, Nat.le_of_ble_eq_true rfl⟩) rfl (fun H locs hP hD hS => ?_)
    obtain rfl := Option.some.inj h
    exact rw_i (R := rmOf 5 0 0) F hP hD hS hr hlk ⟨Nat.le_of_ble_eq_true rfl, Nat.le_of_ble_eq_true rfl⟩ ⟨rfl, rfl⟩ (dd D_X8_hits 12 rfl)
  · refine lv_iload_n F.1 F.2.1 (dd D_X8_hits 4 rfl) rfl (lv_at hl 3 rfl) ?_
    refine lv_iconst (v := (0 : Int32)) F.1 F.2.1 (dd D_X8_hits 5 rfl) ki_0 ?_
    refine lv_bipush (v := (20 : Int32)) F.1 F.2.1 (dd D_X8_hits 6 rfl) kb_20 ?_
    refine ro_go (st' := [.int (bI (F_X8_isIn p3 (0 : Int32) (20 : Int32)))]) (rS (rest := []) F (c_X8_isIn D cA p3 (0 : Int32) (20 : Int32) l) lk_X8_60 (Nat.le_of_ble_eq_true rfl) (preRO hK hS hAb (emP)) rfl hl rfl (Nat.le_of_ble_eq_true rfl) (dd D_X8_hits 7 rfl) ⟨Nat.le_of_ble_eq_true rfl, Nat.le_of_ble_eq_true rfl⟩) rfl ?_
    refine x_bif_ne (tgt := 25) F.1 F.2.1 (dd D_X8_hits 8 rfl) rfl h (fun c9 h => ?_) (fun c9 h => ?_)
    · refine lv_aload_n F.1 F.2.1 (dd D_X8_hits 13 rfl) rfl (lv_at hl 0 rfl) ?_
      refine getF F hK hP lf_X8_41 (0) (xp_0 cA ax s) rfl (dd D_X8_hits 14 rfl) ?_
      refine lv_aload_n F.1 F.2.1 (dd D_X8_hits 15 rfl) rfl (lv_at hl 0 rfl) ?_
      refine getF F hK hP lf_X8_27 (0) (xp_0 cA ax s) rfl (dd D_X8_hits 16 rfl) ?_
      refine lv_iload_n F.1 F.2.1 (dd D_X8_hits 17 rfl) rfl (lv_at hl 1 rfl) ?_
      refine lv_iload_n F.1 F.2.1 (dd D_X8_hits 18 rfl) rfl (lv_at hl 2 rfl) ?_
      obtain ⟨r3, e4, h⟩ := Option.bind_eq_some_iff.mp h
      refine rwe_all (st' := []) hD hS hA (rV (rest := []) F (c_X3_gather D cA ax s n p1 p2 r3 e4 l H.size) lk_X8_322 (Nat.le_of_ble_eq_true rfl) (preRW hK hS hAb hP hD) (rcv_3 hK hP (q0 := (43)) (xp_43 cA ax s)) rfl hl rfl (Nat.le_of_ble_eq_true rfl) (dd D_X8_hits 19 rfl) ⟨Nat.le_of_ble_eq_true rfl, Nat.le_of_ble_eq_true rfl⟩) rfl (fun H locs hP hD hS => ?_)
      refine lv_aload_n F.1 F.2.1 (dd D_X8_hits 20 rfl) rfl (lv_at hl 0 rfl) ?_
      refine lv_iload_n F.1 F.2.1 (dd D_X8_hits 21 rfl) rfl (lv_at hl 3 rfl) ?_
      obtain ⟨r5, e6, h⟩ := Option.bind_eq_some_iff.mp h
      refine ro_go (st' := [.int r5]) (rV (rest := []) F (c_X8_stonesThatHit D cA ax r3 n p3 r5 e6 l) lk_X8_326 (Nat.le_of_ble_eq_true rfl) (preRO hK hS hAb hP) (rcv_8 hK hP (q0 := (0)) (xp_0 cA ax r3)) rfl hl rfl (Nat.le_of_ble_eq_true rfl) (dd D_X8_hits 22 rfl) ⟨Nat.le_of_ble_eq_true rfl, Nat.le_of_ble_eq_true rfl⟩) rfl ?_
      obtain rfl := Option.some.inj h
      exact rw_i (R := rmOf 5 0 0) F hP hD hS hr hlk ⟨Nat.le_of_ble_eq_true rfl, Nat.le_of_ble_eq_true rfl⟩ ⟨rfl, rfl⟩ (dd D_X8_hits 23 rfl)
    · refine lv_aload_n F.1 F.2.1 (dd D_X8_hits 9 rfl) rfl (lv_at hl 0 rfl) ?_
      refine lv_bipush (v := (-2 : Int32)) F.1 F.2.1 (dd D_X8_hits 10 rfl) kb_m2 ?_
      obtain ⟨r7, e8, h⟩ := Option.bind_eq_some_iff.mp h
      refine rwe_all (st' := [.int r7.1]) hD hS hA (rV (rest := []) F (c_X8_refuse D cA ax s n (-2 : Int32) r7 e8 l H.size) lk_X8_64 (Nat.le_of_ble_eq_true rfl) (preRW hK hS hAb hP hD) (rcv_8 hK hP (q0 := (0)) (xp_0 cA ax s)) rfl hl rfl (Nat.le_of_ble_eq_true rfl) (dd D_X8_hits 11 rfl) ⟨Nat.le_of_ble_eq_true rfl, Nat.le_of_ble_eq_true rfl⟩) rfl (fun H locs hP hD hS => ?_)
      obtain rfl := Option.some.inj h
      exact rw_i (R := rmOf 5 0 0) F hP hD hS hr hlk ⟨Nat.le_of_ble_eq_true rfl, Nat.le_of_ble_eq_true rfl⟩ ⟨rfl, rfl⟩ (dd D_X8_hits 12 rfl)
def F_X8_chance (n : Nat) (s : XS) (p1 : Int32) (p2 : Int32) (p3 : Int32) : Option (Int32 × XS) := bf (F_X8_areDays p1 p2) (bf (F_X8_isIn p3 (0 : Int32) (20 : Int32)) ((((F_X3_gather n s p1 p2)).bind fun r3 => (((F_X3_degreesThatHit n r3 p3)).bind fun r5 => some (r5, r3)))) ((((F_X8_refuse n s (-2 : Int32))).bind fun r7 => some (r7.1, r7.2)))) ((((F_X8_refuse n s (-2 : Int32))).bind fun r1 => some (r1.1, r1.2)))
set_option maxHeartbeats 4000000 in
set_option maxRecDepth 100000 in
theorem c_X8_chance (D : va_G) (cA : Nat → ClassId) (ax : Nat → Nat) (s : XS) (n : Nat) (p1 : Int32) (p2 : Int32) (p3 : Int32) (r : (Int32 × XS)) (h : F_X8_chance n s p1 p2 p3 = some r) : RW m_X8_chance 5 0 0 D cA [.ref (ax 0), .int p1, .int p2, .int p3] (xW cA ax s) (exq (some (.int r.1)) (xW cA ax r.2)) := by
  refine RW.ofW gy_X8_chance.2.2 (Nat.le_of_ble_eq_true rfl) ?_
  intro l p e sM m below meth c A H locs F hr hlk hnm hK hP hD hS hA hAb ls hl
  have hl : lv_has ls 4 [(0, .ref (ax 0)), (1, .int p1), (2, .int p2), (3, .int p3)] := hl
  unfold F_X8_chance at h
  refine lv_iload_n F.1 F.2.1 (dd D_X8_chance 0 rfl) rfl (lv_at hl 1 rfl) ?_
  refine lv_iload_n F.1 F.2.1 (dd D_X8_chance 1 rfl) rfl (lv_at hl 2 rfl) ?_
  refine ro_go (st' := [.int (bI (F_X8_areDays p1 p2))]) (rS (rest := []) F (c_X8_areDays D cA p1 p2 l) lk_X8_260 (Nat.le_of_ble_eq_true rfl) (preRO hK hS hAb (emP)) rfl hl rfl (Nat.le_of_ble_eq_true rfl) (dd D_X8_chance 2 rfl) ⟨Nat.le_of_ble_eq_true rfl, Nat.le_of_ble_eq_true rfl⟩) rfl ?_
  refine x_bif_eq (tgt := 18) F.1 F.2.1 (dd D_X8_chance 3 rfl) rfl h (fun c10 h => ?_) (fun c10 h => ?_)
  · refine lv_aload_n F.1 F.2.1 (dd D_X8_chance 9 rfl) rfl (lv_at hl 0 rfl) ?_
    refine lv_bipush (v := (-2 : Int32)) F.1 F.2.1 (dd D_X8_chance 10 rfl) kb_m2 ?_
    obtain ⟨r1, e2, h⟩ := Option.bind_eq_some_iff.mp h
    refine rwe_all (st' := [.int r1.1]) hD hS hA (rV (rest := []) F (c_X8_refuse D cA ax s n (-2 : Int32) r1 e2 l H.size) lk_X8_64 (Nat.le_of_ble_eq_true rfl) (preRW hK hS hAb hP hD) (rcv_8 hK hP (q0 := (0)) (xp_0 cA ax s)) rfl hl rfl (Nat.le_of_ble_eq_true rfl) (dd D_X8_chance 11 rfl) ⟨Nat.le_of_ble_eq_true rfl, Nat.le_of_ble_eq_true rfl⟩) rfl (fun H locs hP hD hS => ?_)
    obtain rfl := Option.some.inj h
    exact rw_i (R := rmOf 5 0 0) F hP hD hS hr hlk ⟨Nat.le_of_ble_eq_true rfl, Nat.le_of_ble_eq_true rfl⟩ ⟨rfl, rfl⟩ (dd D_X8_chance 12 rfl)
  · refine lv_iload_n F.1 F.2.1 (dd D_X8_chance 4 rfl) rfl (lv_at hl 3 rfl) ?_
    refine lv_iconst (v := (0 : Int32)) F.1 F.2.1 (dd D_X8_chance 5 rfl) ki_0 ?_
    refine lv_bipush (v := (20 : Int32)) F.1 F.2.1 (dd D_X8_chance 6 rfl) kb_20 ?_
    refine ro_go (st' := [.int (bI (F_X8_isIn p3 (0 : Int32) (20 : Int32)))]) (rS (rest := []) F (c_X8_isIn D cA p3 (0 : Int32) (20 : Int32) l) lk_X8_60 (Nat.le_of_ble_eq_true rfl) (preRO hK hS hAb (emP)) rfl hl rfl (Nat.le_of_ble_eq_true rfl) (dd D_X8_chance 7 rfl) ⟨Nat.le_of_ble_eq_true rfl, Nat.le_of_ble_eq_true rfl⟩) rfl ?_
    refine x_bif_ne (tgt := 25) F.1 F.2.1 (dd D_X8_chance 8 rfl) rfl h (fun c9 h => ?_) (fun c9 h => ?_)
    · refine lv_aload_n F.1 F.2.1 (dd D_X8_chance 13 rfl) rfl (lv_at hl 0 rfl) ?_
      refine getF F hK hP lf_X8_41 (0) (xp_0 cA ax s) rfl (dd D_X8_chance 14 rfl) ?_
      refine lv_aload_n F.1 F.2.1 (dd D_X8_chance 15 rfl) rfl (lv_at hl 0 rfl) ?_
      refine getF F hK hP lf_X8_27 (0) (xp_0 cA ax s) rfl (dd D_X8_chance 16 rfl) ?_
      refine lv_iload_n F.1 F.2.1 (dd D_X8_chance 17 rfl) rfl (lv_at hl 1 rfl) ?_
      refine lv_iload_n F.1 F.2.1 (dd D_X8_chance 18 rfl) rfl (lv_at hl 2 rfl) ?_
      obtain ⟨r3, e4, h⟩ := Option.bind_eq_some_iff.mp h
      refine rwe_all (st' := []) hD hS hA (rV (rest := []) F (c_X3_gather D cA ax s n p1 p2 r3 e4 l H.size) lk_X8_322 (Nat.le_of_ble_eq_true rfl) (preRW hK hS hAb hP hD) (rcv_3 hK hP (q0 := (43)) (xp_43 cA ax s)) rfl hl rfl (Nat.le_of_ble_eq_true rfl) (dd D_X8_chance 19 rfl) ⟨Nat.le_of_ble_eq_true rfl, Nat.le_of_ble_eq_true rfl⟩) rfl (fun H locs hP hD hS => ?_)
      refine lv_aload_n F.1 F.2.1 (dd D_X8_chance 20 rfl) rfl (lv_at hl 0 rfl) ?_
      refine getF F hK hP lf_X8_41 (0) (xp_0 cA ax r3) rfl (dd D_X8_chance 21 rfl) ?_
      refine lv_iload_n F.1 F.2.1 (dd D_X8_chance 22 rfl) rfl (lv_at hl 3 rfl) ?_
      obtain ⟨r5, e6, h⟩ := Option.bind_eq_some_iff.mp h
      refine ro_go (st' := [.int r5]) (rV (rest := []) F (c_X3_degreesThatHit D cA ax r3 n p3 r5 e6 l) lk_X8_329 (Nat.le_of_ble_eq_true rfl) (preRO hK hS hAb hP) (rcv_3 hK hP (q0 := (43)) (xp_43 cA ax r3)) rfl hl rfl (Nat.le_of_ble_eq_true rfl) (dd D_X8_chance 23 rfl) ⟨Nat.le_of_ble_eq_true rfl, Nat.le_of_ble_eq_true rfl⟩) rfl ?_
      obtain rfl := Option.some.inj h
      exact rw_i (R := rmOf 5 0 0) F hP hD hS hr hlk ⟨Nat.le_of_ble_eq_true rfl, Nat.le_of_ble_eq_true rfl⟩ ⟨rfl, rfl⟩ (dd D_X8_chance 24 rfl)
    · refine lv_aload_n F.1 F.2.1 (dd D_X8_chance 9 rfl) rfl (lv_at hl 0 rfl) ?_
      refine lv_bipush (v := (-2 : Int32)) F.1 F.2.1 (dd D_X8_chance 10 rfl) kb_m2 ?_
      obtain ⟨r7, e8, h⟩ := Option.bind_eq_some_iff.mp h
      refine rwe_all (st' := [.int r7.1]) hD hS hA (rV (rest := []) F (c_X8_refuse D cA ax s n (-2 : Int32) r7 e8 l H.size) lk_X8_64 (Nat.le_of_ble_eq_true rfl) (preRW hK hS hAb hP hD) (rcv_8 hK hP (q0 := (0)) (xp_0 cA ax s)) rfl hl rfl (Nat.le_of_ble_eq_true rfl) (dd D_X8_chance 11 rfl) ⟨Nat.le_of_ble_eq_true rfl, Nat.le_of_ble_eq_true rfl⟩) rfl (fun H locs hP hD hS => ?_)
      obtain rfl := Option.some.inj h
      exact rw_i (R := rmOf 5 0 0) F hP hD hS hr hlk ⟨Nat.le_of_ble_eq_true rfl, Nat.le_of_ble_eq_true rfl⟩ ⟨rfl, rfl⟩ (dd D_X8_chance 12 rfl)
def F_X8_meets (n : Nat) (s : XS) (p1 : Int32) (p2 : Int32) (p3 : Int32) : Option (Int32 × XS) := bf (F_X8_isStone s p1) (bf (F_X8_isDay p2) (bf (F_X8_isIn p3 (0 : Int32) (20 : Int32)) ((((F_X0_at n 6 (st_stones (x_now s)) p1)).bind fun r5 => (((F_X2_pick n s (6 : Int32) (r5 - p3) (r5 + p3) (0 : Int32) none p2 (1000 : Int32) (0 : Int32))).bind fun r8 => some (r8, s)))) ((((F_X8_refuse n s (-2 : Int32))).bind fun r10 => some (r10.1, r10.2)))) ((((F_X8_refuse n s (-2 : Int32))).bind fun r3 => some (r3.1, r3.2)))) ((((F_X8_refuse n s (-2 : Int32))).bind fun r1 => some (r1.1, r1.2)))
set_option maxHeartbeats 4000000 in
set_option maxRecDepth 100000 in
theorem c_X8_meets (D : va_G) (cA : Nat → ClassId) (ax : Nat → Nat) (s : XS) (n : Nat) (p1 : Int32) (p2 : Int32) (p3 : Int32) (r : (Int32 × XS)) (h : F_X8_meets n s p1 p2 p3 = some r) : RW m_X8_meets 6 1 5 D cA [.ref (ax 0), .int p1, .int p2, .int p3] (xW cA ax s) (exq (some (.int r.1)) (xW cA ax r.2)) := by
  refine RW.ofW gy_X8_meets.2.2 (Nat.le_of_ble_eq_true rfl) ?_
  intro l p e sM m below meth c A H locs F hr hlk hnm hK hP hD hS hA hAb ls hl
  have hl : lv_has ls 5 [(0, .ref (ax 0)), (1, .int p1), (2, .int p2), (3, .int p3)] := hl
  unfold F_X8_meets at h
  refine lv_aload_n F.1 F.2.1 (dd D_X8_meets 0 rfl) rfl (lv_at hl 0 rfl) ?_
  refine lv_iload_n F.1 F.2.1 (dd D_X8_meets 1 rfl) rfl (lv_at hl 1 rfl) ?_
  refine ro_go (st' := [.int (bI (F_X8_isStone s p1))]) (rV (rest := []) F (c_X8_isStone D cA ax s p1 l) lk_X8_202 (Nat.le_of_ble_eq_true rfl) (preRO hK hS hAb hP) (rcv_8 hK hP (q0 := (0)) (xp_0 cA ax s)) rfl hl rfl (Nat.le_of_ble_eq_true rfl) (dd D_X8_meets 2 rfl) ⟨Nat.le_of_ble_eq_true rfl, Nat.le_of_ble_eq_true rfl⟩) rfl ?_
  refine x_bif_eq (tgt := 25) F.1 F.2.1 (dd D_X8_meets 3 rfl) rfl h (fun c14 h => ?_) (fun c14 h => ?_)
  · refine lv_aload_n F.1 F.2.1 (dd D_X8_meets 12 rfl) rfl (lv_at hl 0 rfl) ?_
    refine lv_bipush (v := (-2 : Int32)) F.1 F.2.1 (dd D_X8_meets 13 rfl) kb_m2 ?_
    obtain ⟨r1, e2, h⟩ := Option.bind_eq_some_iff.mp h
    refine rwe_all (st' := [.int r1.1]) hD hS hA (rV (rest := []) F (c_X8_refuse D cA ax s n (-2 : Int32) r1 e2 l H.size) lk_X8_64 (Nat.le_of_ble_eq_true rfl) (preRW hK hS hAb hP hD) (rcv_8 hK hP (q0 := (0)) (xp_0 cA ax s)) rfl hl rfl (Nat.le_of_ble_eq_true rfl) (dd D_X8_meets 14 rfl) ⟨Nat.le_of_ble_eq_true rfl, Nat.le_of_ble_eq_true rfl⟩) rfl (fun H locs hP hD hS => ?_)
    obtain rfl := Option.some.inj h
    exact rw_i (R := rmOf 6 1 5) F hP hD hS hr hlk ⟨Nat.le_of_ble_eq_true rfl, Nat.le_of_ble_eq_true rfl⟩ ⟨rfl, rfl⟩ (dd D_X8_meets 15 rfl)
  · refine lv_iload_n F.1 F.2.1 (dd D_X8_meets 4 rfl) rfl (lv_at hl 2 rfl) ?_
    refine ro_go (st' := [.int (bI (F_X8_isDay p2))]) (rS (rest := []) F (c_X8_isDay D cA p2 l) lk_X8_113 (Nat.le_of_ble_eq_true rfl) (preRO hK hS hAb (emP)) rfl hl rfl (Nat.le_of_ble_eq_true rfl) (dd D_X8_meets 5 rfl) ⟨Nat.le_of_ble_eq_true rfl, Nat.le_of_ble_eq_true rfl⟩) rfl ?_
    refine x_bif_eq (tgt := 25) F.1 F.2.1 (dd D_X8_meets 6 rfl) rfl h (fun c13 h => ?_) (fun c13 h => ?_)
    · refine lv_aload_n F.1 F.2.1 (dd D_X8_meets 12 rfl) rfl (lv_at hl 0 rfl) ?_
      refine lv_bipush (v := (-2 : Int32)) F.1 F.2.1 (dd D_X8_meets 13 rfl) kb_m2 ?_
      obtain ⟨r3, e4, h⟩ := Option.bind_eq_some_iff.mp h
      refine rwe_all (st' := [.int r3.1]) hD hS hA (rV (rest := []) F (c_X8_refuse D cA ax s n (-2 : Int32) r3 e4 l H.size) lk_X8_64 (Nat.le_of_ble_eq_true rfl) (preRW hK hS hAb hP hD) (rcv_8 hK hP (q0 := (0)) (xp_0 cA ax s)) rfl hl rfl (Nat.le_of_ble_eq_true rfl) (dd D_X8_meets 14 rfl) ⟨Nat.le_of_ble_eq_true rfl, Nat.le_of_ble_eq_true rfl⟩) rfl (fun H locs hP hD hS => ?_)
      obtain rfl := Option.some.inj h
      exact rw_i (R := rmOf 6 1 5) F hP hD hS hr hlk ⟨Nat.le_of_ble_eq_true rfl, Nat.le_of_ble_eq_true rfl⟩ ⟨rfl, rfl⟩ (dd D_X8_meets 15 rfl)
    · refine lv_iload_n F.1 F.2.1 (dd D_X8_meets 7 rfl) rfl (lv_at hl 3 rfl) ?_
      refine lv_iconst (v := (0 : Int32)) F.1 F.2.1 (dd D_X8_meets 8 rfl) ki_0 ?_
      refine lv_bipush (v := (20 : Int32)) F.1 F.2.1 (dd D_X8_meets 9 rfl) kb_20 ?_
      refine ro_go (st' := [.int (bI (F_X8_isIn p3 (0 : Int32) (20 : Int32)))]) (rS (rest := []) F (c_X8_isIn D cA p3 (0 : Int32) (20 : Int32) l) lk_X8_60 (Nat.le_of_ble_eq_true rfl) (preRO hK hS hAb (emP)) rfl hl rfl (Nat.le_of_ble_eq_true rfl) (dd D_X8_meets 10 rfl) ⟨Nat.le_of_ble_eq_true rfl, Nat.le_of_ble_eq_true rfl⟩) rfl ?_
      refine x_bif_ne (tgt := 32) F.1 F.2.1 (dd D_X8_meets 11 rfl) rfl h (fun c12 h => ?_) (fun c12 h => ?_)
      · refine lv_aload_n F.1 F.2.1 (dd D_X8_meets 16 rfl) rfl (lv_at hl 0 rfl) ?_
        refine getF F hK hP lf_X8_10 (0) (xp_0 cA ax s) rfl (dd D_X8_meets 17 rfl) ?_
        refine getF F hK hP lf_X8_163 (1) (xp_1 cA ax s) rfl (dd D_X8_meets 18 rfl) ?_
        refine lv_iload_n F.1 F.2.1 (dd D_X8_meets 19 rfl) rfl (lv_at hl 1 rfl) ?_
        obtain ⟨r5, e6, h⟩ := Option.bind_eq_some_iff.mp h
        refine ro_go (st' := [.int r5]) (rV (rest := []) F (c_X0_at D cA 6 (fun i => ax (10+i)) (st_stones (x_now s)) n p1 r5 e6 l) lk_X8_205 (Nat.le_of_ble_eq_true rfl) (preRO hK hS hAb (pg_x_10 hP)) (rcv_0 hK hP (q0 := (10)) (xp_10 cA ax s)) rfl hl rfl (Nat.le_of_ble_eq_true rfl) (dd D_X8_meets 20 rfl) ⟨Nat.le_of_ble_eq_true rfl, Nat.le_of_ble_eq_true rfl⟩) rfl ?_
        refine lv_istore (lv' := [(4, .int r5), (0, .ref (ax 0)), (1, .int p1), (2, .int p2), (3, .int p3)]) F.1 F.2.1 (dd D_X8_meets 21 rfl) hl (Nat.le_of_ble_eq_true rfl) rfl (fun ls hl => ?_)
        refine lv_aload_n F.1 F.2.1 (dd D_X8_meets 22 rfl) rfl (lv_at hl 1 rfl) ?_
        refine getF F hK hP lf_X8_27 (0) (xp_0 cA ax s) rfl (dd D_X8_meets 23 rfl) ?_
        refine lv_iload_n F.1 F.2.1 (dd D_X8_meets 24 rfl) rfl (lv_at hl 3 rfl) ?_
        refine lv_sipush (v := (1000 : Int32)) F.1 F.2.1 (dd D_X8_meets 25 rfl) ks_1000 ?_
        refine lv_iconst (v := (0 : Int32)) F.1 F.2.1 (dd D_X8_meets 26 rfl) ki_0 ?_
        refine newO F hK hP hD hS hA ln_X8_132 (Nat.le_of_ble_eq_true rfl) (Nat.le_of_ble_eq_true rfl) (dd D_X8_meets 27 rfl) (fun q7 H hP hD hS => ?_)
        refine lv_dup F.1 F.2.1 (dd D_X8_meets 28 rfl) rfl ?_
        refine lv_bipush (v := (6 : Int32)) F.1 F.2.1 (dd D_X8_meets 29 rfl) kb_6 ?_
        refine lv_iload F.1 F.2.1 (dd D_X8_meets 30 rfl) (lv_at hl 0 rfl) ?_
        refine lv_iload_n F.1 F.2.1 (dd D_X8_meets 31 rfl) rfl (lv_at hl 4 rfl) ?_
        refine lv_isub F.1 F.2.1 (dd D_X8_meets 32 rfl) ?_
        refine lv_iload F.1 F.2.1 (dd D_X8_meets 33 rfl) (lv_at hl 0 rfl) ?_
        refine lv_iload_n F.1 F.2.1 (dd D_X8_meets 34 rfl) rfl (lv_at hl 4 rfl) ?_
        refine lv_iadd F.1 F.2.1 (dd D_X8_meets 35 rfl) ?_
        refine lv_iconst (v := (0 : Int32)) F.1 F.2.1 (dd D_X8_meets 36 rfl) ki_0 ?_
        refine rwe (V := none) (wc := [(q7, .inr (4, [.int (0 : Int32), .int (0 : Int32), .int (0 : Int32), .int (0 : Int32), .null]))]) (wc' := [(q7, .inr (4, [.int (6 : Int32), .int (r5 - p3), .int (r5 + p3), .int (0 : Int32), .null]))]) (st' := [.ref (q7), .int (0 : Int32), .int (1000 : Int32), .int p2, .ref (ax 40)]) (W' := (xW cA ax s) ++ [(q7, .inr (4, [.int (6 : Int32), .int (r5 - p3), .int (r5 + p3), .int (0 : Int32), .null]))]) hP hD hS hA [63] (jc_last (xp_len cA ax s)) (Nat_nd rfl) rfl (rI (rest := [.ref (q7), .int (0 : Int32), .int (1000 : Int32), .int p2, .ref (ax 40)]) F (c_X4_init__ D cA q7 (6 : Int32) (r5 - p3) (r5 + p3) (0 : Int32) l H.size) lk_X8_263 (Nat.le_of_ble_eq_true rfl) (preRW hK hS hAb (selP hP (jc_last (xp_len cA ax s))) (selD hD (Nat_nd rfl) (jc_last (xp_len cA ax s)))) rfl hl rfl (Nat.le_of_ble_eq_true rfl) (dd D_X8_meets 37 rfl) ⟨Nat.le_of_ble_eq_true rfl, Nat.le_of_ble_eq_true rfl⟩) (js_last (xp_len cA ax s)) rfl (fun H locs hP hD hS => ?_)
        obtain ⟨r8, e9, h⟩ := Option.bind_eq_some_iff.mp h
        refine ro_go (st' := [.int r8]) (rV (rest := []) F (c_X2_pick D cA ax s q7 (6 : Int32) (r5 - p3) (r5 + p3) (0 : Int32) none n p2 (1000 : Int32) (0 : Int32) r8 e9 l) lk_X8_256 (Nat.le_of_ble_eq_true rfl) (preRO hK hS hAb hP) (rcv_2 hK hP (q0 := (40)) (gL (xp_40 cA ax s))) rfl hl rfl (Nat.le_of_ble_eq_true rfl) (dd D_X8_meets 38 rfl) ⟨Nat.le_of_ble_eq_true rfl, Nat.le_of_ble_eq_true rfl⟩) rfl ?_
        have hP := preP hP
        have hD := preD hD
        obtain rfl := Option.some.inj h
        exact rw_i (R := rmOf 6 1 5) F hP hD hS hr hlk ⟨Nat.le_of_ble_eq_true rfl, Nat.le_of_ble_eq_true rfl⟩ ⟨rfl, rfl⟩ (dd D_X8_meets 39 rfl)
      · refine lv_aload_n F.1 F.2.1 (dd D_X8_meets 12 rfl) rfl (lv_at hl 0 rfl) ?_
        refine lv_bipush (v := (-2 : Int32)) F.1 F.2.1 (dd D_X8_meets 13 rfl) kb_m2 ?_
        obtain ⟨r10, e11, h⟩ := Option.bind_eq_some_iff.mp h
        refine rwe_all (st' := [.int r10.1]) hD hS hA (rV (rest := []) F (c_X8_refuse D cA ax s n (-2 : Int32) r10 e11 l H.size) lk_X8_64 (Nat.le_of_ble_eq_true rfl) (preRW hK hS hAb hP hD) (rcv_8 hK hP (q0 := (0)) (xp_0 cA ax s)) rfl hl rfl (Nat.le_of_ble_eq_true rfl) (dd D_X8_meets 14 rfl) ⟨Nat.le_of_ble_eq_true rfl, Nat.le_of_ble_eq_true rfl⟩) rfl (fun H locs hP hD hS => ?_)
        obtain rfl := Option.some.inj h
        exact rw_i (R := rmOf 6 1 5) F hP hD hS hr hlk ⟨Nat.le_of_ble_eq_true rfl, Nat.le_of_ble_eq_true rfl⟩ ⟨rfl, rfl⟩ (dd D_X8_meets 15 rfl)
def F_X8_place (n : Nat) (s : XS) (p1 : Int32) (p2 : Int32) (p3 : Int32) : Option (Int32 × XS) := bf (F_X8_isDay p1) (bf (F_X8_isIn p2 (1 : Int32) (40 : Int32)) (bf (F_X8_isIn p3 (0 : Int32) (20 : Int32)) ((((F_X3_gather n s p1 p2)).bind fun r5 => (((F_X3_fullest n r5 p3)).bind fun r7 => some (r7, r5)))) ((((F_X8_refuse n s (-2 : Int32))).bind fun r9 => some (r9.1, r9.2)))) ((((F_X8_refuse n s (-2 : Int32))).bind fun r3 => some (r3.1, r3.2)))) ((((F_X8_refuse n s (-2 : Int32))).bind fun r1 => some (r1.1, r1.2)))
set_option maxHeartbeats 4000000 in
set_option maxRecDepth 100000 in
theorem c_X8_place (D : va_G) (cA : Nat → ClassId) (ax : Nat → Nat) (s : XS) (n : Nat) (p1 : Int32) (p2 : Int32) (p3 : Int32) (r : (Int32 × XS)) (h : F_X8_place n s p1 p2 p3 = some r) : RW m_X8_place 5 0 0 D cA [.ref (ax 0), .int p1, .int p2, .int p3] (xW cA ax s) (exq (some (.int r.1)) (xW cA ax r.2)) := by
  refine RW.ofW gy_X8_place.2.2 (Nat.le_of_ble_eq_true rfl) ?_
  intro l p e sM m below meth c A H locs F hr hlk hnm hK hP hD hS hA hAb ls hl
  have hl : lv_has ls 4 [(0, .ref (ax 0)), (1, .int p1), (2, .int p2), (3, .int p3)] := hl
  unfold F_X8_place at h
  refine lv_iload_n F.1 F.2.1 (dd D_X8_place 0 rfl) rfl (lv_at hl 1 rfl) ?_
  refine ro_go (st' := [.int (bI (F_X8_isDay p1))]) (rS (rest := []) F (c_X8_isDay D cA p1 l) lk_X8_113 (Nat.le_of_ble_eq_true rfl) (preRO hK hS hAb (emP)) rfl hl rfl (Nat.le_of_ble_eq_true rfl) (dd D_X8_place 1 rfl) ⟨Nat.le_of_ble_eq_true rfl, Nat.le_of_ble_eq_true rfl⟩) rfl ?_
  refine x_bif_eq (tgt := 27) F.1 F.2.1 (dd D_X8_place 2 rfl) rfl h (fun c13 h => ?_) (fun c13 h => ?_)
  · refine lv_aload_n F.1 F.2.1 (dd D_X8_place 13 rfl) rfl (lv_at hl 0 rfl) ?_
    refine lv_bipush (v := (-2 : Int32)) F.1 F.2.1 (dd D_X8_place 14 rfl) kb_m2 ?_
    obtain ⟨r1, e2, h⟩ := Option.bind_eq_some_iff.mp h
    refine rwe_all (st' := [.int r1.1]) hD hS hA (rV (rest := []) F (c_X8_refuse D cA ax s n (-2 : Int32) r1 e2 l H.size) lk_X8_64 (Nat.le_of_ble_eq_true rfl) (preRW hK hS hAb hP hD) (rcv_8 hK hP (q0 := (0)) (xp_0 cA ax s)) rfl hl rfl (Nat.le_of_ble_eq_true rfl) (dd D_X8_place 15 rfl) ⟨Nat.le_of_ble_eq_true rfl, Nat.le_of_ble_eq_true rfl⟩) rfl (fun H locs hP hD hS => ?_)
    obtain rfl := Option.some.inj h
    exact rw_i (R := rmOf 5 0 0) F hP hD hS hr hlk ⟨Nat.le_of_ble_eq_true rfl, Nat.le_of_ble_eq_true rfl⟩ ⟨rfl, rfl⟩ (dd D_X8_place 16 rfl)
  · refine lv_iload_n F.1 F.2.1 (dd D_X8_place 3 rfl) rfl (lv_at hl 2 rfl) ?_
    refine lv_iconst (v := (1 : Int32)) F.1 F.2.1 (dd D_X8_place 4 rfl) ki_1 ?_
    refine lv_bipush (v := (40 : Int32)) F.1 F.2.1 (dd D_X8_place 5 rfl) kb_40 ?_
    refine ro_go (st' := [.int (bI (F_X8_isIn p2 (1 : Int32) (40 : Int32)))]) (rS (rest := []) F (c_X8_isIn D cA p2 (1 : Int32) (40 : Int32) l) lk_X8_60 (Nat.le_of_ble_eq_true rfl) (preRO hK hS hAb (emP)) rfl hl rfl (Nat.le_of_ble_eq_true rfl) (dd D_X8_place 6 rfl) ⟨Nat.le_of_ble_eq_true rfl, Nat.le_of_ble_eq_true rfl⟩) rfl ?_
    refine x_bif_eq (tgt := 27) F.1 F.2.1 (dd D_X8_place 7 rfl) rfl h (fun c12 h => ?_) (fun c12 h => ?_)
    · refine lv_aload_n F.1 F.2.1 (dd D_X8_place 13 rfl) rfl (lv_at hl 0 rfl) ?_
      refine lv_bipush (v := (-2 : Int32)) F.1 F.2.1 (dd D_X8_place 14 rfl) kb_m2 ?_
      obtain ⟨r3, e4, h⟩ := Option.bind_eq_some_iff.mp h
      refine rwe_all (st' := [.int r3.1]) hD hS hA (rV (rest := []) F (c_X8_refuse D cA ax s n (-2 : Int32) r3 e4 l H.size) lk_X8_64 (Nat.le_of_ble_eq_true rfl) (preRW hK hS hAb hP hD) (rcv_8 hK hP (q0 := (0)) (xp_0 cA ax s)) rfl hl rfl (Nat.le_of_ble_eq_true rfl) (dd D_X8_place 15 rfl) ⟨Nat.le_of_ble_eq_true rfl, Nat.le_of_ble_eq_true rfl⟩) rfl (fun H locs hP hD hS => ?_)
      obtain rfl := Option.some.inj h
      exact rw_i (R := rmOf 5 0 0) F hP hD hS hr hlk ⟨Nat.le_of_ble_eq_true rfl, Nat.le_of_ble_eq_true rfl⟩ ⟨rfl, rfl⟩ (dd D_X8_place 16 rfl)
    · refine lv_iload_n F.1 F.2.1 (dd D_X8_place 8 rfl) rfl (lv_at hl 3 rfl) ?_
      refine lv_iconst (v := (0 : Int32)) F.1 F.2.1 (dd D_X8_place 9 rfl) ki_0 ?_
      refine lv_bipush (v := (20 : Int32)) F.1 F.2.1 (dd D_X8_place 10 rfl) kb_20 ?_
      refine ro_go (st' := [.int (bI (F_X8_isIn p3 (0 : Int32) (20 : Int32)))]) (rS (rest := []) F (c_X8_isIn D cA p3 (0 : Int32) (20 : Int32) l) lk_X8_60 (Nat.le_of_ble_eq_true rfl) (preRO hK hS hAb (emP)) rfl hl rfl (Nat.le_of_ble_eq_true rfl) (dd D_X8_place 11 rfl) ⟨Nat.le_of_ble_eq_true rfl, Nat.le_of_ble_eq_true rfl⟩) rfl ?_
      refine x_bif_ne (tgt := 34) F.1 F.2.1 (dd D_X8_place 12 rfl) rfl h (fun c11 h => ?_) (fun c11 h => ?_)
      · refine lv_aload_n F.1 F.2.1 (dd D_X8_place 17 rfl) rfl (lv_at hl 0 rfl) ?_
        refine getF F hK hP lf_X8_41 (0) (xp_0 cA ax s) rfl (dd D_X8_place 18 rfl) ?_
        refine lv_aload_n F.1 F.2.1 (dd D_X8_place 19 rfl) rfl (lv_at hl 0 rfl) ?_
        refine getF F hK hP lf_X8_27 (0) (xp_0 cA ax s) rfl (dd D_X8_place 20 rfl) ?_
        refine lv_iload_n F.1 F.2.1 (dd D_X8_place 21 rfl) rfl (lv_at hl 1 rfl) ?_
        refine lv_iload_n F.1 F.2.1 (dd D_X8_place 22 rfl) rfl (lv_at hl 2 rfl) ?_
        obtain ⟨r5, e6, h⟩ := Option.bind_eq_some_iff.mp h
        refine rwe_all (st' := []) hD hS hA (rV (rest := []) F (c_X3_gather D cA ax s n p1 p2 r5 e6 l H.size) lk_X8_322 (Nat.le_of_ble_eq_true rfl) (preRW hK hS hAb hP hD) (rcv_3 hK hP (q0 := (43)) (xp_43 cA ax s)) rfl hl rfl (Nat.le_of_ble_eq_true rfl) (dd D_X8_place 23 rfl) ⟨Nat.le_of_ble_eq_true rfl, Nat.le_of_ble_eq_true rfl⟩) rfl (fun H locs hP hD hS => ?_)
        refine lv_aload_n F.1 F.2.1 (dd D_X8_place 24 rfl) rfl (lv_at hl 0 rfl) ?_
        refine getF F hK hP lf_X8_41 (0) (xp_0 cA ax r5) rfl (dd D_X8_place 25 rfl) ?_
        refine lv_iload_n F.1 F.2.1 (dd D_X8_place 26 rfl) rfl (lv_at hl 3 rfl) ?_
        obtain ⟨r7, e8, h⟩ := Option.bind_eq_some_iff.mp h
        refine ro_go (st' := [.int r7]) (rV (rest := []) F (c_X3_fullest D cA ax r5 n p3 r7 e8 l) lk_X8_332 (Nat.le_of_ble_eq_true rfl) (preRO hK hS hAb hP) (rcv_3 hK hP (q0 := (43)) (xp_43 cA ax r5)) rfl hl rfl (Nat.le_of_ble_eq_true rfl) (dd D_X8_place 27 rfl) ⟨Nat.le_of_ble_eq_true rfl, Nat.le_of_ble_eq_true rfl⟩) rfl ?_
        obtain rfl := Option.some.inj h
        exact rw_i (R := rmOf 5 0 0) F hP hD hS hr hlk ⟨Nat.le_of_ble_eq_true rfl, Nat.le_of_ble_eq_true rfl⟩ ⟨rfl, rfl⟩ (dd D_X8_place 28 rfl)
      · refine lv_aload_n F.1 F.2.1 (dd D_X8_place 13 rfl) rfl (lv_at hl 0 rfl) ?_
        refine lv_bipush (v := (-2 : Int32)) F.1 F.2.1 (dd D_X8_place 14 rfl) kb_m2 ?_
        obtain ⟨r9, e10, h⟩ := Option.bind_eq_some_iff.mp h
        refine rwe_all (st' := [.int r9.1]) hD hS hA (rV (rest := []) F (c_X8_refuse D cA ax s n (-2 : Int32) r9 e10 l H.size) lk_X8_64 (Nat.le_of_ble_eq_true rfl) (preRW hK hS hAb hP hD) (rcv_8 hK hP (q0 := (0)) (xp_0 cA ax s)) rfl hl rfl (Nat.le_of_ble_eq_true rfl) (dd D_X8_place 15 rfl) ⟨Nat.le_of_ble_eq_true rfl, Nat.le_of_ble_eq_true rfl⟩) rfl (fun H locs hP hD hS => ?_)
        obtain rfl := Option.some.inj h
        exact rw_i (R := rmOf 5 0 0) F hP hD hS hr hlk ⟨Nat.le_of_ble_eq_true rfl, Nat.le_of_ble_eq_true rfl⟩ ⟨rfl, rfl⟩ (dd D_X8_place 16 rfl)
def F_X8_meant (n : Nat) (s : XS) (p1 : Int32) (p2 : Int32) (p3 : Int32) : Option (Int32 × XS) := bf (F_X8_areDays p1 p2) (bf (F_X8_isIn p3 (0 : Int32) (20 : Int32)) ((if (1 : Int32) ≤ (F_X0_count 6 (st_stones (x_now s))) then (((F_X3_gather n s p1 p2)).bind fun r4 => (((F_X8_stonesThatHit n r4 p3)).bind fun r6 => gd (decide (¬ (F_X0_count 6 (st_stones (x_now s))) = 0)) ((((F_X3_degreesThatHit n r4 p3)).bind fun r9 => some (((((F_J6_bitCount_0f7a4 r6) * (1000 : Int32)) / (F_X0_count 6 (st_stones (x_now s)))) - ((r9 * (1000 : Int32)) / (180 : Int32))), r4))))) else (((F_X8_refuseFarBelow n s (-5 : Int32))).bind fun r11 => some (r11.1, r11.2)))) ((((F_X8_refuseFarBelow n s (-2 : Int32))).bind fun r13 => some (r13.1, r13.2)))) ((((F_X8_refuseFarBelow n s (-2 : Int32))).bind fun r1 => some (r1.1, r1.2)))
set_option maxHeartbeats 4000000 in
set_option maxRecDepth 100000 in
theorem c_X8_meant (D : va_G) (cA : Nat → ClassId) (ax : Nat → Nat) (s : XS) (n : Nat) (p1 : Int32) (p2 : Int32) (p3 : Int32) (r : (Int32 × XS)) (h : F_X8_meant n s p1 p2 p3 = some r) : RW m_X8_meant 5 0 0 D cA [.ref (ax 0), .int p1, .int p2, .int p3] (xW cA ax s) (exq (some (.int r.1)) (xW cA ax r.2)) := by
  refine RW.ofW gy_X8_meant.2.2 (Nat.le_of_ble_eq_true rfl) ?_
  intro l p e sM m below meth c A H locs F hr hlk hnm hK hP hD hS hA hAb ls hl
  have hl : lv_has ls 6 [(0, .ref (ax 0)), (1, .int p1), (2, .int p2), (3, .int p3)] := hl
  unfold F_X8_meant at h
  refine lv_iload_n F.1 F.2.1 (dd D_X8_meant 0 rfl) rfl (lv_at hl 1 rfl) ?_
  refine lv_iload_n F.1 F.2.1 (dd D_X8_meant 1 rfl) rfl (lv_at hl 2 rfl) ?_
  refine ro_go (st' := [.int (bI (F_X8_areDays p1 p2))]) (rS (rest := []) F (c_X8_areDays D cA p1 p2 l) lk_X8_260 (Nat.le_of_ble_eq_true rfl) (preRO hK hS hAb (emP)) rfl hl rfl (Nat.le_of_ble_eq_true rfl) (dd D_X8_meant 2 rfl) ⟨Nat.le_of_ble_eq_true rfl, Nat.le_of_ble_eq_true rfl⟩) rfl ?_
  refine x_bif_eq (tgt := 18) F.1 F.2.1 (dd D_X8_meant 3 rfl) rfl h (fun c16 h => ?_) (fun c16 h => ?_)
  · refine lv_aload_n F.1 F.2.1 (dd D_X8_meant 9 rfl) rfl (lv_at hl 0 rfl) ?_
    refine lv_bipush (v := (-2 : Int32)) F.1 F.2.1 (dd D_X8_meant 10 rfl) kb_m2 ?_
    obtain ⟨r1, e2, h⟩ := Option.bind_eq_some_iff.mp h
    refine rwe_all (st' := [.int r1.1]) hD hS hA (rV (rest := []) F (c_X8_refuseFarBelow D cA ax s n (-2 : Int32) r1 e2 l H.size) lk_X8_240 (Nat.le_of_ble_eq_true rfl) (preRW hK hS hAb hP hD) (rcv_8 hK hP (q0 := (0)) (xp_0 cA ax s)) rfl hl rfl (Nat.le_of_ble_eq_true rfl) (dd D_X8_meant 11 rfl) ⟨Nat.le_of_ble_eq_true rfl, Nat.le_of_ble_eq_true rfl⟩) rfl (fun H locs hP hD hS => ?_)
    obtain rfl := Option.some.inj h
    exact rw_i (R := rmOf 5 0 0) F hP hD hS hr hlk ⟨Nat.le_of_ble_eq_true rfl, Nat.le_of_ble_eq_true rfl⟩ ⟨rfl, rfl⟩ (dd D_X8_meant 12 rfl)
  · refine lv_iload_n F.1 F.2.1 (dd D_X8_meant 4 rfl) rfl (lv_at hl 3 rfl) ?_
    refine lv_iconst (v := (0 : Int32)) F.1 F.2.1 (dd D_X8_meant 5 rfl) ki_0 ?_
    refine lv_bipush (v := (20 : Int32)) F.1 F.2.1 (dd D_X8_meant 6 rfl) kb_20 ?_
    refine ro_go (st' := [.int (bI (F_X8_isIn p3 (0 : Int32) (20 : Int32)))]) (rS (rest := []) F (c_X8_isIn D cA p3 (0 : Int32) (20 : Int32) l) lk_X8_60 (Nat.le_of_ble_eq_true rfl) (preRO hK hS hAb (emP)) rfl hl rfl (Nat.le_of_ble_eq_true rfl) (dd D_X8_meant 7 rfl) ⟨Nat.le_of_ble_eq_true rfl, Nat.le_of_ble_eq_true rfl⟩) rfl ?_
    refine x_bif_ne (tgt := 25) F.1 F.2.1 (dd D_X8_meant 8 rfl) rfl h (fun c15 h => ?_) (fun c15 h => ?_)
    · refine lv_aload_n F.1 F.2.1 (dd D_X8_meant 13 rfl) rfl (lv_at hl 0 rfl) ?_
      refine getF F hK hP lf_X8_10 (0) (xp_0 cA ax s) rfl (dd D_X8_meant 14 rfl) ?_
      refine getF F hK hP lf_X8_163 (1) (xp_1 cA ax s) rfl (dd D_X8_meant 15 rfl) ?_
      refine ro_go (st' := [.int (F_X0_count 6 (st_stones (x_now s)))]) (rV (rest := []) F (c_X0_count D cA 6 (fun i => ax (10+i)) (st_stones (x_now s)) l) lk_X8_172 (Nat.le_of_ble_eq_true rfl) (preRO hK hS hAb (pg_x_10 hP)) (rcv_0 hK hP (q0 := (10)) (xp_10 cA ax s)) rfl hl rfl (Nat.le_of_ble_eq_true rfl) (dd D_X8_meant 16 rfl) ⟨Nat.le_of_ble_eq_true rfl, Nat.le_of_ble_eq_true rfl⟩) rfl ?_
      refine lv_istore (lv' := [(4, .int (F_X0_count 6 (st_stones (x_now s)))), (0, .ref (ax 0)), (1, .int p1), (2, .int p2), (3, .int p3)]) F.1 F.2.1 (dd D_X8_meant 17 rfl) hl (Nat.le_of_ble_eq_true rfl) rfl (fun ls hl => ?_)
      refine lv_iload F.1 F.2.1 (dd D_X8_meant 18 rfl) (lv_at hl 0 rfl) ?_
      refine lv_iconst (v := (1 : Int32)) F.1 F.2.1 (dd D_X8_meant 19 rfl) ki_1 ?_
      refine x_icmp_ge (tgt := 50) F.1 F.2.1 (dd D_X8_meant 20 rfl) rfl h (fun c3 h => ?_) (fun c3 h => ?_)
      · refine lv_aload_n F.1 F.2.1 (dd D_X8_meant 25 rfl) rfl (lv_at hl 1 rfl) ?_
        refine getF F hK hP lf_X8_41 (0) (xp_0 cA ax s) rfl (dd D_X8_meant 26 rfl) ?_
        refine lv_aload_n F.1 F.2.1 (dd D_X8_meant 27 rfl) rfl (lv_at hl 1 rfl) ?_
        refine getF F hK hP lf_X8_27 (0) (xp_0 cA ax s) rfl (dd D_X8_meant 28 rfl) ?_
        refine lv_iload_n F.1 F.2.1 (dd D_X8_meant 29 rfl) rfl (lv_at hl 2 rfl) ?_
        refine lv_iload_n F.1 F.2.1 (dd D_X8_meant 30 rfl) rfl (lv_at hl 3 rfl) ?_
        obtain ⟨r4, e5, h⟩ := Option.bind_eq_some_iff.mp h
        refine rwe_all (st' := []) hD hS hA (rV (rest := []) F (c_X3_gather D cA ax s n p1 p2 r4 e5 l H.size) lk_X8_322 (Nat.le_of_ble_eq_true rfl) (preRW hK hS hAb hP hD) (rcv_3 hK hP (q0 := (43)) (xp_43 cA ax s)) rfl hl rfl (Nat.le_of_ble_eq_true rfl) (dd D_X8_meant 31 rfl) ⟨Nat.le_of_ble_eq_true rfl, Nat.le_of_ble_eq_true rfl⟩) rfl (fun H locs hP hD hS => ?_)
        refine lv_aload_n F.1 F.2.1 (dd D_X8_meant 32 rfl) rfl (lv_at hl 1 rfl) ?_
        refine lv_iload_n F.1 F.2.1 (dd D_X8_meant 33 rfl) rfl (lv_at hl 4 rfl) ?_
        obtain ⟨r6, e7, h⟩ := Option.bind_eq_some_iff.mp h
        refine ro_go (st' := [.int r6]) (rV (rest := []) F (c_X8_stonesThatHit D cA ax r4 n p3 r6 e7 l) lk_X8_326 (Nat.le_of_ble_eq_true rfl) (preRO hK hS hAb hP) (rcv_8 hK hP (q0 := (0)) (xp_0 cA ax r4)) rfl hl rfl (Nat.le_of_ble_eq_true rfl) (dd D_X8_meant 34 rfl) ⟨Nat.le_of_ble_eq_true rfl, Nat.le_of_ble_eq_true rfl⟩) rfl ?_
        refine ro_go (st' := [.int (F_J6_bitCount_0f7a4 r6)]) (rS (rest := []) F (c_J6_bitCount_0f7a4 D cA r6 l) lk_X8_335 (Nat.le_of_ble_eq_true rfl) (preRO hK hS hAb (emP)) rfl hl rfl (Nat.le_of_ble_eq_true rfl) (dd D_X8_meant 35 rfl) ⟨Nat.le_of_ble_eq_true rfl, Nat.le_of_ble_eq_true rfl⟩) rfl ?_
        refine lv_istore (lv' := [(5, .int (F_J6_bitCount_0f7a4 r6)), (4, .int (F_X0_count 6 (st_stones (x_now s)))), (0, .ref (ax 0)), (1, .int p1), (2, .int p2), (3, .int p3)]) F.1 F.2.1 (dd D_X8_meant 36 rfl) hl (Nat.le_of_ble_eq_true rfl) rfl (fun ls hl => ?_)
        refine lv_iload F.1 F.2.1 (dd D_X8_meant 37 rfl) (lv_at hl 0 rfl) ?_
        refine lv_sipush (v := (1000 : Int32)) F.1 F.2.1 (dd D_X8_meant 38 rfl) ks_1000 ?_
        refine lv_imul F.1 F.2.1 (dd D_X8_meant 39 rfl) ?_
        refine lv_iload F.1 F.2.1 (dd D_X8_meant 40 rfl) (lv_at hl 1 rfl) ?_
        obtain ⟨z8, h⟩ := gd_some h
        refine lv_idiv F.1 F.2.1 (dd D_X8_meant 41 rfl) (of_decide_eq_true z8) ?_
        refine lv_aload_n F.1 F.2.1 (dd D_X8_meant 42 rfl) rfl (lv_at hl 2 rfl) ?_
        refine getF F hK hP lf_X8_41 (0) (xp_0 cA ax r4) rfl (dd D_X8_meant 43 rfl) ?_
        refine lv_iload_n F.1 F.2.1 (dd D_X8_meant 44 rfl) rfl (lv_at hl 5 rfl) ?_
        obtain ⟨r9, e10, h⟩ := Option.bind_eq_some_iff.mp h
        refine ro_go (st' := [.int r9, .int (((F_J6_bitCount_0f7a4 r6) * (1000 : Int32)) / (F_X0_count 6 (st_stones (x_now s))))]) (rV (rest := [.int (((F_J6_bitCount_0f7a4 r6) * (1000 : Int32)) / (F_X0_count 6 (st_stones (x_now s))))]) F (c_X3_degreesThatHit D cA ax r4 n p3 r9 e10 l) lk_X8_329 (Nat.le_of_ble_eq_true rfl) (preRO hK hS hAb hP) (rcv_3 hK hP (q0 := (43)) (xp_43 cA ax r4)) rfl hl rfl (Nat.le_of_ble_eq_true rfl) (dd D_X8_meant 45 rfl) ⟨Nat.le_of_ble_eq_true rfl, Nat.le_of_ble_eq_true rfl⟩) rfl ?_
        refine lv_sipush (v := (1000 : Int32)) F.1 F.2.1 (dd D_X8_meant 46 rfl) ks_1000 ?_
        refine lv_imul F.1 F.2.1 (dd D_X8_meant 47 rfl) ?_
        refine lv_sipush (v := (180 : Int32)) F.1 F.2.1 (dd D_X8_meant 48 rfl) ks_180 ?_
        refine lv_idiv F.1 F.2.1 (dd D_X8_meant 49 rfl) kd_180 ?_
        refine lv_isub F.1 F.2.1 (dd D_X8_meant 50 rfl) ?_
        obtain rfl := Option.some.inj h
        exact rw_i (R := rmOf 5 0 0) F hP hD hS hr hlk ⟨Nat.le_of_ble_eq_true rfl, Nat.le_of_ble_eq_true rfl⟩ ⟨rfl, rfl⟩ (dd D_X8_meant 51 rfl)
      · refine lv_aload_n F.1 F.2.1 (dd D_X8_meant 21 rfl) rfl (lv_at hl 1 rfl) ?_
        refine lv_bipush (v := (-5 : Int32)) F.1 F.2.1 (dd D_X8_meant 22 rfl) kb_m5 ?_
        obtain ⟨r11, e12, h⟩ := Option.bind_eq_some_iff.mp h
        refine rwe_all (st' := [.int r11.1]) hD hS hA (rV (rest := []) F (c_X8_refuseFarBelow D cA ax s n (-5 : Int32) r11 e12 l H.size) lk_X8_240 (Nat.le_of_ble_eq_true rfl) (preRW hK hS hAb hP hD) (rcv_8 hK hP (q0 := (0)) (xp_0 cA ax s)) rfl hl rfl (Nat.le_of_ble_eq_true rfl) (dd D_X8_meant 23 rfl) ⟨Nat.le_of_ble_eq_true rfl, Nat.le_of_ble_eq_true rfl⟩) rfl (fun H locs hP hD hS => ?_)
        obtain rfl := Option.some.inj h
        exact rw_i (R := rmOf 5 0 0) F hP hD hS hr hlk ⟨Nat.le_of_ble_eq_true rfl, Nat.le_of_ble_eq_true rfl⟩ ⟨rfl, rfl⟩ (dd D_X8_meant 24 rfl)
    · refine lv_aload_n F.1 F.2.1 (dd D_X8_meant 9 rfl) rfl (lv_at hl 0 rfl) ?_
      refine lv_bipush (v := (-2 : Int32)) F.1 F.2.1 (dd D_X8_meant 10 rfl) kb_m2 ?_
      obtain ⟨r13, e14, h⟩ := Option.bind_eq_some_iff.mp h
      refine rwe_all (st' := [.int r13.1]) hD hS hA (rV (rest := []) F (c_X8_refuseFarBelow D cA ax s n (-2 : Int32) r13 e14 l H.size) lk_X8_240 (Nat.le_of_ble_eq_true rfl) (preRW hK hS hAb hP hD) (rcv_8 hK hP (q0 := (0)) (xp_0 cA ax s)) rfl hl rfl (Nat.le_of_ble_eq_true rfl) (dd D_X8_meant 11 rfl) ⟨Nat.le_of_ble_eq_true rfl, Nat.le_of_ble_eq_true rfl⟩) rfl (fun H locs hP hD hS => ?_)
      obtain rfl := Option.some.inj h
      exact rw_i (R := rmOf 5 0 0) F hP hD hS hr hlk ⟨Nat.le_of_ble_eq_true rfl, Nat.le_of_ble_eq_true rfl⟩ ⟨rfl, rfl⟩ (dd D_X8_meant 12 rfl)
def F_X8_told (n : Nat) (s : XS) (p1 : Int32) (p2 : Int32) : Option (Int32 × XS) := bf (F_X8_isDay p1) (bf (F_X8_isIn p2 (0 : Int32) (2952 : Int32)) (some ((F_J9_floorMod_7cf53 (p2 - ((100 : Int32) * p1)) (2953 : Int32)), (x_set_now s (st_set_off (x_now s) (F_J9_floorMod_7cf53 (p2 - ((100 : Int32) * p1)) (2953 : Int32)))))) ((((F_X8_refuse n s (-2 : Int32))).bind fun r3 => some (r3.1, r3.2)))) ((((F_X8_refuse n s (-2 : Int32))).bind fun r1 => some (r1.1, r1.2)))
set_option maxHeartbeats 4000000 in
set_option maxRecDepth 100000 in
theorem c_X8_told (D : va_G) (cA : Nat → ClassId) (ax : Nat → Nat) (s : XS) (n : Nat) (p1 : Int32) (p2 : Int32) (r : (Int32 × XS)) (h : F_X8_told n s p1 p2 = some r) : RW m_X8_told 2 0 0 D cA [.ref (ax 0), .int p1, .int p2] (xW cA ax s) (exq (some (.int r.1)) (xW cA ax r.2)) := by
  refine RW.ofW gy_X8_told.2.2 (Nat.le_of_ble_eq_true rfl) ?_
  intro l p e sM m below meth c A H locs F hr hlk hnm hK hP hD hS hA hAb ls hl
  have hl : lv_has ls 4 [(0, .ref (ax 0)), (1, .int p1), (2, .int p2)] := hl
  unfold F_X8_told at h
  refine lv_iload_n F.1 F.2.1 (dd D_X8_told 0 rfl) rfl (lv_at hl 1 rfl) ?_
  refine ro_go (st' := [.int (bI (F_X8_isDay p1))]) (rS (rest := []) F (c_X8_isDay D cA p1 l) lk_X8_113 (Nat.le_of_ble_eq_true rfl) (preRO hK hS hAb (emP)) rfl hl rfl (Nat.le_of_ble_eq_true rfl) (dd D_X8_told 1 rfl) ⟨Nat.le_of_ble_eq_true rfl, Nat.le_of_ble_eq_true rfl⟩) rfl ?_
  refine x_bif_eq (tgt := 18) F.1 F.2.1 (dd D_X8_told 2 rfl) rfl h (fun c6 h => ?_) (fun c6 h => ?_)
  · refine lv_aload_n F.1 F.2.1 (dd D_X8_told 8 rfl) rfl (lv_at hl 0 rfl) ?_
    refine lv_bipush (v := (-2 : Int32)) F.1 F.2.1 (dd D_X8_told 9 rfl) kb_m2 ?_
    obtain ⟨r1, e2, h⟩ := Option.bind_eq_some_iff.mp h
    refine rwe_all (st' := [.int r1.1]) hD hS hA (rV (rest := []) F (c_X8_refuse D cA ax s n (-2 : Int32) r1 e2 l H.size) lk_X8_64 (Nat.le_of_ble_eq_true rfl) (preRW hK hS hAb hP hD) (rcv_8 hK hP (q0 := (0)) (xp_0 cA ax s)) rfl hl rfl (Nat.le_of_ble_eq_true rfl) (dd D_X8_told 10 rfl) ⟨Nat.le_of_ble_eq_true rfl, Nat.le_of_ble_eq_true rfl⟩) rfl (fun H locs hP hD hS => ?_)
    obtain rfl := Option.some.inj h
    exact rw_i (R := rmOf 2 0 0) F hP hD hS hr hlk ⟨Nat.le_of_ble_eq_true rfl, Nat.le_of_ble_eq_true rfl⟩ ⟨rfl, rfl⟩ (dd D_X8_told 11 rfl)
  · refine lv_iload_n F.1 F.2.1 (dd D_X8_told 3 rfl) rfl (lv_at hl 2 rfl) ?_
    refine lv_iconst (v := (0 : Int32)) F.1 F.2.1 (dd D_X8_told 4 rfl) ki_0 ?_
    refine lv_sipush (v := (2952 : Int32)) F.1 F.2.1 (dd D_X8_told 5 rfl) ks_2952 ?_
    refine ro_go (st' := [.int (bI (F_X8_isIn p2 (0 : Int32) (2952 : Int32)))]) (rS (rest := []) F (c_X8_isIn D cA p2 (0 : Int32) (2952 : Int32) l) lk_X8_60 (Nat.le_of_ble_eq_true rfl) (preRO hK hS hAb (emP)) rfl hl rfl (Nat.le_of_ble_eq_true rfl) (dd D_X8_told 6 rfl) ⟨Nat.le_of_ble_eq_true rfl, Nat.le_of_ble_eq_true rfl⟩) rfl ?_
    refine x_bif_ne (tgt := 25) F.1 F.2.1 (dd D_X8_told 7 rfl) rfl h (fun c5 h => ?_) (fun c5 h => ?_)
    · refine lv_iload_n F.1 F.2.1 (dd D_X8_told 12 rfl) rfl (lv_at hl 2 rfl) ?_
      refine lv_bipush (v := (100 : Int32)) F.1 F.2.1 (dd D_X8_told 13 rfl) kb_100 ?_
      refine lv_iload_n F.1 F.2.1 (dd D_X8_told 14 rfl) rfl (lv_at hl 1 rfl) ?_
      refine lv_imul F.1 F.2.1 (dd D_X8_told 15 rfl) ?_
      refine lv_isub F.1 F.2.1 (dd D_X8_told 16 rfl) ?_
      refine lv_sipush (v := (2953 : Int32)) F.1 F.2.1 (dd D_X8_told 17 rfl) ks_2953 ?_
      refine ro_go (st' := [.int (F_J9_floorMod_7cf53 (p2 - ((100 : Int32) * p1)) (2953 : Int32))]) (rS (rest := []) F (c_J9_floorMod_7cf53 D cA (p2 - ((100 : Int32) * p1)) (2953 : Int32) kd_2953 l) lk_X8_340 (Nat.le_of_ble_eq_true rfl) (preRO hK hS hAb (emP)) rfl hl rfl (Nat.le_of_ble_eq_true rfl) (dd D_X8_told 18 rfl) ⟨Nat.le_of_ble_eq_true rfl, Nat.le_of_ble_eq_true rfl⟩) rfl ?_
      refine lv_istore_n (lv' := [(3, .int (F_J9_floorMod_7cf53 (p2 - ((100 : Int32) * p1)) (2953 : Int32))), (0, .ref (ax 0)), (1, .int p1), (2, .int p2)]) F.1 F.2.1 (dd D_X8_told 19 rfl) rfl hl (Nat.le_of_ble_eq_true rfl) rfl (fun ls hl => ?_)
      refine lv_aload_n F.1 F.2.1 (dd D_X8_told 20 rfl) rfl (lv_at hl 1 rfl) ?_
      refine getF F hK hP lf_X8_10 (0) (xp_0 cA ax s) rfl (dd D_X8_told 21 rfl) ?_
      refine lv_iload_n F.1 F.2.1 (dd D_X8_told 22 rfl) rfl (lv_at hl 0 rfl) ?_
      refine putF F hK hP hD hS lp_X8_343 (1) (xp_1 cA ax s) (Nat.le_of_ble_eq_true rfl) (nar_int _) (fit_int _) (ws' := (xW cA ax (x_set_now s (st_set_off (x_now s) (F_J9_floorMod_7cf53 (p2 - ((100 : Int32) * p1)) (2953 : Int32)))))) (xs_1_0 cA ax s (F_J9_floorMod_7cf53 (p2 - ((100 : Int32) * p1)) (2953 : Int32))) (dd D_X8_told 23 rfl) (fun H locs hP hD hS => ?_)
      refine lv_iload_n F.1 F.2.1 (dd D_X8_told 24 rfl) rfl (lv_at hl 0 rfl) ?_
      obtain rfl := Option.some.inj h
      exact rw_i (R := rmOf 2 0 0) F hP hD hS hr hlk ⟨Nat.le_of_ble_eq_true rfl, Nat.le_of_ble_eq_true rfl⟩ ⟨rfl, rfl⟩ (dd D_X8_told 25 rfl)
    · refine lv_aload_n F.1 F.2.1 (dd D_X8_told 8 rfl) rfl (lv_at hl 0 rfl) ?_
      refine lv_bipush (v := (-2 : Int32)) F.1 F.2.1 (dd D_X8_told 9 rfl) kb_m2 ?_
      obtain ⟨r3, e4, h⟩ := Option.bind_eq_some_iff.mp h
      refine rwe_all (st' := [.int r3.1]) hD hS hA (rV (rest := []) F (c_X8_refuse D cA ax s n (-2 : Int32) r3 e4 l H.size) lk_X8_64 (Nat.le_of_ble_eq_true rfl) (preRW hK hS hAb hP hD) (rcv_8 hK hP (q0 := (0)) (xp_0 cA ax s)) rfl hl rfl (Nat.le_of_ble_eq_true rfl) (dd D_X8_told 10 rfl) ⟨Nat.le_of_ble_eq_true rfl, Nat.le_of_ble_eq_true rfl⟩) rfl (fun H locs hP hD hS => ?_)
      obtain rfl := Option.some.inj h
      exact rw_i (R := rmOf 2 0 0) F hP hD hS hr hlk ⟨Nat.le_of_ble_eq_true rfl, Nat.le_of_ble_eq_true rfl⟩ ⟨rfl, rfl⟩ (dd D_X8_told 11 rfl)
def F_X8_letEveningPass (n : Nat) (s : XS) : Option (Bool × XS) := (((F_X6_draw n (x_now s) (10 : Int32))).bind fun r1 => (if r1.1 < (st_cloud (x_now (x_set_now s r1.2))) then (if (0 : Int32) = 0 then some (false, (x_set_now (x_set_now s r1.2) (st_set_today (x_now (x_set_now s r1.2)) ((st_today (x_now (x_set_now s r1.2))) + (1 : Int32))))) else (((F_X2_shinesOf n (x_set_now s r1.2) (st_today (x_now (x_set_now s r1.2))) (1080 : Int32) (1439 : Int32))).bind fun r5 => (if r5 ≤ 0 then some (false, (x_set_now (x_set_now s r1.2) (st_set_today (x_now (x_set_now s r1.2)) ((st_today (x_now (x_set_now s r1.2))) + (1 : Int32))))) else some (false, (x_set_now (x_set_now (x_set_now s r1.2) (st_set_looks (x_now (x_set_now s r1.2)) ((st_looks (x_now (x_set_now s r1.2))) + (1 : Int32)))) (st_set_today (x_now (x_set_now (x_set_now s r1.2) (st_set_looks (x_now (x_set_now s r1.2)) ((st_looks (x_now (x_set_now s r1.2))) + (1 : Int32))))) ((st_today (x_now (x_set_now (x_set_now s r1.2) (st_set_looks (x_now (x_set_now s r1.2)) ((st_looks (x_now (x_set_now s r1.2))) + (1 : Int32)))))) + (1 : Int32)))))))) else (if (1 : Int32) = 0 then some (true, (x_set_now (x_set_now s r1.2) (st_set_today (x_now (x_set_now s r1.2)) ((st_today (x_now (x_set_now s r1.2))) + (1 : Int32))))) else (((F_X2_shinesOf n (x_set_now s r1.2) (st_today (x_now (x_set_now s r1.2))) (1080 : Int32) (1439 : Int32))).bind fun r9 => (if r9 ≤ 0 then some (true, (x_set_now (x_set_now s r1.2) (st_set_today (x_now (x_set_now s r1.2)) ((st_today (x_now (x_set_now s r1.2))) + (1 : Int32))))) else some (true, (x_set_now (x_set_now (x_set_now s r1.2) (st_set_looks (x_now (x_set_now s r1.2)) ((st_looks (x_now (x_set_now s r1.2))) + (1 : Int32)))) (st_set_today (x_now (x_set_now (x_set_now s r1.2) (st_set_looks (x_now (x_set_now s r1.2)) ((st_looks (x_now (x_set_now s r1.2))) + (1 : Int32))))) ((st_today (x_now (x_set_now (x_set_now s r1.2) (st_set_looks (x_now (x_set_now s r1.2)) ((st_looks (x_now (x_set_now s r1.2))) + (1 : Int32)))))) + (1 : Int32))))))))))
set_option maxHeartbeats 4000000 in
set_option maxRecDepth 100000 in
theorem c_X8_letEveningPass (D : va_G) (cA : Nat → ClassId) (ax : Nat → Nat) (s : XS) (n : Nat)  (r : (Bool × XS)) (h : F_X8_letEveningPass n s = some r) : RW m_X8_letEveningPass 4 0 0 D cA [.ref (ax 0)] (xW cA ax s) (exq (some (.int (bI r.1))) (xW cA ax r.2)) := by
  refine RW.ofW gy_X8_letEveningPass.2.2 (Nat.le_of_ble_eq_true rfl) ?_
  intro l p e sM m below meth c A H locs F hr hlk hnm hK hP hD hS hA hAb ls hl
  have hl : lv_has ls 2 [(0, .ref (ax 0))] := hl
  unfold F_X8_letEveningPass at h
  refine lv_aload_n F.1 F.2.1 (dd D_X8_letEveningPass 0 rfl) rfl (lv_at hl 0 rfl) ?_
  refine getF F hK hP lf_X8_10 (0) (xp_0 cA ax s) rfl (dd D_X8_letEveningPass 1 rfl) ?_
  refine lv_bipush (v := (10 : Int32)) F.1 F.2.1 (dd D_X8_letEveningPass 2 rfl) kb_10 ?_
  obtain ⟨r1, e2, h⟩ := Option.bind_eq_some_iff.mp h
  refine rwe (V := some (.int r1.1)) (wc := (stateW cA (fun i => ax (1+i)) (x_now s))) (wc' := (stateW cA (fun i => ax (1+i)) r1.2)) (st' := [.int r1.1]) (W' := (xW cA ax (x_set_now s r1.2))) hP hD hS hA [1, 2, 3, 4, 5, 6, 7, 8, 9, 10, 11, 12, 13] (jc_x_1 cA ax s) (Nat_nd rfl) rfl (rV (rest := []) F (c_X6_draw D cA (fun i => ax (1+i)) (x_now s) n (10 : Int32) r1 e2 l H.size) lk_X8_377 (Nat.le_of_ble_eq_true rfl) (preRW hK hS hAb (selP (is := [1, 2, 3, 4, 5, 6, 7, 8, 9, 10, 11, 12, 13]) hP (jc_x_1 cA ax s)) (selD (is := [1, 2, 3, 4, 5, 6, 7, 8, 9, 10, 11, 12, 13]) hD (Nat_nd rfl) (jc_x_1 cA ax s))) (rcv_6 hK hP (q0 := (1)) (xp_1 cA ax s)) rfl hl rfl (Nat.le_of_ble_eq_true rfl) (dd D_X8_letEveningPass 3 rfl) ⟨Nat.le_of_ble_eq_true rfl, Nat.le_of_ble_eq_true rfl⟩) (js_x_1 cA ax s r1.2) rfl (fun H locs hP hD hS => ?_)
  refine lv_aload_n F.1 F.2.1 (dd D_X8_letEveningPass 4 rfl) rfl (lv_at hl 0 rfl) ?_
  refine getF F hK hP lf_X8_10 (0) (xp_0 cA ax (x_set_now s r1.2)) rfl (dd D_X8_letEveningPass 5 rfl) ?_
  refine getF F hK hP lf_X8_380 (1) (xp_1 cA ax (x_set_now s r1.2)) rfl (dd D_X8_letEveningPass 6 rfl) ?_
  refine x_icmp_lt (tgt := 23) F.1 F.2.1 (dd D_X8_letEveningPass 7 rfl) rfl h (fun c3 h => ?_) (fun c3 h => ?_)
  · refine lv_iconst (v := (0 : Int32)) F.1 F.2.1 (dd D_X8_letEveningPass 10 rfl) ki_0 ?_
    refine lv_istore_n (lv' := [(1, .int (0 : Int32)), (0, .ref (ax 0))]) F.1 F.2.1 (dd D_X8_letEveningPass 11 rfl) rfl hl (Nat.le_of_ble_eq_true rfl) rfl (fun ls hl => ?_)
    refine lv_iload_n F.1 F.2.1 (dd D_X8_letEveningPass 12 rfl) rfl (lv_at hl 0 rfl) ?_
    refine x_if_eq (tgt := 65) F.1 F.2.1 (dd D_X8_letEveningPass 13 rfl) rfl h (fun c4 h => ?_) (fun c4 h => ?_)
    · refine lv_aload_n F.1 F.2.1 (dd D_X8_letEveningPass 30 rfl) rfl (lv_at hl 1 rfl) ?_
      refine getF F hK hP lf_X8_10 (0) (xp_0 cA ax (x_set_now s r1.2)) rfl (dd D_X8_letEveningPass 31 rfl) ?_
      refine lv_dup F.1 F.2.1 (dd D_X8_letEveningPass 32 rfl) rfl ?_
      refine getF F hK hP lf_X8_347 (1) (xp_1 cA ax (x_set_now s r1.2)) rfl (dd D_X8_letEveningPass 33 rfl) ?_
      refine lv_iconst (v := (1 : Int32)) F.1 F.2.1 (dd D_X8_letEveningPass 34 rfl) ki_1 ?_
      refine lv_iadd F.1 F.2.1 (dd D_X8_letEveningPass 35 rfl) ?_
      refine putF F hK hP hD hS lp_X8_347 (1) (xp_1 cA ax (x_set_now s r1.2)) (Nat.le_of_ble_eq_true rfl) (nar_int _) (fit_int _) (ws' := (xW cA ax (x_set_now (x_set_now s r1.2) (st_set_today (x_now (x_set_now s r1.2)) ((st_today (x_now (x_set_now s r1.2))) + (1 : Int32)))))) (xs_1_7 cA ax (x_set_now s r1.2) ((st_today (x_now (x_set_now s r1.2))) + (1 : Int32))) (dd D_X8_letEveningPass 36 rfl) (fun H locs hP hD hS => ?_)
      refine lv_iload_n F.1 F.2.1 (dd D_X8_letEveningPass 37 rfl) rfl (lv_at hl 0 rfl) ?_
      obtain rfl := Option.some.inj h
      exact rw_z (R := rmOf 4 0 0) F hP hD hS hr rfl hlk ⟨Nat.le_of_ble_eq_true rfl, Nat.le_of_ble_eq_true rfl⟩ ⟨rfl, rfl⟩ (dd D_X8_letEveningPass 38 rfl)
    · refine lv_aload_n F.1 F.2.1 (dd D_X8_letEveningPass 14 rfl) rfl (lv_at hl 1 rfl) ?_
      refine getF F hK hP lf_X8_27 (0) (xp_0 cA ax (x_set_now s r1.2)) rfl (dd D_X8_letEveningPass 15 rfl) ?_
      refine lv_aload_n F.1 F.2.1 (dd D_X8_letEveningPass 16 rfl) rfl (lv_at hl 1 rfl) ?_
      refine getF F hK hP lf_X8_10 (0) (xp_0 cA ax (x_set_now s r1.2)) rfl (dd D_X8_letEveningPass 17 rfl) ?_
      refine getF F hK hP lf_X8_347 (1) (xp_1 cA ax (x_set_now s r1.2)) rfl (dd D_X8_letEveningPass 18 rfl) ?_
      refine lv_sipush (v := (1080 : Int32)) F.1 F.2.1 (dd D_X8_letEveningPass 19 rfl) ks_1080 ?_
      refine lv_sipush (v := (1439 : Int32)) F.1 F.2.1 (dd D_X8_letEveningPass 20 rfl) ks_1439 ?_
      obtain ⟨r5, e6, h⟩ := Option.bind_eq_some_iff.mp h
      refine ro_go (st' := [.int r5]) (rV (rest := []) F (c_X2_shinesOf D cA ax (x_set_now s r1.2) n (st_today (x_now (x_set_now s r1.2))) (1080 : Int32) (1439 : Int32) r5 e6 l) lk_X8_249 (Nat.le_of_ble_eq_true rfl) (preRO hK hS hAb hP) (rcv_2 hK hP (q0 := (40)) (xp_40 cA ax (x_set_now s r1.2))) rfl hl rfl (Nat.le_of_ble_eq_true rfl) (dd D_X8_letEveningPass 21 rfl) ⟨Nat.le_of_ble_eq_true rfl, Nat.le_of_ble_eq_true rfl⟩) rfl ?_
      refine x_if_le (tgt := 65) F.1 F.2.1 (dd D_X8_letEveningPass 22 rfl) rfl h (fun c7 h => ?_) (fun c7 h => ?_)
      · refine lv_aload_n F.1 F.2.1 (dd D_X8_letEveningPass 30 rfl) rfl (lv_at hl 1 rfl) ?_
        refine getF F hK hP lf_X8_10 (0) (xp_0 cA ax (x_set_now s r1.2)) rfl (dd D_X8_letEveningPass 31 rfl) ?_
        refine lv_dup F.1 F.2.1 (dd D_X8_letEveningPass 32 rfl) rfl ?_
        refine getF F hK hP lf_X8_347 (1) (xp_1 cA ax (x_set_now s r1.2)) rfl (dd D_X8_letEveningPass 33 rfl) ?_
        refine lv_iconst (v := (1 : Int32)) F.1 F.2.1 (dd D_X8_letEveningPass 34 rfl) ki_1 ?_
        refine lv_iadd F.1 F.2.1 (dd D_X8_letEveningPass 35 rfl) ?_
        refine putF F hK hP hD hS lp_X8_347 (1) (xp_1 cA ax (x_set_now s r1.2)) (Nat.le_of_ble_eq_true rfl) (nar_int _) (fit_int _) (ws' := (xW cA ax (x_set_now (x_set_now s r1.2) (st_set_today (x_now (x_set_now s r1.2)) ((st_today (x_now (x_set_now s r1.2))) + (1 : Int32)))))) (xs_1_7 cA ax (x_set_now s r1.2) ((st_today (x_now (x_set_now s r1.2))) + (1 : Int32))) (dd D_X8_letEveningPass 36 rfl) (fun H locs hP hD hS => ?_)
        refine lv_iload_n F.1 F.2.1 (dd D_X8_letEveningPass 37 rfl) rfl (lv_at hl 0 rfl) ?_
        obtain rfl := Option.some.inj h
        exact rw_z (R := rmOf 4 0 0) F hP hD hS hr rfl hlk ⟨Nat.le_of_ble_eq_true rfl, Nat.le_of_ble_eq_true rfl⟩ ⟨rfl, rfl⟩ (dd D_X8_letEveningPass 38 rfl)
      · refine lv_aload_n F.1 F.2.1 (dd D_X8_letEveningPass 23 rfl) rfl (lv_at hl 1 rfl) ?_
        refine getF F hK hP lf_X8_10 (0) (xp_0 cA ax (x_set_now s r1.2)) rfl (dd D_X8_letEveningPass 24 rfl) ?_
        refine lv_dup F.1 F.2.1 (dd D_X8_letEveningPass 25 rfl) rfl ?_
        refine getF F hK hP lf_X8_353 (1) (xp_1 cA ax (x_set_now s r1.2)) rfl (dd D_X8_letEveningPass 26 rfl) ?_
        refine lv_iconst (v := (1 : Int32)) F.1 F.2.1 (dd D_X8_letEveningPass 27 rfl) ki_1 ?_
        refine lv_iadd F.1 F.2.1 (dd D_X8_letEveningPass 28 rfl) ?_
        refine putF F hK hP hD hS lp_X8_353 (1) (xp_1 cA ax (x_set_now s r1.2)) (Nat.le_of_ble_eq_true rfl) (nar_int _) (fit_int _) (ws' := (xW cA ax (x_set_now (x_set_now s r1.2) (st_set_looks (x_now (x_set_now s r1.2)) ((st_looks (x_now (x_set_now s r1.2))) + (1 : Int32)))))) (xs_1_8 cA ax (x_set_now s r1.2) ((st_looks (x_now (x_set_now s r1.2))) + (1 : Int32))) (dd D_X8_letEveningPass 29 rfl) (fun H locs hP hD hS => ?_)
        refine lv_aload_n F.1 F.2.1 (dd D_X8_letEveningPass 30 rfl) rfl (lv_at hl 1 rfl) ?_
        refine getF F hK hP lf_X8_10 (0) (xp_0 cA ax (x_set_now (x_set_now s r1.2) (st_set_looks (x_now (x_set_now s r1.2)) ((st_looks (x_now (x_set_now s r1.2))) + (1 : Int32))))) rfl (dd D_X8_letEveningPass 31 rfl) ?_
        refine lv_dup F.1 F.2.1 (dd D_X8_letEveningPass 32 rfl) rfl ?_
        refine getF F hK hP lf_X8_347 (1) (xp_1 cA ax (x_set_now (x_set_now s r1.2) (st_set_looks (x_now (x_set_now s r1.2)) ((st_looks (x_now (x_set_now s r1.2))) + (1 : Int32))))) rfl (dd D_X8_letEveningPass 33 rfl) ?_
        refine lv_iconst (v := (1 : Int32)) F.1 F.2.1 (dd D_X8_letEveningPass 34 rfl) ki_1 ?_
        refine lv_iadd F.1 F.2.1 (dd D_X8_letEveningPass 35 rfl) ?_
        refine putF F hK hP hD hS lp_X8_347 (1) (xp_1 cA ax (x_set_now (x_set_now s r1.2) (st_set_looks (x_now (x_set_now s r1.2)) ((st_looks (x_now (x_set_now s r1.2))) + (1 : Int32))))) (Nat.le_of_ble_eq_true rfl) (nar_int _) (fit_int _) (ws' := (xW cA ax (x_set_now (x_set_now (x_set_now s r1.2) (st_set_looks (x_now (x_set_now s r1.2)) ((st_looks (x_now (x_set_now s r1.2))) + (1 : Int32)))) (st_set_today (x_now (x_set_now (x_set_now s r1.2) (st_set_looks (x_now (x_set_now s r1.2)) ((st_looks (x_now (x_set_now s r1.2))) + (1 : Int32))))) ((st_today (x_now (x_set_now (x_set_now s r1.2) (st_set_looks (x_now (x_set_now s r1.2)) ((st_looks (x_now (x_set_now s r1.2))) + (1 : Int32)))))) + (1 : Int32)))))) (xs_1_7 cA ax (x_set_now (x_set_now s r1.2) (st_set_looks (x_now (x_set_now s r1.2)) ((st_looks (x_now (x_set_now s r1.2))) + (1 : Int32)))) ((st_today (x_now (x_set_now (x_set_now s r1.2) (st_set_looks (x_now (x_set_now s r1.2)) ((st_looks (x_now (x_set_now s r1.2))) + (1 : Int32)))))) + (1 : Int32))) (dd D_X8_letEveningPass 36 rfl) (fun H locs hP hD hS => ?_)
        refine lv_iload_n F.1 F.2.1 (dd D_X8_letEveningPass 37 rfl) rfl (lv_at hl 0 rfl) ?_
        obtain rfl := Option.some.inj h
        exact rw_z (R := rmOf 4 0 0) F hP hD hS hr rfl hlk ⟨Nat.le_of_ble_eq_true rfl, Nat.le_of_ble_eq_true rfl⟩ ⟨rfl, rfl⟩ (dd D_X8_letEveningPass 38 rfl)
  · refine lv_iconst (v := (1 : Int32)) F.1 F.2.1 (dd D_X8_letEveningPass 8 rfl) ki_1 ?_
    refine lv_goto (tgt := 24) F.1 F.2.1 (dd D_X8_letEveningPass 9 rfl) rfl ?_
    refine lv_istore_n (lv' := [(1, .int (1 : Int32)), (0, .ref (ax 0))]) F.1 F.2.1 (dd D_X8_letEveningPass 11 rfl) rfl hl (Nat.le_of_ble_eq_true rfl) rfl (fun ls hl => ?_)
    refine lv_iload_n F.1 F.2.1 (dd D_X8_letEveningPass 12 rfl) rfl (lv_at hl 0 rfl) ?_
    refine x_if_eq (tgt := 65) F.1 F.2.1 (dd D_X8_letEveningPass 13 rfl) rfl h (fun c8 h => ?_) (fun c8 h => ?_)
    · refine lv_aload_n F.1 F.2.1 (dd D_X8_letEveningPass 30 rfl) rfl (lv_at hl 1 rfl) ?_
      refine getF F hK hP lf_X8_10 (0) (xp_0 cA ax (x_set_now s r1.2)) rfl (dd D_X8_letEveningPass 31 rfl) ?_
      refine lv_dup F.1 F.2.1 (dd D_X8_letEveningPass 32 rfl) rfl ?_
      refine getF F hK hP lf_X8_347 (1) (xp_1 cA ax (x_set_now s r1.2)) rfl (dd D_X8_letEveningPass 33 rfl) ?_
      refine lv_iconst (v := (1 : Int32)) F.1 F.2.1 (dd D_X8_letEveningPass 34 rfl) ki_1 ?_
      refine lv_iadd F.1 F.2.1 (dd D_X8_letEveningPass 35 rfl) ?_
      refine putF F hK hP hD hS lp_X8_347 (1) (xp_1 cA ax (x_set_now s r1.2)) (Nat.le_of_ble_eq_true rfl) (nar_int _) (fit_int _) (ws' := (xW cA ax (x_set_now (x_set_now s r1.2) (st_set_today (x_now (x_set_now s r1.2)) ((st_today (x_now (x_set_now s r1.2))) + (1 : Int32)))))) (xs_1_7 cA ax (x_set_now s r1.2) ((st_today (x_now (x_set_now s r1.2))) + (1 : Int32))) (dd D_X8_letEveningPass 36 rfl) (fun H locs hP hD hS => ?_)
      refine lv_iload_n F.1 F.2.1 (dd D_X8_letEveningPass 37 rfl) rfl (lv_at hl 0 rfl) ?_
      obtain rfl := Option.some.inj h
      exact rw_z (R := rmOf 4 0 0) F hP hD hS hr rfl hlk ⟨Nat.le_of_ble_eq_true rfl, Nat.le_of_ble_eq_true rfl⟩ ⟨rfl, rfl⟩ (dd D_X8_letEveningPass 38 rfl)
    · refine lv_aload_n F.1 F.2.1 (dd D_X8_letEveningPass 14 rfl) rfl (lv_at hl 1 rfl) ?_
      refine getF F hK hP lf_X8_27 (0) (xp_0 cA ax (x_set_now s r1.2)) rfl (dd D_X8_letEveningPass 15 rfl) ?_
      refine lv_aload_n F.1 F.2.1 (dd D_X8_letEveningPass 16 rfl) rfl (lv_at hl 1 rfl) ?_
      refine getF F hK hP lf_X8_10 (0) (xp_0 cA ax (x_set_now s r1.2)) rfl (dd D_X8_letEveningPass 17 rfl) ?_
      refine getF F hK hP lf_X8_347 (1) (xp_1 cA ax (x_set_now s r1.2)) rfl (dd D_X8_letEveningPass 18 rfl) ?_
      refine lv_sipush (v := (1080 : Int32)) F.1 F.2.1 (dd D_X8_letEveningPass 19 rfl) ks_1080 ?_
      refine lv_sipush (v := (1439 : Int32)) F.1 F.2.1 (dd D_X8_letEveningPass 20 rfl) ks_1439 ?_
      obtain ⟨r9, e10, h⟩ := Option.bind_eq_some_iff.mp h
      refine ro_go (st' := [.int r9]) (rV (rest := []) F (c_X2_shinesOf D cA ax (x_set_now s r1.2) n (st_today (x_now (x_set_now s r1.2))) (1080 : Int32) (1439 : Int32) r9 e10 l) lk_X8_249 (Nat.le_of_ble_eq_true rfl) (preRO hK hS hAb hP) (rcv_2 hK hP (q0 := (40)) (xp_40 cA ax (x_set_now s r1.2))) rfl hl rfl (Nat.le_of_ble_eq_true rfl) (dd D_X8_letEveningPass 21 rfl) ⟨Nat.le_of_ble_eq_true rfl, Nat.le_of_ble_eq_true rfl⟩) rfl ?_
      refine x_if_le (tgt := 65) F.1 F.2.1 (dd D_X8_letEveningPass 22 rfl) rfl h (fun c11 h => ?_) (fun c11 h => ?_)
      · refine lv_aload_n F.1 F.2.1 (dd D_X8_letEveningPass 30 rfl) rfl (lv_at hl 1 rfl) ?_
        refine getF F hK hP lf_X8_10 (0) (xp_0 cA ax (x_set_now s r1.2)) rfl (dd D_X8_letEveningPass 31 rfl) ?_
        refine lv_dup F.1 F.2.1 (dd D_X8_letEveningPass 32 rfl) rfl ?_
        refine getF F hK hP lf_X8_347 (1) (xp_1 cA ax (x_set_now s r1.2)) rfl (dd D_X8_letEveningPass 33 rfl) ?_
        refine lv_iconst (v := (1 : Int32)) F.1 F.2.1 (dd D_X8_letEveningPass 34 rfl) ki_1 ?_
        refine lv_iadd F.1 F.2.1 (dd D_X8_letEveningPass 35 rfl) ?_
        refine putF F hK hP hD hS lp_X8_347 (1) (xp_1 cA ax (x_set_now s r1.2)) (Nat.le_of_ble_eq_true rfl) (nar_int _) (fit_int _) (ws' := (xW cA ax (x_set_now (x_set_now s r1.2) (st_set_today (x_now (x_set_now s r1.2)) ((st_today (x_now (x_set_now s r1.2))) + (1 : Int32)))))) (xs_1_7 cA ax (x_set_now s r1.2) ((st_today (x_now (x_set_now s r1.2))) + (1 : Int32))) (dd D_X8_letEveningPass 36 rfl) (fun H locs hP hD hS => ?_)
        refine lv_iload_n F.1 F.2.1 (dd D_X8_letEveningPass 37 rfl) rfl (lv_at hl 0 rfl) ?_
        obtain rfl := Option.some.inj h
        exact rw_z (R := rmOf 4 0 0) F hP hD hS hr rfl hlk ⟨Nat.le_of_ble_eq_true rfl, Nat.le_of_ble_eq_true rfl⟩ ⟨rfl, rfl⟩ (dd D_X8_letEveningPass 38 rfl)
      · refine lv_aload_n F.1 F.2.1 (dd D_X8_letEveningPass 23 rfl) rfl (lv_at hl 1 rfl) ?_
        refine getF F hK hP lf_X8_10 (0) (xp_0 cA ax (x_set_now s r1.2)) rfl (dd D_X8_letEveningPass 24 rfl) ?_
        refine lv_dup F.1 F.2.1 (dd D_X8_letEveningPass 25 rfl) rfl ?_
        refine getF F hK hP lf_X8_353 (1) (xp_1 cA ax (x_set_now s r1.2)) rfl (dd D_X8_letEveningPass 26 rfl) ?_
        refine lv_iconst (v := (1 : Int32)) F.1 F.2.1 (dd D_X8_letEveningPass 27 rfl) ki_1 ?_
        refine lv_iadd F.1 F.2.1 (dd D_X8_letEveningPass 28 rfl) ?_
        refine putF F hK hP hD hS lp_X8_353 (1) (xp_1 cA ax (x_set_now s r1.2)) (Nat.le_of_ble_eq_true rfl) (nar_int _) (fit_int _) (ws' := (xW cA ax (x_set_now (x_set_now s r1.2) (st_set_looks (x_now (x_set_now s r1.2)) ((st_looks (x_now (x_set_now s r1.2))) + (1 : Int32)))))) (xs_1_8 cA ax (x_set_now s r1.2) ((st_looks (x_now (x_set_now s r1.2))) + (1 : Int32))) (dd D_X8_letEveningPass 29 rfl) (fun H locs hP hD hS => ?_)
        refine lv_aload_n F.1 F.2.1 (dd D_X8_letEveningPass 30 rfl) rfl (lv_at hl 1 rfl) ?_
        refine getF F hK hP lf_X8_10 (0) (xp_0 cA ax (x_set_now (x_set_now s r1.2) (st_set_looks (x_now (x_set_now s r1.2)) ((st_looks (x_now (x_set_now s r1.2))) + (1 : Int32))))) rfl (dd D_X8_letEveningPass 31 rfl) ?_
        refine lv_dup F.1 F.2.1 (dd D_X8_letEveningPass 32 rfl) rfl ?_
        refine getF F hK hP lf_X8_347 (1) (xp_1 cA ax (x_set_now (x_set_now s r1.2) (st_set_looks (x_now (x_set_now s r1.2)) ((st_looks (x_now (x_set_now s r1.2))) + (1 : Int32))))) rfl (dd D_X8_letEveningPass 33 rfl) ?_
        refine lv_iconst (v := (1 : Int32)) F.1 F.2.1 (dd D_X8_letEveningPass 34 rfl) ki_1 ?_
        refine lv_iadd F.1 F.2.1 (dd D_X8_letEveningPass 35 rfl) ?_
        refine putF F hK hP hD hS lp_X8_347 (1) (xp_1 cA ax (x_set_now (x_set_now s r1.2) (st_set_looks (x_now (x_set_now s r1.2)) ((st_looks (x_now (x_set_now s r1.2))) + (1 : Int32))))) (Nat.le_of_ble_eq_true rfl) (nar_int _) (fit_int _) (ws' := (xW cA ax (x_set_now (x_set_now (x_set_now s r1.2) (st_set_looks (x_now (x_set_now s r1.2)) ((st_looks (x_now (x_set_now s r1.2))) + (1 : Int32)))) (st_set_today (x_now (x_set_now (x_set_now s r1.2) (st_set_looks (x_now (x_set_now s r1.2)) ((st_looks (x_now (x_set_now s r1.2))) + (1 : Int32))))) ((st_today (x_now (x_set_now (x_set_now s r1.2) (st_set_looks (x_now (x_set_now s r1.2)) ((st_looks (x_now (x_set_now s r1.2))) + (1 : Int32)))))) + (1 : Int32)))))) (xs_1_7 cA ax (x_set_now (x_set_now s r1.2) (st_set_looks (x_now (x_set_now s r1.2)) ((st_looks (x_now (x_set_now s r1.2))) + (1 : Int32)))) ((st_today (x_now (x_set_now (x_set_now s r1.2) (st_set_looks (x_now (x_set_now s r1.2)) ((st_looks (x_now (x_set_now s r1.2))) + (1 : Int32)))))) + (1 : Int32))) (dd D_X8_letEveningPass 36 rfl) (fun H locs hP hD hS => ?_)
        refine lv_iload_n F.1 F.2.1 (dd D_X8_letEveningPass 37 rfl) rfl (lv_at hl 0 rfl) ?_
        obtain rfl := Option.some.inj h
        exact rw_z (R := rmOf 4 0 0) F hP hD hS hr rfl hlk ⟨Nat.le_of_ble_eq_true rfl, Nat.le_of_ble_eq_true rfl⟩ ⟨rfl, rfl⟩ (dd D_X8_letEveningPass 38 rfl)
def F_X8_goes (n : Nat) (s : XS) : Option (Int32 × XS) := (if (st_today (x_now s)) < (9999 : Int32) then (((F_X8_letEveningPass n s)).bind fun r2 => bf r2.1 (some ((1 : Int32), r2.2)) (some ((0 : Int32), r2.2))) else (((F_X8_refuse n s (-5 : Int32))).bind fun r5 => some (r5.1, r5.2)))
set_option maxHeartbeats 4000000 in
set_option maxRecDepth 100000 in
theorem c_X8_goes (D : va_G) (cA : Nat → ClassId) (ax : Nat → Nat) (s : XS) (n : Nat)  (r : (Int32 × XS)) (h : F_X8_goes n s = some r) : RW m_X8_goes 5 0 0 D cA [.ref (ax 0)] (xW cA ax s) (exq (some (.int r.1)) (xW cA ax r.2)) := by
  refine RW.ofW gy_X8_goes.2.2 (Nat.le_of_ble_eq_true rfl) ?_
  intro l p e sM m below meth c A H locs F hr hlk hnm hK hP hD hS hA hAb ls hl
  have hl : lv_has ls 1 [(0, .ref (ax 0))] := hl
  unfold F_X8_goes at h
  refine lv_aload_n F.1 F.2.1 (dd D_X8_goes 0 rfl) rfl (lv_at hl 0 rfl) ?_
  refine getF F hK hP lf_X8_10 (0) (xp_0 cA ax s) rfl (dd D_X8_goes 1 rfl) ?_
  refine getF F hK hP lf_X8_347 (1) (xp_1 cA ax s) rfl (dd D_X8_goes 2 rfl) ?_
  refine lv_sipush (v := (9999 : Int32)) F.1 F.2.1 (dd D_X8_goes 3 rfl) ks_9999 ?_
  refine x_icmp_lt (tgt := 20) F.1 F.2.1 (dd D_X8_goes 4 rfl) rfl h (fun c1 h => ?_) (fun c1 h => ?_)
  · refine lv_aload_n F.1 F.2.1 (dd D_X8_goes 9 rfl) rfl (lv_at hl 0 rfl) ?_
    obtain ⟨r2, e3, h⟩ := Option.bind_eq_some_iff.mp h
    refine rwe_all (st' := [.int (bI r2.1)]) hD hS hA (rV (rest := []) F (c_X8_letEveningPass D cA ax s n r2 e3 l H.size) lk_X8_350 (Nat.le_of_ble_eq_true rfl) (preRW hK hS hAb hP hD) (rcv_8 hK hP (q0 := (0)) (xp_0 cA ax s)) rfl hl rfl (Nat.le_of_ble_eq_true rfl) (dd D_X8_goes 10 rfl) ⟨Nat.le_of_ble_eq_true rfl, Nat.le_of_ble_eq_true rfl⟩) rfl (fun H locs hP hD hS => ?_)
    refine x_bif_eq (tgt := 31) F.1 F.2.1 (dd D_X8_goes 11 rfl) rfl h (fun c4 h => ?_) (fun c4 h => ?_)
    · refine lv_iconst (v := (0 : Int32)) F.1 F.2.1 (dd D_X8_goes 14 rfl) ki_0 ?_
      obtain rfl := Option.some.inj h
      exact rw_i (R := rmOf 5 0 0) F hP hD hS hr hlk ⟨Nat.le_of_ble_eq_true rfl, Nat.le_of_ble_eq_true rfl⟩ ⟨rfl, rfl⟩ (dd D_X8_goes 15 rfl)
    · refine lv_iconst (v := (1 : Int32)) F.1 F.2.1 (dd D_X8_goes 12 rfl) ki_1 ?_
      refine lv_goto (tgt := 32) F.1 F.2.1 (dd D_X8_goes 13 rfl) rfl ?_
      obtain rfl := Option.some.inj h
      exact rw_i (R := rmOf 5 0 0) F hP hD hS hr hlk ⟨Nat.le_of_ble_eq_true rfl, Nat.le_of_ble_eq_true rfl⟩ ⟨rfl, rfl⟩ (dd D_X8_goes 15 rfl)
  · refine lv_aload_n F.1 F.2.1 (dd D_X8_goes 5 rfl) rfl (lv_at hl 0 rfl) ?_
    refine lv_bipush (v := (-5 : Int32)) F.1 F.2.1 (dd D_X8_goes 6 rfl) kb_m5 ?_
    obtain ⟨r5, e6, h⟩ := Option.bind_eq_some_iff.mp h
    refine rwe_all (st' := [.int r5.1]) hD hS hA (rV (rest := []) F (c_X8_refuse D cA ax s n (-5 : Int32) r5 e6 l H.size) lk_X8_64 (Nat.le_of_ble_eq_true rfl) (preRW hK hS hAb hP hD) (rcv_8 hK hP (q0 := (0)) (xp_0 cA ax s)) rfl hl rfl (Nat.le_of_ble_eq_true rfl) (dd D_X8_goes 7 rfl) ⟨Nat.le_of_ble_eq_true rfl, Nat.le_of_ble_eq_true rfl⟩) rfl (fun H locs hP hD hS => ?_)
    obtain rfl := Option.some.inj h
    exact rw_i (R := rmOf 5 0 0) F hP hD hS hr hlk ⟨Nat.le_of_ble_eq_true rfl, Nat.le_of_ble_eq_true rfl⟩ ⟨rfl, rfl⟩ (dd D_X8_goes 8 rfl)
def F_X8_looks_L19 (n : Nat) (v1 : Int32) : Nat → Int32 → XS → Option (Int32 × XS)
  | 0, _, _ => none
  | kf + 1, w2, u0 => (if v1 ≤ w2 then some ((st_looks (x_now u0)), u0) else (if (9999 : Int32) ≤ (st_today (x_now u0)) then some ((st_looks (x_now u0)), u0) else (((F_X8_letEveningPass n u0)).bind fun r3 => F_X8_looks_L19 n v1 kf (w2 + (1 : Int32)) r3.2)))
def F_X8_looks (n : Nat) (s : XS) (p1 : Int32) : Option (Int32 × XS) := bf (F_X8_isIn p1 (1 : Int32) (40 : Int32)) (F_X8_looks_L19 n p1 n (0 : Int32) s) ((((F_X8_refuse n s (-2 : Int32))).bind fun r10 => some (r10.1, r10.2)))
set_option maxHeartbeats 4000000 in
set_option maxRecDepth 100000 in
theorem c_X8_looks (D : va_G) (cA : Nat → ClassId) (ax : Nat → Nat) (s : XS) (n : Nat) (p1 : Int32) (r : (Int32 × XS)) (h : F_X8_looks n s p1 = some r) : RW m_X8_looks 5 0 0 D cA [.ref (ax 0), .int p1] (xW cA ax s) (exq (some (.int r.1)) (xW cA ax r.2)) := by
  refine RW.ofW gy_X8_looks.2.2 (Nat.le_of_ble_eq_true rfl) ?_
  intro l p e sM m below meth c A H locs F hr hlk hnm hK hP hD hS hA hAb ls hl
  have hl : lv_has ls 3 [(0, .ref (ax 0)), (1, .int p1)] := hl
  unfold F_X8_looks at h
  refine lv_iload_n F.1 F.2.1 (dd D_X8_looks 0 rfl) rfl (lv_at hl 1 rfl) ?_
  refine lv_iconst (v := (1 : Int32)) F.1 F.2.1 (dd D_X8_looks 1 rfl) ki_1 ?_
  refine lv_bipush (v := (40 : Int32)) F.1 F.2.1 (dd D_X8_looks 2 rfl) kb_40 ?_
  refine ro_go (st' := [.int (bI (F_X8_isIn p1 (1 : Int32) (40 : Int32)))]) (rS (rest := []) F (c_X8_isIn D cA p1 (1 : Int32) (40 : Int32) l) lk_X8_60 (Nat.le_of_ble_eq_true rfl) (preRO hK hS hAb (emP)) rfl hl rfl (Nat.le_of_ble_eq_true rfl) (dd D_X8_looks 3 rfl) ⟨Nat.le_of_ble_eq_true rfl, Nat.le_of_ble_eq_true rfl⟩) rfl ?_
  refine x_bif_ne (tgt := 17) F.1 F.2.1 (dd D_X8_looks 4 rfl) rfl h (fun c12 h => ?_) (fun c12 h => ?_)
  · refine lv_iconst (v := (0 : Int32)) F.1 F.2.1 (dd D_X8_looks 9 rfl) ki_0 ?_
    refine lv_istore_n (lv' := [(2, .int (0 : Int32)), (0, .ref (ax 0)), (1, .int p1)]) F.1 F.2.1 (dd D_X8_looks 10 rfl) rfl hl (Nat.le_of_ble_eq_true rfl) rfl (fun ls hl => ?_)
    have L5 : ∀ (kf : Nat) (w2_L5 : Int32) (u0_L5 : XS) (H : Heap) (locs : List Loc) (ls : Array Slot), va_P D vwCl (xW cA ax u0_L5) H → va_D A (xW cA ax u0_L5) → va_S A sM.heap H locs → lv_has ls 3 [(0, .ref (ax 0)), (1, .int p1), (2, .int w2_L5)] → F_X8_looks_L19 n p1 kf w2_L5 u0_L5 = some r → Wrw 5 0 0 D A (exq (some (.int r.1)) (xW cA ax r.2)) p l e sM m ([.ref (ax 0), .int p1] : List Value).toArray below meth c H locs 0 0 19 ls [] := by
      intro kf
      induction kf with
      | zero =>
        intro w2_L5 u0_L5 H locs ls hP hD hS hl h
        cases (show none = some r from h)
      | succ k_L5 ih_L5 =>
        intro w2_L5 u0_L5 H locs ls hP hD hS hl h
        unfold F_X8_looks_L19 at h
        refine lv_iload_n F.1 F.2.1 (dd D_X8_looks 11 rfl) rfl (lv_at hl 2 rfl) ?_
        refine lv_iload_n F.1 F.2.1 (dd D_X8_looks 12 rfl) rfl (lv_at hl 1 rfl) ?_
        refine x_icmp_ge (tgt := 48) F.1 F.2.1 (dd D_X8_looks 13 rfl) rfl h (fun c6 h => ?_) (fun c6 h => ?_)
        · refine lv_aload_n F.1 F.2.1 (dd D_X8_looks 24 rfl) rfl (lv_at hl 0 rfl) ?_
          refine getF F hK hP lf_X8_10 (0) (xp_0 cA ax u0_L5) rfl (dd D_X8_looks 25 rfl) ?_
          refine getF F hK hP lf_X8_353 (1) (xp_1 cA ax u0_L5) rfl (dd D_X8_looks 26 rfl) ?_
          obtain rfl := Option.some.inj h
          exact rw_i (R := rmOf 5 0 0) F hP hD hS hr hlk ⟨Nat.le_of_ble_eq_true rfl, Nat.le_of_ble_eq_true rfl⟩ ⟨rfl, rfl⟩ (dd D_X8_looks 27 rfl)
        · refine lv_aload_n F.1 F.2.1 (dd D_X8_looks 14 rfl) rfl (lv_at hl 0 rfl) ?_
          refine getF F hK hP lf_X8_10 (0) (xp_0 cA ax u0_L5) rfl (dd D_X8_looks 15 rfl) ?_
          refine getF F hK hP lf_X8_347 (1) (xp_1 cA ax u0_L5) rfl (dd D_X8_looks 16 rfl) ?_
          refine lv_sipush (v := (9999 : Int32)) F.1 F.2.1 (dd D_X8_looks 17 rfl) ks_9999 ?_
          refine x_icmp_ge (tgt := 48) F.1 F.2.1 (dd D_X8_looks 18 rfl) rfl h (fun c7 h => ?_) (fun c7 h => ?_)
          · refine lv_aload_n F.1 F.2.1 (dd D_X8_looks 24 rfl) rfl (lv_at hl 0 rfl) ?_
            refine getF F hK hP lf_X8_10 (0) (xp_0 cA ax u0_L5) rfl (dd D_X8_looks 25 rfl) ?_
            refine getF F hK hP lf_X8_353 (1) (xp_1 cA ax u0_L5) rfl (dd D_X8_looks 26 rfl) ?_
            obtain rfl := Option.some.inj h
            exact rw_i (R := rmOf 5 0 0) F hP hD hS hr hlk ⟨Nat.le_of_ble_eq_true rfl, Nat.le_of_ble_eq_true rfl⟩ ⟨rfl, rfl⟩ (dd D_X8_looks 27 rfl)
          · refine lv_aload_n F.1 F.2.1 (dd D_X8_looks 19 rfl) rfl (lv_at hl 0 rfl) ?_
            obtain ⟨r8, e9, h⟩ := Option.bind_eq_some_iff.mp h
            refine rwe_all (st' := [.int (bI r8.1)]) hD hS hA (rV (rest := []) F (c_X8_letEveningPass D cA ax u0_L5 n r8 e9 l H.size) lk_X8_350 (Nat.le_of_ble_eq_true rfl) (preRW hK hS hAb hP hD) (rcv_8 hK hP (q0 := (0)) (xp_0 cA ax u0_L5)) rfl hl rfl (Nat.le_of_ble_eq_true rfl) (dd D_X8_looks 20 rfl) ⟨Nat.le_of_ble_eq_true rfl, Nat.le_of_ble_eq_true rfl⟩) rfl (fun H locs hP hD hS => ?_)
            refine lv_pop F.1 F.2.1 (dd D_X8_looks 21 rfl) rfl ?_
            refine lv_iinc (v := (w2_L5 + (1 : Int32))) (lv' := [(2, .int (w2_L5 + (1 : Int32))), (0, .ref (ax 0)), (1, .int p1)]) F.1 F.2.1 (dd D_X8_looks 22 rfl) hl (k := 2) rfl (congrArg (fun z => w2_L5 + z) ki_1) (Nat.le_of_ble_eq_true rfl) rfl (fun ls hl => ?_)
            refine lv_goto (tgt := 19) F.1 F.2.1 (dd D_X8_looks 23 rfl) rfl ?_
            exact ih_L5 (w2_L5 + (1 : Int32)) r8.2 _ _ ls hP hD hS (lv_sub hl [1, 2, 0] rfl) h
    exact L5 n (0 : Int32) s _ _ ls hP hD hS (lv_sub hl [1, 2, 0] rfl) h
  · refine lv_aload_n F.1 F.2.1 (dd D_X8_looks 5 rfl) rfl (lv_at hl 0 rfl) ?_
    refine lv_bipush (v := (-2 : Int32)) F.1 F.2.1 (dd D_X8_looks 6 rfl) kb_m2 ?_
    obtain ⟨r10, e11, h⟩ := Option.bind_eq_some_iff.mp h
    refine rwe_all (st' := [.int r10.1]) hD hS hA (rV (rest := []) F (c_X8_refuse D cA ax s n (-2 : Int32) r10 e11 l H.size) lk_X8_64 (Nat.le_of_ble_eq_true rfl) (preRW hK hS hAb hP hD) (rcv_8 hK hP (q0 := (0)) (xp_0 cA ax s)) rfl hl rfl (Nat.le_of_ble_eq_true rfl) (dd D_X8_looks 7 rfl) ⟨Nat.le_of_ble_eq_true rfl, Nat.le_of_ble_eq_true rfl⟩) rfl (fun H locs hP hD hS => ?_)
    obtain rfl := Option.some.inj h
    exact rw_i (R := rmOf 5 0 0) F hP hD hS hr hlk ⟨Nat.le_of_ble_eq_true rfl, Nat.le_of_ble_eq_true rfl⟩ ⟨rfl, rfl⟩ (dd D_X8_looks 8 rfl)
def F_X8_seed (s : XS) (p1 : Int32) : (Int32 × XS) := ((st_seed (x_now s)), (x_set_now s (st_set_seed (x_now s) p1)))
set_option maxHeartbeats 4000000 in
set_option maxRecDepth 100000 in
theorem c_X8_seed (D : va_G) (cA : Nat → ClassId) (ax : Nat → Nat) (s : XS) (p1 : Int32) : RW m_X8_seed 0 0 0 D cA [.ref (ax 0), .int p1] (xW cA ax s) (exq (some (.int (F_X8_seed s p1).1)) (xW cA ax (F_X8_seed s p1).2)) := by
  obtain ⟨r, h⟩ : ∃ r, F_X8_seed s p1 = r := ⟨_, rfl⟩
  rw [h]
  refine RW.ofW gy_X8_seed.2.2 (Nat.le_of_ble_eq_true rfl) ?_
  intro l p e sM m below meth c A H locs F hr hlk hnm hK hP hD hS hA hAb ls hl
  have hl : lv_has ls 3 [(0, .ref (ax 0)), (1, .int p1)] := hl
  unfold F_X8_seed at h
  refine lv_aload_n F.1 F.2.1 (dd D_X8_seed 0 rfl) rfl (lv_at hl 0 rfl) ?_
  refine getF F hK hP lf_X8_10 (0) (xp_0 cA ax s) rfl (dd D_X8_seed 1 rfl) ?_
  refine getF F hK hP lf_X8_356 (1) (xp_1 cA ax s) rfl (dd D_X8_seed 2 rfl) ?_
  refine lv_istore_n (lv' := [(2, .int (st_seed (x_now s))), (0, .ref (ax 0)), (1, .int p1)]) F.1 F.2.1 (dd D_X8_seed 3 rfl) rfl hl (Nat.le_of_ble_eq_true rfl) rfl (fun ls hl => ?_)
  refine lv_aload_n F.1 F.2.1 (dd D_X8_seed 4 rfl) rfl (lv_at hl 1 rfl) ?_
  refine getF F hK hP lf_X8_10 (0) (xp_0 cA ax s) rfl (dd D_X8_seed 5 rfl) ?_
  refine lv_iload_n F.1 F.2.1 (dd D_X8_seed 6 rfl) rfl (lv_at hl 2 rfl) ?_
  refine putF F hK hP hD hS lp_X8_356 (1) (xp_1 cA ax s) (Nat.le_of_ble_eq_true rfl) (nar_int _) (fit_int _) (ws' := (xW cA ax (x_set_now s (st_set_seed (x_now s) p1)))) (xs_1_9 cA ax s p1) (dd D_X8_seed 7 rfl) (fun H locs hP hD hS => ?_)
  refine lv_iload_n F.1 F.2.1 (dd D_X8_seed 8 rfl) rfl (lv_at hl 0 rfl) ?_
  subst h
  exact rw_i (R := rmOf 0 0 0) F hP hD hS hr hlk ⟨Nat.le_of_ble_eq_true rfl, Nat.le_of_ble_eq_true rfl⟩ ⟨rfl, rfl⟩ (dd D_X8_seed 9 rfl)
def F_X8_image (n : Nat) (s : XS) : Option (Int32 × XS) := (((F_X6_become n (x_kept s) (x_now s))).bind fun r1 => some ((1 : Int32), (x_set_isKept (x_set_kept s r1) true)))
set_option maxHeartbeats 4000000 in
set_option maxRecDepth 100000 in
theorem c_X8_image (D : va_G) (cA : Nat → ClassId) (ax : Nat → Nat) (s : XS) (n : Nat)  (r : (Int32 × XS)) (h : F_X8_image n s = some r) : RW m_X8_image 4 0 0 D cA [.ref (ax 0)] (xW cA ax s) (exq (some (.int r.1)) (xW cA ax r.2)) := by
  refine RW.ofW gy_X8_image.2.2 (Nat.le_of_ble_eq_true rfl) ?_
  intro l p e sM m below meth c A H locs F hr hlk hnm hK hP hD hS hA hAb ls hl
  have hl : lv_has ls 1 [(0, .ref (ax 0))] := hl
  unfold F_X8_image at h
  refine lv_aload_n F.1 F.2.1 (dd D_X8_image 0 rfl) rfl (lv_at hl 0 rfl) ?_
  refine getF F hK hP lf_X8_19 (0) (xp_0 cA ax s) rfl (dd D_X8_image 1 rfl) ?_
  refine lv_aload_n F.1 F.2.1 (dd D_X8_image 2 rfl) rfl (lv_at hl 0 rfl) ?_
  refine getF F hK hP lf_X8_10 (0) (xp_0 cA ax s) rfl (dd D_X8_image 3 rfl) ?_
  obtain ⟨r1, e2, h⟩ := Option.bind_eq_some_iff.mp h
  refine rwe (V := none) (wc := ((stateW cA (fun i => ax (27+i)) (x_kept s)) ++ (stateW cA (fun i => ax (1+i)) (x_now s)))) (wc' := ((stateW cA (fun i => ax (27+i)) r1) ++ (stateW cA (fun i => ax (1+i)) (x_now s)))) (st' := []) (W' := (xW cA ax (x_set_kept s r1))) hP hD hS hA [27, 28, 29, 30, 31, 32, 33, 34, 35, 36, 37, 38, 39, 1, 2, 3, 4, 5, 6, 7, 8, 9, 10, 11, 12, 13] (jc_x_27_1 cA ax s) (Nat_nd rfl) rfl (rV (rest := []) F (c_X6_become D cA (fun i => ax (27+i)) (x_kept s) (fun i => ax (1+i)) (x_now s) n r1 e2 l H.size) lk_X8_189 (Nat.le_of_ble_eq_true rfl) (preRW hK hS hAb (selP (is := [27, 28, 29, 30, 31, 32, 33, 34, 35, 36, 37, 38, 39, 1, 2, 3, 4, 5, 6, 7, 8, 9, 10, 11, 12, 13]) hP (jc_x_27_1 cA ax s)) (selD (is := [27, 28, 29, 30, 31, 32, 33, 34, 35, 36, 37, 38, 39, 1, 2, 3, 4, 5, 6, 7, 8, 9, 10, 11, 12, 13]) hD (Nat_nd rfl) (jc_x_27_1 cA ax s))) (rcv_6 hK hP (q0 := (27)) (xp_27 cA ax s)) rfl hl rfl (Nat.le_of_ble_eq_true rfl) (dd D_X8_image 4 rfl) ⟨Nat.le_of_ble_eq_true rfl, Nat.le_of_ble_eq_true rfl⟩) (js_x_27_1 cA ax s r1) rfl (fun H locs hP hD hS => ?_)
  refine lv_aload_n F.1 F.2.1 (dd D_X8_image 5 rfl) rfl (lv_at hl 0 rfl) ?_
  refine lv_iconst (v := (1 : Int32)) F.1 F.2.1 (dd D_X8_image 6 rfl) ki_1 ?_
  refine putF F hK hP hD hS lp_X8_359 (0) (xp_0 cA ax (x_set_kept s r1)) (Nat.le_of_ble_eq_true rfl) rfl rfl (ws' := (xW cA ax (x_set_isKept (x_set_kept s r1) true))) (xs_0_8 cA ax (x_set_kept s r1) true) (dd D_X8_image 7 rfl) (fun H locs hP hD hS => ?_)
  refine lv_iconst (v := (1 : Int32)) F.1 F.2.1 (dd D_X8_image 8 rfl) ki_1 ?_
  obtain rfl := Option.some.inj h
  exact rw_i (R := rmOf 4 0 0) F hP hD hS hr hlk ⟨Nat.le_of_ble_eq_true rfl, Nat.le_of_ble_eq_true rfl⟩ ⟨rfl, rfl⟩ (dd D_X8_image 9 rfl)
def F_X8_back (n : Nat) (s : XS) : Option (Int32 × XS) := bf (x_isKept s) ((((F_X6_become n (x_now s) (x_kept s))).bind fun r1 => some ((1 : Int32), (x_set_now s r1)))) ((((F_X8_refuse n s (-5 : Int32))).bind fun r3 => some (r3.1, r3.2)))
set_option maxHeartbeats 4000000 in
set_option maxRecDepth 100000 in
theorem c_X8_back (D : va_G) (cA : Nat → ClassId) (ax : Nat → Nat) (s : XS) (n : Nat)  (r : (Int32 × XS)) (h : F_X8_back n s = some r) : RW m_X8_back 4 0 0 D cA [.ref (ax 0)] (xW cA ax s) (exq (some (.int r.1)) (xW cA ax r.2)) := by
  refine RW.ofW gy_X8_back.2.2 (Nat.le_of_ble_eq_true rfl) ?_
  intro l p e sM m below meth c A H locs F hr hlk hnm hK hP hD hS hA hAb ls hl
  have hl : lv_has ls 1 [(0, .ref (ax 0))] := hl
  unfold F_X8_back at h
  refine lv_aload_n F.1 F.2.1 (dd D_X8_back 0 rfl) rfl (lv_at hl 0 rfl) ?_
  refine getF F hK hP lf_X8_359 (0) (xp_0 cA ax s) rfl (dd D_X8_back 1 rfl) ?_
  refine x_bif_ne (tgt := 14) F.1 F.2.1 (dd D_X8_back 2 rfl) rfl h (fun c5 h => ?_) (fun c5 h => ?_)
  · refine lv_aload_n F.1 F.2.1 (dd D_X8_back 7 rfl) rfl (lv_at hl 0 rfl) ?_
    refine getF F hK hP lf_X8_10 (0) (xp_0 cA ax s) rfl (dd D_X8_back 8 rfl) ?_
    refine lv_aload_n F.1 F.2.1 (dd D_X8_back 9 rfl) rfl (lv_at hl 0 rfl) ?_
    refine getF F hK hP lf_X8_19 (0) (xp_0 cA ax s) rfl (dd D_X8_back 10 rfl) ?_
    obtain ⟨r1, e2, h⟩ := Option.bind_eq_some_iff.mp h
    refine rwe (V := none) (wc := ((stateW cA (fun i => ax (1+i)) (x_now s)) ++ (stateW cA (fun i => ax (27+i)) (x_kept s)))) (wc' := ((stateW cA (fun i => ax (1+i)) r1) ++ (stateW cA (fun i => ax (27+i)) (x_kept s)))) (st' := []) (W' := (xW cA ax (x_set_now s r1))) hP hD hS hA [1, 2, 3, 4, 5, 6, 7, 8, 9, 10, 11, 12, 13, 27, 28, 29, 30, 31, 32, 33, 34, 35, 36, 37, 38, 39] (jc_x_1_27 cA ax s) (Nat_nd rfl) rfl (rV (rest := []) F (c_X6_become D cA (fun i => ax (1+i)) (x_now s) (fun i => ax (27+i)) (x_kept s) n r1 e2 l H.size) lk_X8_189 (Nat.le_of_ble_eq_true rfl) (preRW hK hS hAb (selP (is := [1, 2, 3, 4, 5, 6, 7, 8, 9, 10, 11, 12, 13, 27, 28, 29, 30, 31, 32, 33, 34, 35, 36, 37, 38, 39]) hP (jc_x_1_27 cA ax s)) (selD (is := [1, 2, 3, 4, 5, 6, 7, 8, 9, 10, 11, 12, 13, 27, 28, 29, 30, 31, 32, 33, 34, 35, 36, 37, 38, 39]) hD (Nat_nd rfl) (jc_x_1_27 cA ax s))) (rcv_6 hK hP (q0 := (1)) (xp_1 cA ax s)) rfl hl rfl (Nat.le_of_ble_eq_true rfl) (dd D_X8_back 11 rfl) ⟨Nat.le_of_ble_eq_true rfl, Nat.le_of_ble_eq_true rfl⟩) (js_x_1_27 cA ax s r1) rfl (fun H locs hP hD hS => ?_)
    refine lv_iconst (v := (1 : Int32)) F.1 F.2.1 (dd D_X8_back 12 rfl) ki_1 ?_
    obtain rfl := Option.some.inj h
    exact rw_i (R := rmOf 4 0 0) F hP hD hS hr hlk ⟨Nat.le_of_ble_eq_true rfl, Nat.le_of_ble_eq_true rfl⟩ ⟨rfl, rfl⟩ (dd D_X8_back 13 rfl)
  · refine lv_aload_n F.1 F.2.1 (dd D_X8_back 3 rfl) rfl (lv_at hl 0 rfl) ?_
    refine lv_bipush (v := (-5 : Int32)) F.1 F.2.1 (dd D_X8_back 4 rfl) kb_m5 ?_
    obtain ⟨r3, e4, h⟩ := Option.bind_eq_some_iff.mp h
    refine rwe_all (st' := [.int r3.1]) hD hS hA (rV (rest := []) F (c_X8_refuse D cA ax s n (-5 : Int32) r3 e4 l H.size) lk_X8_64 (Nat.le_of_ble_eq_true rfl) (preRW hK hS hAb hP hD) (rcv_8 hK hP (q0 := (0)) (xp_0 cA ax s)) rfl hl rfl (Nat.le_of_ble_eq_true rfl) (dd D_X8_back 5 rfl) ⟨Nat.le_of_ble_eq_true rfl, Nat.le_of_ble_eq_true rfl⟩) rfl (fun H locs hP hD hS => ?_)
    obtain rfl := Option.some.inj h
    exact rw_i (R := rmOf 4 0 0) F hP hD hS hr hlk ⟨Nat.le_of_ble_eq_true rfl, Nat.le_of_ble_eq_true rfl⟩ ⟨rfl, rfl⟩ (dd D_X8_back 6 rfl)
def F_X8_shelvesInUse_L4 (n : Nat) (u0 : XS)  : Nat → Int32 → Int32 → Option Int32
  | 0, _, _ => none
  | kf + 1, w1, w2 => (if (8 : Int32) ≤ w2 then some (w1) else gd (inb w2 8) (bf (F_X5_isBare (x_sh u0 (Int32.toNatClampNeg w2))) (F_X8_shelvesInUse_L4 n u0 kf w1 (w2 + (1 : Int32))) (F_X8_shelvesInUse_L4 n u0 kf (w1 + (1 : Int32)) (w2 + (1 : Int32)))))
def F_X8_shelvesInUse (n : Nat) (s : XS) : Option Int32 := F_X8_shelvesInUse_L4 n s n (0 : Int32) (0 : Int32)
set_option maxHeartbeats 4000000 in
set_option maxRecDepth 100000 in
theorem c_X8_shelvesInUse (D : va_G) (cA : Nat → ClassId) (ax : Nat → Nat) (s : XS) (n : Nat)  (r : Int32) (h : F_X8_shelvesInUse n s = some r) : RO m_X8_shelvesInUse 1 D cA [.ref (ax 0)] (xW cA ax s) (some (.int r)) := by
  refine RO.ofW gy_X8_shelvesInUse.2.2 (Nat.le_of_ble_eq_true rfl) ?_
  intro l p e sM m below meth c F hr hlk hK hP hS hAb ls hl
  have hl : lv_has ls 4 [(0, .ref (ax 0))] := hl
  unfold F_X8_shelvesInUse at h
  refine lv_iconst (v := (0 : Int32)) F.1 F.2.1 (dd D_X8_shelvesInUse 0 rfl) ki_0 ?_
  refine lv_istore_n (lv' := [(1, .int (0 : Int32)), (0, .ref (ax 0))]) F.1 F.2.1 (dd D_X8_shelvesInUse 1 rfl) rfl hl (Nat.le_of_ble_eq_true rfl) rfl (fun ls hl => ?_)
  refine lv_iconst (v := (0 : Int32)) F.1 F.2.1 (dd D_X8_shelvesInUse 2 rfl) ki_0 ?_
  refine lv_istore_n (lv' := [(2, .int (0 : Int32)), (1, .int (0 : Int32)), (0, .ref (ax 0))]) F.1 F.2.1 (dd D_X8_shelvesInUse 3 rfl) rfl hl (Nat.le_of_ble_eq_true rfl) rfl (fun ls hl => ?_)
  have L5 : ∀ (kf : Nat) (w1_L5 : Int32) (w2_L5 : Int32) (ls : Array Slot), lv_has ls 4 [(0, .ref (ax 0)), (1, .int w1_L5), (2, .int w2_L5)] → F_X8_shelvesInUse_L4 n s kf w1_L5 w2_L5 = some r → Wro 1 (some (.int r)) p l e sM m ([.ref (ax 0)] : List Value).toArray below meth c 4 ls [] := by
    intro kf
    induction kf with
    | zero =>
      intro w1_L5 w2_L5 ls hl h
      cases (show none = some r from h)
    | succ k_L5 ih_L5 =>
      intro w1_L5 w2_L5 ls hl h
      unfold F_X8_shelvesInUse_L4 at h
      refine lv_iload_n F.1 F.2.1 (dd D_X8_shelvesInUse 4 rfl) rfl (lv_at hl 2 rfl) ?_
      refine lv_aload_n F.1 F.2.1 (dd D_X8_shelvesInUse 5 rfl) rfl (lv_at hl 0 rfl) ?_
      refine getF F hK hP lf_X8_47 (0) (xp_0 cA ax s) rfl (dd D_X8_shelvesInUse 6 rfl) ?_
      refine alen F hK hP (45) 3 (xp_45 cA ax s) rfl (v := (8 : Int32)) kn_8 (dd D_X8_shelvesInUse 7 rfl) ?_
      refine x_icmp_ge (tgt := 40) F.1 F.2.1 (dd D_X8_shelvesInUse 8 rfl) rfl h (fun c6 h => ?_) (fun c6 h => ?_)
      · refine lv_iload_n F.1 F.2.1 (dd D_X8_shelvesInUse 22 rfl) rfl (lv_at hl 1 rfl) ?_
        exact ro_i (R := rmOf 1 0 0) F hr hlk (congrArg (Option.map Value.int) h) (dd D_X8_shelvesInUse 23 rfl)
      · refine lv_aload_n F.1 F.2.1 (dd D_X8_shelvesInUse 9 rfl) rfl (lv_at hl 0 rfl) ?_
        refine getF F hK hP lf_X8_47 (0) (xp_0 cA ax s) rfl (dd D_X8_shelvesInUse 10 rfl) ?_
        refine lv_iload_n F.1 F.2.1 (dd D_X8_shelvesInUse 11 rfl) rfl (lv_at hl 2 rfl) ?_
        refine aldS (g := fun j => ax (46+2*j)) F hK hP (45) (xp_45 cA ax s) 3 rfl (fun _ => rfl) h (dd D_X8_shelvesInUse 12 rfl) (fun z7 h => ?_)
        have hk8 : (Int32.toNatClampNeg w2_L5) < 8 := inb_lt z7
        refine lv_astore_n (lv' := [(3, .ref (ax (46+2*(Int32.toNatClampNeg w2_L5)))), (0, .ref (ax 0)), (1, .int w1_L5), (2, .int w2_L5)]) F.1 F.2.1 (dd D_X8_shelvesInUse 13 rfl) rfl hl (Nat.le_of_ble_eq_true rfl) rfl (fun ls hl => ?_)
        refine lv_aload_n F.1 F.2.1 (dd D_X8_shelvesInUse 14 rfl) rfl (lv_at hl 0 rfl) ?_
        refine lv_ifnull F.1 F.2.1 (dd D_X8_shelvesInUse 15 rfl) ?_
        refine lv_aload_n F.1 F.2.1 (dd D_X8_shelvesInUse 16 rfl) rfl (lv_at hl 0 rfl) ?_
        refine ro_go (st' := [.int (bI (F_X5_isBare (x_sh s (Int32.toNatClampNeg w2_L5))))]) (rV (rest := []) F (c_X5_isBare D cA (fun i => ax (46+2*(Int32.toNatClampNeg w2_L5)+i)) (x_sh s (Int32.toNatClampNeg w2_L5)) l) lk_X8_91 (Nat.le_of_ble_eq_true rfl) (preRO hK hS hAb (pg_sh hk8 hP)) (rcv_5 hK hP (q0 := (46+2*(Int32.toNatClampNeg w2_L5))) (xp_sh cA ax s (Int32.toNatClampNeg w2_L5) hk8)) rfl hl rfl (Nat.le_of_ble_eq_true rfl) (dd D_X8_shelvesInUse 17 rfl) ⟨Nat.le_of_ble_eq_true rfl, Nat.le_of_ble_eq_true rfl⟩) rfl ?_
        refine x_bif_ne (tgt := 34) F.1 F.2.1 (dd D_X8_shelvesInUse 18 rfl) rfl h (fun c9 h => ?_) (fun c9 h => ?_)
        · refine lv_iinc (v := (w2_L5 + (1 : Int32))) (lv' := [(2, .int (w2_L5 + (1 : Int32))), (3, .ref (ax (46+2*(Int32.toNatClampNeg w2_L5)))), (0, .ref (ax 0)), (1, .int w1_L5)]) F.1 F.2.1 (dd D_X8_shelvesInUse 20 rfl) hl (k := 3) rfl (congrArg (fun z => w2_L5 + z) ki_1) (Nat.le_of_ble_eq_true rfl) rfl (fun ls hl => ?_)
          refine lv_goto (tgt := 4) F.1 F.2.1 (dd D_X8_shelvesInUse 21 rfl) rfl ?_
          exact ih_L5 w1_L5 (w2_L5 + (1 : Int32)) ls (lv_sub hl [2, 3, 0] rfl) h
        · refine lv_iinc (v := (w1_L5 + (1 : Int32))) (lv' := [(1, .int (w1_L5 + (1 : Int32))), (3, .ref (ax (46+2*(Int32.toNatClampNeg w2_L5)))), (0, .ref (ax 0)), (2, .int w2_L5)]) F.1 F.2.1 (dd D_X8_shelvesInUse 19 rfl) hl (k := 2) rfl (congrArg (fun z => w1_L5 + z) ki_1) (Nat.le_of_ble_eq_true rfl) rfl (fun ls hl => ?_)
          refine lv_iinc (v := (w2_L5 + (1 : Int32))) (lv' := [(2, .int (w2_L5 + (1 : Int32))), (1, .int (w1_L5 + (1 : Int32))), (3, .ref (ax (46+2*(Int32.toNatClampNeg w2_L5)))), (0, .ref (ax 0))]) F.1 F.2.1 (dd D_X8_shelvesInUse 20 rfl) hl (k := 3) rfl (congrArg (fun z => w2_L5 + z) ki_1) (Nat.le_of_ble_eq_true rfl) rfl (fun ls hl => ?_)
          refine lv_goto (tgt := 4) F.1 F.2.1 (dd D_X8_shelvesInUse 21 rfl) rfl ?_
          exact ih_L5 (w1_L5 + (1 : Int32)) (w2_L5 + (1 : Int32)) ls (lv_sub hl [3, 1, 0] rfl) h
  exact L5 n (0 : Int32) (0 : Int32) ls (lv_sub hl [2, 1, 0] rfl) h
def F_X8_refusalsAt (n : Nat) (s : XS) (p1 : Int32) : Option Int32 := (if p1 < 0 then some ((-1 : Int32)) else (if (5 : Int32) ≤ p1 then some ((-1 : Int32)) else gd (inb p1 5) (some (((x_ref s) (Int32.toNatClampNeg p1))))))
set_option maxHeartbeats 4000000 in
set_option maxRecDepth 100000 in
theorem c_X8_refusalsAt (D : va_G) (cA : Nat → ClassId) (ax : Nat → Nat) (s : XS) (n : Nat) (p1 : Int32) (r : Int32) (h : F_X8_refusalsAt n s p1 = some r) : RO m_X8_refusalsAt 0 D cA [.ref (ax 0), .int p1] (xW cA ax s) (some (.int r)) := by
  refine RO.ofW gy_X8_refusalsAt.2.2 (Nat.le_of_ble_eq_true rfl) ?_
  intro l p e sM m below meth c F hr hlk hK hP hS hAb ls hl
  have hl : lv_has ls 2 [(0, .ref (ax 0)), (1, .int p1)] := hl
  unfold F_X8_refusalsAt at h
  refine lv_iload_n F.1 F.2.1 (dd D_X8_refusalsAt 0 rfl) rfl (lv_at hl 1 rfl) ?_
  refine x_if_lt (tgt := 22) F.1 F.2.1 (dd D_X8_refusalsAt 1 rfl) rfl h (fun c1 h => ?_) (fun c1 h => ?_)
  · refine lv_iconst (v := (-1 : Int32)) F.1 F.2.1 (dd D_X8_refusalsAt 12 rfl) ki_m1 ?_
    exact ro_i (R := rmOf 0 0 0) F hr hlk (congrArg (Option.map Value.int) h) (dd D_X8_refusalsAt 13 rfl)
  · refine lv_iload_n F.1 F.2.1 (dd D_X8_refusalsAt 2 rfl) rfl (lv_at hl 1 rfl) ?_
    refine lv_aload_n F.1 F.2.1 (dd D_X8_refusalsAt 3 rfl) rfl (lv_at hl 0 rfl) ?_
    refine getF F hK hP lf_X8_51 (0) (xp_0 cA ax s) rfl (dd D_X8_refusalsAt 4 rfl) ?_
    refine alen F hK hP (62) 0 (xp_62 cA ax s) rfl (v := (5 : Int32)) kn_5 (dd D_X8_refusalsAt 5 rfl) ?_
    refine x_icmp_ge (tgt := 22) F.1 F.2.1 (dd D_X8_refusalsAt 6 rfl) rfl h (fun c2 h => ?_) (fun c2 h => ?_)
    · refine lv_iconst (v := (-1 : Int32)) F.1 F.2.1 (dd D_X8_refusalsAt 12 rfl) ki_m1 ?_
      exact ro_i (R := rmOf 0 0 0) F hr hlk (congrArg (Option.map Value.int) h) (dd D_X8_refusalsAt 13 rfl)
    · refine lv_aload_n F.1 F.2.1 (dd D_X8_refusalsAt 7 rfl) rfl (lv_at hl 0 rfl) ?_
      refine getF F hK hP lf_X8_51 (0) (xp_0 cA ax s) rfl (dd D_X8_refusalsAt 8 rfl) ?_
      refine lv_iload_n F.1 F.2.1 (dd D_X8_refusalsAt 9 rfl) rfl (lv_at hl 1 rfl) ?_
      refine aldI F hK hP (62) (xp_62 cA ax s) h (dd D_X8_refusalsAt 10 rfl) (fun z3 h => ?_)
      refine lv_goto (tgt := 23) F.1 F.2.1 (dd D_X8_refusalsAt 11 rfl) rfl ?_
      exact ro_i (R := rmOf 0 0 0) F hr hlk (congrArg (Option.map Value.int) h) (dd D_X8_refusalsAt 13 rfl)
def F_X8_status (n : Nat) (s : XS) (p1 : Int32) : Option Int32 := (if p1 = (0 : Int32) then some ((F_X1_count (st_hill (x_now s)))) else (if p1 = (1 : Int32) then some ((F_X0_count 6 (st_stones (x_now s)))) else (if p1 = (2 : Int32) then some ((F_X0_count 8 (st_clouds (x_now s)))) else (if p1 = (3 : Int32) then some ((F_X6_askedOf (x_now s) (p1 - (3 : Int32)))) else (if p1 = (4 : Int32) then some ((F_X6_askedOf (x_now s) (p1 - (3 : Int32)))) else (if p1 = (5 : Int32) then some ((F_X6_askedOf (x_now s) (p1 - (3 : Int32)))) else (if p1 = (6 : Int32) then some ((F_X6_askedOf (x_now s) (p1 - (3 : Int32)))) else (if p1 = (7 : Int32) then some ((st_today (x_now s))) else (if p1 = (8 : Int32) then some ((st_looks (x_now s))) else (if p1 = (9 : Int32) then some ((F_X7_size s)) else (if p1 = (10 : Int32) then some ((st_seed (x_now s))) else (if p1 = (11 : Int32) then (((F_X8_shelvesInUse n s)).bind fun r2 => some (r2)) else (((F_X8_refusalsAt n s (p1 - (12 : Int32)))).bind fun r4 => some (r4))))))))))))))
set_option maxHeartbeats 4000000 in
set_option maxRecDepth 100000 in
theorem c_X8_status (D : va_G) (cA : Nat → ClassId) (ax : Nat → Nat) (s : XS) (n : Nat) (p1 : Int32) (r : Int32) (h : F_X8_status n s p1 = some r) : RO m_X8_status 2 D cA [.ref (ax 0), .int p1] (xW cA ax s) (some (.int r)) := by
  refine RO.ofW gy_X8_status.2.2 (Nat.le_of_ble_eq_true rfl) ?_
  intro l p e sM m below meth c F hr hlk hK hP hS hAb ls hl
  have hl : lv_has ls 2 [(0, .ref (ax 0)), (1, .int p1)] := hl
  unfold F_X8_status at h
  refine lv_iload_n F.1 F.2.1 (dd D_X8_status 0 rfl) rfl (lv_at hl 1 rfl) ?_
  refine x_ts (tgt := 64) F.1 F.2.1 (0 : Int32) (dd D_X8_status 1 rfl) h (by decide) (by decide) rfl rfl (fun c1_0 h => ?_) (fun c1_0 h => ?_)
  · refine lv_aload_n F.1 F.2.1 (dd D_X8_status 2 rfl) rfl (lv_at hl 0 rfl) ?_
    refine getF F hK hP lf_X8_10 (0) (xp_0 cA ax s) rfl (dd D_X8_status 3 rfl) ?_
    refine getF F hK hP lf_X8_147 (1) (xp_1 cA ax s) rfl (dd D_X8_status 4 rfl) ?_
    refine ro_go (st' := [.int (F_X1_count (st_hill (x_now s)))]) (rV (rest := []) F (c_X1_count D cA (fun i => ax (2+i)) (st_hill (x_now s)) l) lk_X8_160 (Nat.le_of_ble_eq_true rfl) (preRO hK hS hAb (pg_x_2 hP)) (rcv_1 hK hP (q0 := (2)) (xp_2 cA ax s)) rfl hl rfl (Nat.le_of_ble_eq_true rfl) (dd D_X8_status 5 rfl) ⟨Nat.le_of_ble_eq_true rfl, Nat.le_of_ble_eq_true rfl⟩) rfl ?_
    exact ro_i (R := rmOf 2 0 0) F hr hlk (congrArg (Option.map Value.int) h) (dd D_X8_status 6 rfl)
  refine x_ts (tgt := 75) F.1 F.2.1 (1 : Int32) (dd D_X8_status 1 rfl) h (by decide) (by decide) rfl rfl (fun c1_1 h => ?_) (fun c1_1 h => ?_)
  · refine lv_aload_n F.1 F.2.1 (dd D_X8_status 7 rfl) rfl (lv_at hl 0 rfl) ?_
    refine getF F hK hP lf_X8_10 (0) (xp_0 cA ax s) rfl (dd D_X8_status 8 rfl) ?_
    refine getF F hK hP lf_X8_163 (1) (xp_1 cA ax s) rfl (dd D_X8_status 9 rfl) ?_
    refine ro_go (st' := [.int (F_X0_count 6 (st_stones (x_now s)))]) (rV (rest := []) F (c_X0_count D cA 6 (fun i => ax (10+i)) (st_stones (x_now s)) l) lk_X8_172 (Nat.le_of_ble_eq_true rfl) (preRO hK hS hAb (pg_x_10 hP)) (rcv_0 hK hP (q0 := (10)) (xp_10 cA ax s)) rfl hl rfl (Nat.le_of_ble_eq_true rfl) (dd D_X8_status 10 rfl) ⟨Nat.le_of_ble_eq_true rfl, Nat.le_of_ble_eq_true rfl⟩) rfl ?_
    exact ro_i (R := rmOf 2 0 0) F hr hlk (congrArg (Option.map Value.int) h) (dd D_X8_status 11 rfl)
  refine x_ts (tgt := 86) F.1 F.2.1 (2 : Int32) (dd D_X8_status 1 rfl) h (by decide) (by decide) rfl rfl (fun c1_2 h => ?_) (fun c1_2 h => ?_)
  · refine lv_aload_n F.1 F.2.1 (dd D_X8_status 12 rfl) rfl (lv_at hl 0 rfl) ?_
    refine getF F hK hP lf_X8_10 (0) (xp_0 cA ax s) rfl (dd D_X8_status 13 rfl) ?_
    refine getF F hK hP lf_X8_173 (1) (xp_1 cA ax s) rfl (dd D_X8_status 14 rfl) ?_
    refine ro_go (st' := [.int (F_X0_count 8 (st_clouds (x_now s)))]) (rV (rest := []) F (c_X0_count D cA 8 (fun i => ax (12+i)) (st_clouds (x_now s)) l) lk_X8_172 (Nat.le_of_ble_eq_true rfl) (preRO hK hS hAb (pg_x_12 hP)) (rcv_0 hK hP (q0 := (12)) (xp_12 cA ax s)) rfl hl rfl (Nat.le_of_ble_eq_true rfl) (dd D_X8_status 15 rfl) ⟨Nat.le_of_ble_eq_true rfl, Nat.le_of_ble_eq_true rfl⟩) rfl ?_
    exact ro_i (R := rmOf 2 0 0) F hr hlk (congrArg (Option.map Value.int) h) (dd D_X8_status 16 rfl)
  refine x_ts (tgt := 97) F.1 F.2.1 (3 : Int32) (dd D_X8_status 1 rfl) h (by decide) (by decide) rfl rfl (fun c1_3 h => ?_) (fun c1_3 h => ?_)
  · refine lv_aload_n F.1 F.2.1 (dd D_X8_status 17 rfl) rfl (lv_at hl 0 rfl) ?_
    refine getF F hK hP lf_X8_10 (0) (xp_0 cA ax s) rfl (dd D_X8_status 18 rfl) ?_
    refine lv_iload_n F.1 F.2.1 (dd D_X8_status 19 rfl) rfl (lv_at hl 1 rfl) ?_
    refine lv_iconst (v := (3 : Int32)) F.1 F.2.1 (dd D_X8_status 20 rfl) ki_3 ?_
    refine lv_isub F.1 F.2.1 (dd D_X8_status 21 rfl) ?_
    refine ro_go (st' := [.int (F_X6_askedOf (x_now s) (p1 - (3 : Int32)))]) (rV (rest := []) F (c_X6_askedOf D cA (fun i => ax (1+i)) (x_now s) (p1 - (3 : Int32)) l) lk_X8_141 (Nat.le_of_ble_eq_true rfl) (preRO hK hS hAb (pg_x_1 hP)) (rcv_6 hK hP (q0 := (1)) (xp_1 cA ax s)) rfl hl rfl (Nat.le_of_ble_eq_true rfl) (dd D_X8_status 22 rfl) ⟨Nat.le_of_ble_eq_true rfl, Nat.le_of_ble_eq_true rfl⟩) rfl ?_
    exact ro_i (R := rmOf 2 0 0) F hr hlk (congrArg (Option.map Value.int) h) (dd D_X8_status 23 rfl)
  refine x_ts (tgt := 97) F.1 F.2.1 (4 : Int32) (dd D_X8_status 1 rfl) h (by decide) (by decide) rfl rfl (fun c1_4 h => ?_) (fun c1_4 h => ?_)
  · refine lv_aload_n F.1 F.2.1 (dd D_X8_status 17 rfl) rfl (lv_at hl 0 rfl) ?_
    refine getF F hK hP lf_X8_10 (0) (xp_0 cA ax s) rfl (dd D_X8_status 18 rfl) ?_
    refine lv_iload_n F.1 F.2.1 (dd D_X8_status 19 rfl) rfl (lv_at hl 1 rfl) ?_
    refine lv_iconst (v := (3 : Int32)) F.1 F.2.1 (dd D_X8_status 20 rfl) ki_3 ?_
    refine lv_isub F.1 F.2.1 (dd D_X8_status 21 rfl) ?_
    refine ro_go (st' := [.int (F_X6_askedOf (x_now s) (p1 - (3 : Int32)))]) (rV (rest := []) F (c_X6_askedOf D cA (fun i => ax (1+i)) (x_now s) (p1 - (3 : Int32)) l) lk_X8_141 (Nat.le_of_ble_eq_true rfl) (preRO hK hS hAb (pg_x_1 hP)) (rcv_6 hK hP (q0 := (1)) (xp_1 cA ax s)) rfl hl rfl (Nat.le_of_ble_eq_true rfl) (dd D_X8_status 22 rfl) ⟨Nat.le_of_ble_eq_true rfl, Nat.le_of_ble_eq_true rfl⟩) rfl ?_
    exact ro_i (R := rmOf 2 0 0) F hr hlk (congrArg (Option.map Value.int) h) (dd D_X8_status 23 rfl)
  refine x_ts (tgt := 97) F.1 F.2.1 (5 : Int32) (dd D_X8_status 1 rfl) h (by decide) (by decide) rfl rfl (fun c1_5 h => ?_) (fun c1_5 h => ?_)
  · refine lv_aload_n F.1 F.2.1 (dd D_X8_status 17 rfl) rfl (lv_at hl 0 rfl) ?_
    refine getF F hK hP lf_X8_10 (0) (xp_0 cA ax s) rfl (dd D_X8_status 18 rfl) ?_
    refine lv_iload_n F.1 F.2.1 (dd D_X8_status 19 rfl) rfl (lv_at hl 1 rfl) ?_
    refine lv_iconst (v := (3 : Int32)) F.1 F.2.1 (dd D_X8_status 20 rfl) ki_3 ?_
    refine lv_isub F.1 F.2.1 (dd D_X8_status 21 rfl) ?_
    refine ro_go (st' := [.int (F_X6_askedOf (x_now s) (p1 - (3 : Int32)))]) (rV (rest := []) F (c_X6_askedOf D cA (fun i => ax (1+i)) (x_now s) (p1 - (3 : Int32)) l) lk_X8_141 (Nat.le_of_ble_eq_true rfl) (preRO hK hS hAb (pg_x_1 hP)) (rcv_6 hK hP (q0 := (1)) (xp_1 cA ax s)) rfl hl rfl (Nat.le_of_ble_eq_true rfl) (dd D_X8_status 22 rfl) ⟨Nat.le_of_ble_eq_true rfl, Nat.le_of_ble_eq_true rfl⟩) rfl ?_
    exact ro_i (R := rmOf 2 0 0) F hr hlk (congrArg (Option.map Value.int) h) (dd D_X8_status 23 rfl)
  refine x_ts (tgt := 97) F.1 F.2.1 (6 : Int32) (dd D_X8_status 1 rfl) h (by decide) (by decide) rfl rfl (fun c1_6 h => ?_) (fun c1_6 h => ?_)
  · refine lv_aload_n F.1 F.2.1 (dd D_X8_status 17 rfl) rfl (lv_at hl 0 rfl) ?_
    refine getF F hK hP lf_X8_10 (0) (xp_0 cA ax s) rfl (dd D_X8_status 18 rfl) ?_
    refine lv_iload_n F.1 F.2.1 (dd D_X8_status 19 rfl) rfl (lv_at hl 1 rfl) ?_
    refine lv_iconst (v := (3 : Int32)) F.1 F.2.1 (dd D_X8_status 20 rfl) ki_3 ?_
    refine lv_isub F.1 F.2.1 (dd D_X8_status 21 rfl) ?_
    refine ro_go (st' := [.int (F_X6_askedOf (x_now s) (p1 - (3 : Int32)))]) (rV (rest := []) F (c_X6_askedOf D cA (fun i => ax (1+i)) (x_now s) (p1 - (3 : Int32)) l) lk_X8_141 (Nat.le_of_ble_eq_true rfl) (preRO hK hS hAb (pg_x_1 hP)) (rcv_6 hK hP (q0 := (1)) (xp_1 cA ax s)) rfl hl rfl (Nat.le_of_ble_eq_true rfl) (dd D_X8_status 22 rfl) ⟨Nat.le_of_ble_eq_true rfl, Nat.le_of_ble_eq_true rfl⟩) rfl ?_
    exact ro_i (R := rmOf 2 0 0) F hr hlk (congrArg (Option.map Value.int) h) (dd D_X8_status 23 rfl)
  refine x_ts (tgt := 108) F.1 F.2.1 (7 : Int32) (dd D_X8_status 1 rfl) h (by decide) (by decide) rfl rfl (fun c1_7 h => ?_) (fun c1_7 h => ?_)
  · refine lv_aload_n F.1 F.2.1 (dd D_X8_status 24 rfl) rfl (lv_at hl 0 rfl) ?_
    refine getF F hK hP lf_X8_10 (0) (xp_0 cA ax s) rfl (dd D_X8_status 25 rfl) ?_
    refine getF F hK hP lf_X8_347 (1) (xp_1 cA ax s) rfl (dd D_X8_status 26 rfl) ?_
    exact ro_i (R := rmOf 2 0 0) F hr hlk (congrArg (Option.map Value.int) h) (dd D_X8_status 27 rfl)
  refine x_ts (tgt := 116) F.1 F.2.1 (8 : Int32) (dd D_X8_status 1 rfl) h (by decide) (by decide) rfl rfl (fun c1_8 h => ?_) (fun c1_8 h => ?_)
  · refine lv_aload_n F.1 F.2.1 (dd D_X8_status 28 rfl) rfl (lv_at hl 0 rfl) ?_
    refine getF F hK hP lf_X8_10 (0) (xp_0 cA ax s) rfl (dd D_X8_status 29 rfl) ?_
    refine getF F hK hP lf_X8_353 (1) (xp_1 cA ax s) rfl (dd D_X8_status 30 rfl) ?_
    exact ro_i (R := rmOf 2 0 0) F hr hlk (congrArg (Option.map Value.int) h) (dd D_X8_status 31 rfl)
  refine x_ts (tgt := 124) F.1 F.2.1 (9 : Int32) (dd D_X8_status 1 rfl) h (by decide) (by decide) rfl rfl (fun c1_9 h => ?_) (fun c1_9 h => ?_)
  · refine lv_aload_n F.1 F.2.1 (dd D_X8_status 32 rfl) rfl (lv_at hl 0 rfl) ?_
    refine getF F hK hP lf_X8_34 (0) (xp_0 cA ax s) rfl (dd D_X8_status 33 rfl) ?_
    refine ro_go (st' := [.int (F_X7_size s)]) (rV (rest := []) F (c_X7_size D cA ax s l) lk_X8_185 (Nat.le_of_ble_eq_true rfl) (preRO hK hS hAb hP) (rcv_7 hK hP (q0 := (41)) (xp_41 cA ax s)) rfl hl rfl (Nat.le_of_ble_eq_true rfl) (dd D_X8_status 34 rfl) ⟨Nat.le_of_ble_eq_true rfl, Nat.le_of_ble_eq_true rfl⟩) rfl ?_
    exact ro_i (R := rmOf 2 0 0) F hr hlk (congrArg (Option.map Value.int) h) (dd D_X8_status 35 rfl)
  refine x_ts (tgt := 132) F.1 F.2.1 (10 : Int32) (dd D_X8_status 1 rfl) h (by decide) (by decide) rfl rfl (fun c1_10 h => ?_) (fun c1_10 h => ?_)
  · refine lv_aload_n F.1 F.2.1 (dd D_X8_status 36 rfl) rfl (lv_at hl 0 rfl) ?_
    refine getF F hK hP lf_X8_10 (0) (xp_0 cA ax s) rfl (dd D_X8_status 37 rfl) ?_
    refine getF F hK hP lf_X8_356 (1) (xp_1 cA ax s) rfl (dd D_X8_status 38 rfl) ?_
    exact ro_i (R := rmOf 2 0 0) F hr hlk (congrArg (Option.map Value.int) h) (dd D_X8_status 39 rfl)
  refine x_ts (tgt := 140) F.1 F.2.1 (11 : Int32) (dd D_X8_status 1 rfl) h (by decide) (by decide) rfl rfl (fun c1_11 h => ?_) (fun c1_11 h => ?_)
  · refine lv_aload_n F.1 F.2.1 (dd D_X8_status 40 rfl) rfl (lv_at hl 0 rfl) ?_
    obtain ⟨r2, e3, h⟩ := Option.bind_eq_some_iff.mp h
    refine ro_go (st' := [.int r2]) (rV (rest := []) F (c_X8_shelvesInUse D cA ax s n r2 e3 l) lk_X8_363 (Nat.le_of_ble_eq_true rfl) (preRO hK hS hAb hP) (rcv_8 hK hP (q0 := (0)) (xp_0 cA ax s)) rfl hl rfl (Nat.le_of_ble_eq_true rfl) (dd D_X8_status 41 rfl) ⟨Nat.le_of_ble_eq_true rfl, Nat.le_of_ble_eq_true rfl⟩) rfl ?_
    exact ro_i (R := rmOf 2 0 0) F hr hlk (congrArg (Option.map Value.int) h) (dd D_X8_status 42 rfl)
  refine lv_tableOut (tgt := 145) F.1 F.2.1 (dd D_X8_status 1 rfl) (ts_out (lo := 0) (vs := [(0 : Int32), (1 : Int32), (2 : Int32), (3 : Int32), (4 : Int32), (5 : Int32), (6 : Int32), (7 : Int32), (8 : Int32), (9 : Int32), (10 : Int32), (11 : Int32)]) tsv_0_12 (by intro v hv; simp only [List.mem_cons, List.not_mem_nil, or_false] at hv; rcases hv with rfl | rfl | rfl | rfl | rfl | rfl | rfl | rfl | rfl | rfl | rfl | rfl <;> assumption)) rfl ?_
  refine lv_aload_n F.1 F.2.1 (dd D_X8_status 43 rfl) rfl (lv_at hl 0 rfl) ?_
  refine lv_iload_n F.1 F.2.1 (dd D_X8_status 44 rfl) rfl (lv_at hl 1 rfl) ?_
  refine lv_bipush (v := (12 : Int32)) F.1 F.2.1 (dd D_X8_status 45 rfl) kb_12 ?_
  refine lv_isub F.1 F.2.1 (dd D_X8_status 46 rfl) ?_
  obtain ⟨r4, e5, h⟩ := Option.bind_eq_some_iff.mp h
  refine ro_go (st' := [.int r4]) (rV (rest := []) F (c_X8_refusalsAt D cA ax s n (p1 - (12 : Int32)) r4 e5 l) lk_X8_366 (Nat.le_of_ble_eq_true rfl) (preRO hK hS hAb hP) (rcv_8 hK hP (q0 := (0)) (xp_0 cA ax s)) rfl hl rfl (Nat.le_of_ble_eq_true rfl) (dd D_X8_status 47 rfl) ⟨Nat.le_of_ble_eq_true rfl, Nat.le_of_ble_eq_true rfl⟩) rfl ?_
  exact ro_i (R := rmOf 2 0 0) F hr hlk (congrArg (Option.map Value.int) h) (dd D_X8_status 48 rfl)
