def F_X8_shelfAt (n : Nat) (s : XS) (p1 : Int32) : Option (Option Nat) := (if p1 < 0 then some (none) else (if (8 : Int32) ≤ p1 then some (none) else gd (inb p1 8) (some (some (Int32.toNatClampNeg p1)))))
set_option maxHeartbeats 4000000 in
set_option maxRecDepth 100000 in
theorem c_X8_shelfAt (D : va_G) (cA : Nat → ClassId) (ax : Nat → Nat) (s : XS) (n : Nat) (p1 : Int32) (r : (Option Nat)) (h : F_X8_shelfAt n s p1 = some r) : RO m_X8_shelfAt 0 D cA [.ref (ax 0), .int p1] (xW cA ax s) (some (va_rf (Option.map (fun j => ax (46+2*j)) r))) := by
  refine RO.ofW gy_X8_shelfAt.2.2 (Nat.le_of_ble_eq_true rfl) ?_
  intro l p e sM m below meth c F hr hlk hK hP hS hAb ls hl
  have hl : lv_has ls 2 [(0, .ref (ax 0)), (1, .int p1)] := hl
  unfold F_X8_shelfAt at h
  refine lv_iload_n F.1 F.2.1 (dd D_X8_shelfAt 0 rfl) rfl (lv_at hl 1 rfl) ?_
  refine x_if_lt (tgt := 22) F.1 F.2.1 (dd D_X8_shelfAt 1 rfl) rfl h (fun c1 h => ?_) (fun c1 h => ?_)
  · refine lv_null F.1 F.2.1 (dd D_X8_shelfAt 12 rfl) ?_
    exact ro_a (R := rmOf 0 0 0) F hr (Or.inl ⟨_, rfl⟩) (Or.inl rfl) hlk (congrArg (Option.map fun z => va_rf (Option.map (fun j => ax (46+2*j)) z)) h) (dd D_X8_shelfAt 13 rfl)
  · refine lv_iload_n F.1 F.2.1 (dd D_X8_shelfAt 2 rfl) rfl (lv_at hl 1 rfl) ?_
    refine lv_aload_n F.1 F.2.1 (dd D_X8_shelfAt 3 rfl) rfl (lv_at hl 0 rfl) ?_
    refine getF F hK hP lf_X8_47 (0) (xp_0 cA ax s) rfl (dd D_X8_shelfAt 4 rfl) ?_
    refine alen F hK hP (45) 3 (xp_45 cA ax s) rfl (v := (8 : Int32)) kn_8 (dd D_X8_shelfAt 5 rfl) ?_
    refine x_icmp_ge (tgt := 22) F.1 F.2.1 (dd D_X8_shelfAt 6 rfl) rfl h (fun c2 h => ?_) (fun c2 h => ?_)
    · refine lv_null F.1 F.2.1 (dd D_X8_shelfAt 12 rfl) ?_
      exact ro_a (R := rmOf 0 0 0) F hr (Or.inl ⟨_, rfl⟩) (Or.inl rfl) hlk (congrArg (Option.map fun z => va_rf (Option.map (fun j => ax (46+2*j)) z)) h) (dd D_X8_shelfAt 13 rfl)
    · refine lv_aload_n F.1 F.2.1 (dd D_X8_shelfAt 7 rfl) rfl (lv_at hl 0 rfl) ?_
      refine getF F hK hP lf_X8_47 (0) (xp_0 cA ax s) rfl (dd D_X8_shelfAt 8 rfl) ?_
      refine lv_iload_n F.1 F.2.1 (dd D_X8_shelfAt 9 rfl) rfl (lv_at hl 1 rfl) ?_
      refine aldS (g := fun j => ax (46+2*j)) F hK hP (45) (xp_45 cA ax s) 3 rfl (fun _ => rfl) h (dd D_X8_shelfAt 10 rfl) (fun z3 h => ?_)
      have hk4 : (Int32.toNatClampNeg p1) < 8 := inb_lt z3
      refine lv_goto (tgt := 23) F.1 F.2.1 (dd D_X8_shelfAt 11 rfl) rfl ?_
      exact ro_a (R := rmOf 0 0 0) F hr (Or.inl ⟨_, rfl⟩) (Or.inr ⟨_, rfl⟩) hlk (congrArg (Option.map fun z => va_rf (Option.map (fun j => ax (46+2*j)) z)) h) (dd D_X8_shelfAt 13 rfl)
def F_X8_refuse (n : Nat) (s : XS) (p1 : Int32) : Option (Int32 × XS) := (if ((-2 : Int32) - p1) < 0 then some (p1, s) else (if (5 : Int32) ≤ ((-2 : Int32) - p1) then some (p1, s) else gd (inb ((-2 : Int32) - p1) 5) (gd (inb ((-2 : Int32) - p1) 5) (some (p1, (x_set_ref s (upd (x_ref s) (Int32.toNatClampNeg ((-2 : Int32) - p1)) (((x_ref s) (Int32.toNatClampNeg ((-2 : Int32) - p1))) + (1 : Int32)))))))))
set_option maxHeartbeats 4000000 in
set_option maxRecDepth 100000 in
theorem c_X8_refuse (D : va_G) (cA : Nat → ClassId) (ax : Nat → Nat) (s : XS) (n : Nat) (p1 : Int32) (r : (Int32 × XS)) (h : F_X8_refuse n s p1 = some r) : RW m_X8_refuse 0 0 0 D cA [.ref (ax 0), .int p1] (xW cA ax s) (exq (some (.int r.1)) (xW cA ax r.2)) := by
  refine RW.ofW gy_X8_refuse.2.2 (Nat.le_of_ble_eq_true rfl) ?_
  intro l p e sM m below meth c A H locs F hr hlk hnm hK hP hD hS hA hAb ls hl
  have hl : lv_has ls 3 [(0, .ref (ax 0)), (1, .int p1)] := hl
  unfold F_X8_refuse at h
  refine lv_bipush (v := (-2 : Int32)) F.1 F.2.1 (dd D_X8_refuse 0 rfl) kb_m2 ?_
  refine lv_iload_n F.1 F.2.1 (dd D_X8_refuse 1 rfl) rfl (lv_at hl 1 rfl) ?_
  refine lv_isub F.1 F.2.1 (dd D_X8_refuse 2 rfl) ?_
  refine lv_istore_n (lv' := [(2, .int ((-2 : Int32) - p1)), (0, .ref (ax 0)), (1, .int p1)]) F.1 F.2.1 (dd D_X8_refuse 3 rfl) rfl hl (Nat.le_of_ble_eq_true rfl) rfl (fun ls hl => ?_)
  refine lv_iload_n F.1 F.2.1 (dd D_X8_refuse 4 rfl) rfl (lv_at hl 0 rfl) ?_
  refine x_if_lt (tgt := 28) F.1 F.2.1 (dd D_X8_refuse 5 rfl) rfl h (fun c1 h => ?_) (fun c1 h => ?_)
  · refine lv_iload_n F.1 F.2.1 (dd D_X8_refuse 19 rfl) rfl (lv_at hl 2 rfl) ?_
    obtain rfl := Option.some.inj h
    exact rw_i (R := rmOf 0 0 0) F hP hD hS hr hlk ⟨Nat.le_of_ble_eq_true rfl, Nat.le_of_ble_eq_true rfl⟩ ⟨rfl, rfl⟩ (dd D_X8_refuse 20 rfl)
  · refine lv_iload_n F.1 F.2.1 (dd D_X8_refuse 6 rfl) rfl (lv_at hl 0 rfl) ?_
    refine lv_aload_n F.1 F.2.1 (dd D_X8_refuse 7 rfl) rfl (lv_at hl 1 rfl) ?_
    refine getF F hK hP lf_X8_51 (0) (xp_0 cA ax s) rfl (dd D_X8_refuse 8 rfl) ?_
    refine alen F hK hP (62) 0 (xp_62 cA ax s) rfl (v := (5 : Int32)) kn_5 (dd D_X8_refuse 9 rfl) ?_
    refine x_icmp_ge (tgt := 28) F.1 F.2.1 (dd D_X8_refuse 10 rfl) rfl h (fun c2 h => ?_) (fun c2 h => ?_)
    · refine lv_iload_n F.1 F.2.1 (dd D_X8_refuse 19 rfl) rfl (lv_at hl 2 rfl) ?_
      obtain rfl := Option.some.inj h
      exact rw_i (R := rmOf 0 0 0) F hP hD hS hr hlk ⟨Nat.le_of_ble_eq_true rfl, Nat.le_of_ble_eq_true rfl⟩ ⟨rfl, rfl⟩ (dd D_X8_refuse 20 rfl)
    · refine lv_aload_n F.1 F.2.1 (dd D_X8_refuse 11 rfl) rfl (lv_at hl 1 rfl) ?_
      refine getF F hK hP lf_X8_51 (0) (xp_0 cA ax s) rfl (dd D_X8_refuse 12 rfl) ?_
      refine lv_iload_n F.1 F.2.1 (dd D_X8_refuse 13 rfl) rfl (lv_at hl 0 rfl) ?_
      refine lv_dup2_11 F.1 F.2.1 (dd D_X8_refuse 14 rfl) rfl rfl ?_
      refine aldI F hK hP (62) (xp_62 cA ax s) h (dd D_X8_refuse 15 rfl) (fun z3 h => ?_)
      refine lv_iconst (v := (1 : Int32)) F.1 F.2.1 (dd D_X8_refuse 16 rfl) ki_1 ?_
      refine lv_iadd F.1 F.2.1 (dd D_X8_refuse 17 rfl) ?_
      refine astI F hK hP hD hS (62) (xp_62 cA ax s) h (ws' := (xW cA ax (x_set_ref s (upd (x_ref s) (Int32.toNatClampNeg ((-2 : Int32) - p1)) (((x_ref s) (Int32.toNatClampNeg ((-2 : Int32) - p1))) + (1 : Int32)))))) (xs_62 cA ax s (upd (x_ref s) (Int32.toNatClampNeg ((-2 : Int32) - p1)) (((x_ref s) (Int32.toNatClampNeg ((-2 : Int32) - p1))) + (1 : Int32)))) (dd D_X8_refuse 18 rfl) (fun z4 h H locs hP hD hS => ?_)
      refine lv_iload_n F.1 F.2.1 (dd D_X8_refuse 19 rfl) rfl (lv_at hl 2 rfl) ?_
      obtain rfl := Option.some.inj h
      exact rw_i (R := rmOf 0 0 0) F hP hD hS hr hlk ⟨Nat.le_of_ble_eq_true rfl, Nat.le_of_ble_eq_true rfl⟩ ⟨rfl, rfl⟩ (dd D_X8_refuse 20 rfl)
def F_X8_row (n : Nat) (s : XS) (p1 : Int32) (p2 : Int32) (p3 : Int32) : Option (Int32 × XS) := (((F_X8_shelfAt n s p1)).bind fun r1 => oM r1 ((((F_X8_refuse n s (-2 : Int32))).bind fun r5 => some (r5.1, r5.2))) (fun k3 => gd (decide (k3 < 8)) (bf (F_X8_isIn p2 (0 : Int32) (4 : Int32)) (bf (F_X8_isIn p3 (0 : Int32) (40 : Int32)) ((((F_X5_putRow n (x_sh s k3) p2 p3)).bind fun r9 => some ((1 : Int32), (x_set_sh s (va_up (x_sh s) k3 r9))))) ((((F_X8_refuse n s (-2 : Int32))).bind fun r11 => some (r11.1, r11.2)))) ((((F_X8_refuse n s (-2 : Int32))).bind fun r7 => some (r7.1, r7.2))))))
set_option maxHeartbeats 4000000 in
set_option maxRecDepth 100000 in
theorem c_X8_row (D : va_G) (cA : Nat → ClassId) (ax : Nat → Nat) (s : XS) (n : Nat) (p1 : Int32) (p2 : Int32) (p3 : Int32) (r : (Int32 × XS)) (h : F_X8_row n s p1 p2 p3 = some r) : RW m_X8_row 2 0 0 D cA [.ref (ax 0), .int p1, .int p2, .int p3] (xW cA ax s) (exq (some (.int r.1)) (xW cA ax r.2)) := by
  refine RW.ofW gy_X8_row.2.2 (Nat.le_of_ble_eq_true rfl) ?_
  intro l p e sM m below meth c A H locs F hr hlk hnm hK hP hD hS hA hAb ls hl
  have hl : lv_has ls 5 [(0, .ref (ax 0)), (1, .int p1), (2, .int p2), (3, .int p3)] := hl
  unfold F_X8_row at h
  refine lv_aload_n F.1 F.2.1 (dd D_X8_row 0 rfl) rfl (lv_at hl 0 rfl) ?_
  refine lv_iload_n F.1 F.2.1 (dd D_X8_row 1 rfl) rfl (lv_at hl 1 rfl) ?_
  obtain ⟨r1, e2, h⟩ := Option.bind_eq_some_iff.mp h
  refine ro_go (st' := [va_rf (Option.map (fun j => ax (46+2*j)) r1)]) (rV (rest := []) F (c_X8_shelfAt D cA ax s n p1 r1 e2 l) lk_X8_56 (Nat.le_of_ble_eq_true rfl) (preRO hK hS hAb hP) (rcv_8 hK hP (q0 := (0)) (xp_0 cA ax s)) rfl hl rfl (Nat.le_of_ble_eq_true rfl) (dd D_X8_row 2 rfl) ⟨Nat.le_of_ble_eq_true rfl, Nat.le_of_ble_eq_true rfl⟩) rfl ?_
  cases r1 with
  | none =>
    dsimp only [oM] at h
    refine lv_astoreN (lv' := [(4, .null), (0, .ref (ax 0)), (1, .int p1), (2, .int p2), (3, .int p3)]) F.1 F.2.1 (dd D_X8_row 3 rfl) hl (Nat.le_of_ble_eq_true rfl) rfl (fun ls hl => ?_)
    refine lv_aloadN F.1 F.2.1 (dd D_X8_row 4 rfl) (lv_at hl 0 rfl) ?_
    refine lv_ifnullN (tgt := 31) F.1 F.2.1 (dd D_X8_row 5 rfl) rfl ?_
    refine lv_aload_n F.1 F.2.1 (dd D_X8_row 16 rfl) rfl (lv_at hl 1 rfl) ?_
    refine lv_bipush (v := (-2 : Int32)) F.1 F.2.1 (dd D_X8_row 17 rfl) kb_m2 ?_
    obtain ⟨r5, e6, h⟩ := Option.bind_eq_some_iff.mp h
    refine rwe_all (st' := [.int r5.1]) hD hS hA (rV (rest := []) F (c_X8_refuse D cA ax s n (-2 : Int32) r5 e6 l H.size) lk_X8_64 (Nat.le_of_ble_eq_true rfl) (preRW hK hS hAb hP hD) (rcv_8 hK hP (q0 := (0)) (xp_0 cA ax s)) rfl hl rfl (Nat.le_of_ble_eq_true rfl) (dd D_X8_row 18 rfl) ⟨Nat.le_of_ble_eq_true rfl, Nat.le_of_ble_eq_true rfl⟩) rfl (fun H locs hP hD hS => ?_)
    obtain rfl := Option.some.inj h
    exact rw_i (R := rmOf 2 0 0) F hP hD hS hr hlk ⟨Nat.le_of_ble_eq_true rfl, Nat.le_of_ble_eq_true rfl⟩ ⟨rfl, rfl⟩ (dd D_X8_row 19 rfl)
  | some k3 =>
    dsimp only [oM] at h
    obtain ⟨hk4, h⟩ := gd_some (b := decide (k3 < 8)) h
    have hk4 := of_decide_eq_true hk4
    refine lv_astore (lv' := [(4, .ref (ax (46+2*k3))), (0, .ref (ax 0)), (1, .int p1), (2, .int p2), (3, .int p3)]) F.1 F.2.1 (dd D_X8_row 3 rfl) hl (Nat.le_of_ble_eq_true rfl) rfl (fun ls hl => ?_)
    refine lv_aload F.1 F.2.1 (dd D_X8_row 4 rfl) (lv_at hl 0 rfl) ?_
    refine lv_ifnull F.1 F.2.1 (dd D_X8_row 5 rfl) ?_
    refine lv_iload_n F.1 F.2.1 (dd D_X8_row 6 rfl) rfl (lv_at hl 3 rfl) ?_
    refine lv_iconst (v := (0 : Int32)) F.1 F.2.1 (dd D_X8_row 7 rfl) ki_0 ?_
    refine lv_iconst (v := (4 : Int32)) F.1 F.2.1 (dd D_X8_row 8 rfl) ki_4 ?_
    refine ro_go (st' := [.int (bI (F_X8_isIn p2 (0 : Int32) (4 : Int32)))]) (rS (rest := []) F (c_X8_isIn D cA p2 (0 : Int32) (4 : Int32) l) lk_X8_60 (Nat.le_of_ble_eq_true rfl) (preRO hK hS hAb (emP)) rfl hl rfl (Nat.le_of_ble_eq_true rfl) (dd D_X8_row 9 rfl) ⟨Nat.le_of_ble_eq_true rfl, Nat.le_of_ble_eq_true rfl⟩) rfl ?_
    refine x_bif_eq (tgt := 31) F.1 F.2.1 (dd D_X8_row 10 rfl) rfl h (fun c14 h => ?_) (fun c14 h => ?_)
    · refine lv_aload_n F.1 F.2.1 (dd D_X8_row 16 rfl) rfl (lv_at hl 1 rfl) ?_
      refine lv_bipush (v := (-2 : Int32)) F.1 F.2.1 (dd D_X8_row 17 rfl) kb_m2 ?_
      obtain ⟨r7, e8, h⟩ := Option.bind_eq_some_iff.mp h
      refine rwe_all (st' := [.int r7.1]) hD hS hA (rV (rest := []) F (c_X8_refuse D cA ax s n (-2 : Int32) r7 e8 l H.size) lk_X8_64 (Nat.le_of_ble_eq_true rfl) (preRW hK hS hAb hP hD) (rcv_8 hK hP (q0 := (0)) (xp_0 cA ax s)) rfl hl rfl (Nat.le_of_ble_eq_true rfl) (dd D_X8_row 18 rfl) ⟨Nat.le_of_ble_eq_true rfl, Nat.le_of_ble_eq_true rfl⟩) rfl (fun H locs hP hD hS => ?_)
      obtain rfl := Option.some.inj h
      exact rw_i (R := rmOf 2 0 0) F hP hD hS hr hlk ⟨Nat.le_of_ble_eq_true rfl, Nat.le_of_ble_eq_true rfl⟩ ⟨rfl, rfl⟩ (dd D_X8_row 19 rfl)
    · refine lv_iload_n F.1 F.2.1 (dd D_X8_row 11 rfl) rfl (lv_at hl 4 rfl) ?_
      refine lv_iconst (v := (0 : Int32)) F.1 F.2.1 (dd D_X8_row 12 rfl) ki_0 ?_
      refine lv_bipush (v := (40 : Int32)) F.1 F.2.1 (dd D_X8_row 13 rfl) kb_40 ?_
      refine ro_go (st' := [.int (bI (F_X8_isIn p3 (0 : Int32) (40 : Int32)))]) (rS (rest := []) F (c_X8_isIn D cA p3 (0 : Int32) (40 : Int32) l) lk_X8_60 (Nat.le_of_ble_eq_true rfl) (preRO hK hS hAb (emP)) rfl hl rfl (Nat.le_of_ble_eq_true rfl) (dd D_X8_row 14 rfl) ⟨Nat.le_of_ble_eq_true rfl, Nat.le_of_ble_eq_true rfl⟩) rfl ?_
      refine x_bif_ne (tgt := 38) F.1 F.2.1 (dd D_X8_row 15 rfl) rfl h (fun c13 h => ?_) (fun c13 h => ?_)
      · refine lv_aload F.1 F.2.1 (dd D_X8_row 20 rfl) (lv_at hl 0 rfl) ?_
        refine lv_iload_n F.1 F.2.1 (dd D_X8_row 21 rfl) rfl (lv_at hl 3 rfl) ?_
        refine lv_iload_n F.1 F.2.1 (dd D_X8_row 22 rfl) rfl (lv_at hl 4 rfl) ?_
        obtain ⟨r9, e10, h⟩ := Option.bind_eq_some_iff.mp h
        refine rwe (V := none) (wc := (shelfW cA (fun i => ax (46+2*k3+i)) (x_sh s k3))) (wc' := (shelfW cA (fun i => ax (46+2*k3+i)) r9)) (st' := []) (W' := (xW cA ax (x_set_sh s (va_up (x_sh s) k3 r9)))) hP hD hS hA [46+2*k3, 46+2*k3+1] (jc_sh cA ax s k3 hk4) (nd_sh k3) rfl (rV (rest := []) F (c_X5_putRow D cA (fun i => ax (46+2*k3+i)) (x_sh s k3) n p2 p3 r9 e10 l H.size) lk_X8_68 (Nat.le_of_ble_eq_true rfl) (preRW hK hS hAb (selP (is := [46+2*k3, 46+2*k3+1]) hP (jc_sh cA ax s k3 hk4)) (selD (is := [46+2*k3, 46+2*k3+1]) hD (nd_sh k3) (jc_sh cA ax s k3 hk4))) (rcv_5 hK hP (q0 := (46+2*k3)) (xp_sh cA ax s k3 hk4)) rfl hl rfl (Nat.le_of_ble_eq_true rfl) (dd D_X8_row 23 rfl) ⟨Nat.le_of_ble_eq_true rfl, Nat.le_of_ble_eq_true rfl⟩) (js_sh cA ax s r9 k3 hk4) rfl (fun H locs hP hD hS => ?_)
        refine lv_iconst (v := (1 : Int32)) F.1 F.2.1 (dd D_X8_row 24 rfl) ki_1 ?_
        obtain rfl := Option.some.inj h
        exact rw_i (R := rmOf 2 0 0) F hP hD hS hr hlk ⟨Nat.le_of_ble_eq_true rfl, Nat.le_of_ble_eq_true rfl⟩ ⟨rfl, rfl⟩ (dd D_X8_row 25 rfl)
      · refine lv_aload_n F.1 F.2.1 (dd D_X8_row 16 rfl) rfl (lv_at hl 1 rfl) ?_
        refine lv_bipush (v := (-2 : Int32)) F.1 F.2.1 (dd D_X8_row 17 rfl) kb_m2 ?_
        obtain ⟨r11, e12, h⟩ := Option.bind_eq_some_iff.mp h
        refine rwe_all (st' := [.int r11.1]) hD hS hA (rV (rest := []) F (c_X8_refuse D cA ax s n (-2 : Int32) r11 e12 l H.size) lk_X8_64 (Nat.le_of_ble_eq_true rfl) (preRW hK hS hAb hP hD) (rcv_8 hK hP (q0 := (0)) (xp_0 cA ax s)) rfl hl rfl (Nat.le_of_ble_eq_true rfl) (dd D_X8_row 18 rfl) ⟨Nat.le_of_ble_eq_true rfl, Nat.le_of_ble_eq_true rfl⟩) rfl (fun H locs hP hD hS => ?_)
        obtain rfl := Option.some.inj h
        exact rw_i (R := rmOf 2 0 0) F hP hD hS hr hlk ⟨Nat.le_of_ble_eq_true rfl, Nat.le_of_ble_eq_true rfl⟩ ⟨rfl, rfl⟩ (dd D_X8_row 19 rfl)
def F_X8_set (n : Nat) (s : XS) (p1 : Int32) (p2 : Int32) (p3 : Int64) : Option (Int32 × XS) := (((F_X8_shelfAt n s p1)).bind fun r1 => oM r1 ((((F_X8_refuse n s (-2 : Int32))).bind fun r5 => some (r5.1, r5.2))) (fun k3 => gd (decide (k3 < 8)) ((if (F_X5_refusalAsRow (x_sh s k3) (0 : Int32)) = 0 then bf (F_X5_hasPlaces (x_sh s k3) p2 (1 : Int32)) ((((F_X5_put n (x_sh s k3) p2 p3)).bind fun r8 => some ((1 : Int32), (x_set_sh s (va_up (x_sh s) k3 r8))))) ((((F_X8_refuse n s (-2 : Int32))).bind fun r10 => some (r10.1, r10.2))) else (((F_X8_refuse n s (F_X5_refusalAsRow (x_sh s k3) (0 : Int32)))).bind fun r13 => some (r13.1, r13.2))))))
set_option maxHeartbeats 4000000 in
set_option maxRecDepth 100000 in
theorem c_X8_set (D : va_G) (cA : Nat → ClassId) (ax : Nat → Nat) (s : XS) (n : Nat) (p1 : Int32) (p2 : Int32) (p3 : Int64) (r : (Int32 × XS)) (h : F_X8_set n s p1 p2 p3 = some r) : RW m_X8_set 2 0 0 D cA [.ref (ax 0), .int p1, .int p2, .long p3] (xW cA ax s) (exq (some (.int r.1)) (xW cA ax r.2)) := by
  refine RW.ofW gy_X8_set.2.2 (Nat.le_of_ble_eq_true rfl) ?_
  intro l p e sM m below meth c A H locs F hr hlk hnm hK hP hD hS hA hAb ls hl
  have hl : lv_has ls 7 [(0, .ref (ax 0)), (1, .int p1), (2, .int p2), (3, .long p3)] := hl
  unfold F_X8_set at h
  refine lv_aload_n F.1 F.2.1 (dd D_X8_set 0 rfl) rfl (lv_at hl 0 rfl) ?_
  refine lv_iload_n F.1 F.2.1 (dd D_X8_set 1 rfl) rfl (lv_at hl 1 rfl) ?_
  obtain ⟨r1, e2, h⟩ := Option.bind_eq_some_iff.mp h
  refine ro_go (st' := [va_rf (Option.map (fun j => ax (46+2*j)) r1)]) (rV (rest := []) F (c_X8_shelfAt D cA ax s n p1 r1 e2 l) lk_X8_56 (Nat.le_of_ble_eq_true rfl) (preRO hK hS hAb hP) (rcv_8 hK hP (q0 := (0)) (xp_0 cA ax s)) rfl hl rfl (Nat.le_of_ble_eq_true rfl) (dd D_X8_set 2 rfl) ⟨Nat.le_of_ble_eq_true rfl, Nat.le_of_ble_eq_true rfl⟩) rfl ?_
  cases r1 with
  | none =>
    dsimp only [oM] at h
    refine lv_astoreN (lv' := [(5, .null), (0, .ref (ax 0)), (1, .int p1), (2, .int p2), (3, .long p3)]) F.1 F.2.1 (dd D_X8_set 3 rfl) hl (Nat.le_of_ble_eq_true rfl) rfl (fun ls hl => ?_)
    refine lv_aloadN F.1 F.2.1 (dd D_X8_set 4 rfl) (lv_at hl 0 rfl) ?_
    refine lv_ifnonnullN F.1 F.2.1 (dd D_X8_set 5 rfl) ?_
    refine lv_aload_n F.1 F.2.1 (dd D_X8_set 6 rfl) rfl (lv_at hl 1 rfl) ?_
    refine lv_bipush (v := (-2 : Int32)) F.1 F.2.1 (dd D_X8_set 7 rfl) kb_m2 ?_
    obtain ⟨r5, e6, h⟩ := Option.bind_eq_some_iff.mp h
    refine rwe_all (st' := [.int r5.1]) hD hS hA (rV (rest := []) F (c_X8_refuse D cA ax s n (-2 : Int32) r5 e6 l H.size) lk_X8_64 (Nat.le_of_ble_eq_true rfl) (preRW hK hS hAb hP hD) (rcv_8 hK hP (q0 := (0)) (xp_0 cA ax s)) rfl hl rfl (Nat.le_of_ble_eq_true rfl) (dd D_X8_set 8 rfl) ⟨Nat.le_of_ble_eq_true rfl, Nat.le_of_ble_eq_true rfl⟩) rfl (fun H locs hP hD hS => ?_)
    obtain rfl := Option.some.inj h
    exact rw_i (R := rmOf 2 0 0) F hP hD hS hr hlk ⟨Nat.le_of_ble_eq_true rfl, Nat.le_of_ble_eq_true rfl⟩ ⟨rfl, rfl⟩ (dd D_X8_set 9 rfl)
  | some k3 =>
    dsimp only [oM] at h
    obtain ⟨hk4, h⟩ := gd_some (b := decide (k3 < 8)) h
    have hk4 := of_decide_eq_true hk4
    refine lv_astore (lv' := [(5, .ref (ax (46+2*k3))), (0, .ref (ax 0)), (1, .int p1), (2, .int p2), (3, .long p3)]) F.1 F.2.1 (dd D_X8_set 3 rfl) hl (Nat.le_of_ble_eq_true rfl) rfl (fun ls hl => ?_)
    refine lv_aload F.1 F.2.1 (dd D_X8_set 4 rfl) (lv_at hl 0 rfl) ?_
    refine lv_ifnonnull (tgt := 19) F.1 F.2.1 (dd D_X8_set 5 rfl) rfl ?_
    refine lv_aload F.1 F.2.1 (dd D_X8_set 10 rfl) (lv_at hl 0 rfl) ?_
    refine lv_iconst (v := (0 : Int32)) F.1 F.2.1 (dd D_X8_set 11 rfl) ki_0 ?_
    refine ro_go (st' := [.int (F_X5_refusalAsRow (x_sh s k3) (0 : Int32))]) (rV (rest := []) F (c_X5_refusalAsRow D cA (fun i => ax (46+2*k3+i)) (x_sh s k3) (0 : Int32) l) lk_X8_72 (Nat.le_of_ble_eq_true rfl) (preRO hK hS hAb (pg_sh hk4 hP)) (rcv_5 hK hP (q0 := (46+2*k3)) (xp_sh cA ax s k3 hk4)) rfl hl rfl (Nat.le_of_ble_eq_true rfl) (dd D_X8_set 12 rfl) ⟨Nat.le_of_ble_eq_true rfl, Nat.le_of_ble_eq_true rfl⟩) rfl ?_
    refine lv_istore (lv' := [(6, .int (F_X5_refusalAsRow (x_sh s k3) (0 : Int32))), (5, .ref (ax (46+2*k3))), (0, .ref (ax 0)), (1, .int p1), (2, .int p2), (3, .long p3)]) F.1 F.2.1 (dd D_X8_set 13 rfl) hl (Nat.le_of_ble_eq_true rfl) rfl (fun ls hl => ?_)
    refine lv_iload F.1 F.2.1 (dd D_X8_set 14 rfl) (lv_at hl 0 rfl) ?_
    refine x_if_eq (tgt := 39) F.1 F.2.1 (dd D_X8_set 15 rfl) rfl h (fun c7 h => ?_) (fun c7 h => ?_)
    · refine lv_aload F.1 F.2.1 (dd D_X8_set 20 rfl) (lv_at hl 1 rfl) ?_
      refine lv_iload_n F.1 F.2.1 (dd D_X8_set 21 rfl) rfl (lv_at hl 4 rfl) ?_
      refine lv_iconst (v := (1 : Int32)) F.1 F.2.1 (dd D_X8_set 22 rfl) ki_1 ?_
      refine ro_go (st' := [.int (bI (F_X5_hasPlaces (x_sh s k3) p2 (1 : Int32)))]) (rV (rest := []) F (c_X5_hasPlaces D cA (fun i => ax (46+2*k3+i)) (x_sh s k3) p2 (1 : Int32) l) lk_X8_75 (Nat.le_of_ble_eq_true rfl) (preRO hK hS hAb (pg_sh hk4 hP)) (rcv_5 hK hP (q0 := (46+2*k3)) (xp_sh cA ax s k3 hk4)) rfl hl rfl (Nat.le_of_ble_eq_true rfl) (dd D_X8_set 23 rfl) ⟨Nat.le_of_ble_eq_true rfl, Nat.le_of_ble_eq_true rfl⟩) rfl ?_
      refine x_bif_ne (tgt := 56) F.1 F.2.1 (dd D_X8_set 24 rfl) rfl h (fun c12 h => ?_) (fun c12 h => ?_)
      · refine lv_aload F.1 F.2.1 (dd D_X8_set 29 rfl) (lv_at hl 1 rfl) ?_
        refine lv_iload_n F.1 F.2.1 (dd D_X8_set 30 rfl) rfl (lv_at hl 4 rfl) ?_
        refine lv_lload_n F.1 F.2.1 (dd D_X8_set 31 rfl) rfl (lv_at hl 5 rfl) ?_
        obtain ⟨r8, e9, h⟩ := Option.bind_eq_some_iff.mp h
        refine rwe (V := none) (wc := (shelfW cA (fun i => ax (46+2*k3+i)) (x_sh s k3))) (wc' := (shelfW cA (fun i => ax (46+2*k3+i)) r8)) (st' := []) (W' := (xW cA ax (x_set_sh s (va_up (x_sh s) k3 r8)))) hP hD hS hA [46+2*k3, 46+2*k3+1] (jc_sh cA ax s k3 hk4) (nd_sh k3) rfl (rV (rest := []) F (c_X5_put D cA (fun i => ax (46+2*k3+i)) (x_sh s k3) n p2 p3 r8 e9 l H.size) lk_X8_79 (Nat.le_of_ble_eq_true rfl) (preRW hK hS hAb (selP (is := [46+2*k3, 46+2*k3+1]) hP (jc_sh cA ax s k3 hk4)) (selD (is := [46+2*k3, 46+2*k3+1]) hD (nd_sh k3) (jc_sh cA ax s k3 hk4))) (rcv_5 hK hP (q0 := (46+2*k3)) (xp_sh cA ax s k3 hk4)) rfl hl rfl (Nat.le_of_ble_eq_true rfl) (dd D_X8_set 32 rfl) ⟨Nat.le_of_ble_eq_true rfl, Nat.le_of_ble_eq_true rfl⟩) (js_sh cA ax s r8 k3 hk4) rfl (fun H locs hP hD hS => ?_)
        refine lv_iconst (v := (1 : Int32)) F.1 F.2.1 (dd D_X8_set 33 rfl) ki_1 ?_
        obtain rfl := Option.some.inj h
        exact rw_i (R := rmOf 2 0 0) F hP hD hS hr hlk ⟨Nat.le_of_ble_eq_true rfl, Nat.le_of_ble_eq_true rfl⟩ ⟨rfl, rfl⟩ (dd D_X8_set 34 rfl)
      · refine lv_aload_n F.1 F.2.1 (dd D_X8_set 25 rfl) rfl (lv_at hl 2 rfl) ?_
        refine lv_bipush (v := (-2 : Int32)) F.1 F.2.1 (dd D_X8_set 26 rfl) kb_m2 ?_
        obtain ⟨r10, e11, h⟩ := Option.bind_eq_some_iff.mp h
        refine rwe_all (st' := [.int r10.1]) hD hS hA (rV (rest := []) F (c_X8_refuse D cA ax s n (-2 : Int32) r10 e11 l H.size) lk_X8_64 (Nat.le_of_ble_eq_true rfl) (preRW hK hS hAb hP hD) (rcv_8 hK hP (q0 := (0)) (xp_0 cA ax s)) rfl hl rfl (Nat.le_of_ble_eq_true rfl) (dd D_X8_set 27 rfl) ⟨Nat.le_of_ble_eq_true rfl, Nat.le_of_ble_eq_true rfl⟩) rfl (fun H locs hP hD hS => ?_)
        obtain rfl := Option.some.inj h
        exact rw_i (R := rmOf 2 0 0) F hP hD hS hr hlk ⟨Nat.le_of_ble_eq_true rfl, Nat.le_of_ble_eq_true rfl⟩ ⟨rfl, rfl⟩ (dd D_X8_set 28 rfl)
    · refine lv_aload_n F.1 F.2.1 (dd D_X8_set 16 rfl) rfl (lv_at hl 2 rfl) ?_
      refine lv_iload F.1 F.2.1 (dd D_X8_set 17 rfl) (lv_at hl 0 rfl) ?_
      obtain ⟨r13, e14, h⟩ := Option.bind_eq_some_iff.mp h
      refine rwe_all (st' := [.int r13.1]) hD hS hA (rV (rest := []) F (c_X8_refuse D cA ax s n (F_X5_refusalAsRow (x_sh s k3) (0 : Int32)) r13 e14 l H.size) lk_X8_64 (Nat.le_of_ble_eq_true rfl) (preRW hK hS hAb hP hD) (rcv_8 hK hP (q0 := (0)) (xp_0 cA ax s)) rfl hl rfl (Nat.le_of_ble_eq_true rfl) (dd D_X8_set 18 rfl) ⟨Nat.le_of_ble_eq_true rfl, Nat.le_of_ble_eq_true rfl⟩) rfl (fun H locs hP hD hS => ?_)
      obtain rfl := Option.some.inj h
      exact rw_i (R := rmOf 2 0 0) F hP hD hS hr hlk ⟨Nat.le_of_ble_eq_true rfl, Nat.le_of_ble_eq_true rfl⟩ ⟨rfl, rfl⟩ (dd D_X8_set 19 rfl)
def F_X8_copy (n : Nat) (s : XS) (p1 : Int32) (p2 : Int32) (p3 : Int32) (p4 : Int32) (p5 : Int32) : Option (Int32 × XS) := (((F_X8_shelfAt n s p1)).bind fun r1 => oM r1 ((((F_X8_shelfAt n s p2)).bind fun r5 => oM r5 ((((F_X8_refuse n s (-2 : Int32))).bind fun r9 => some (r9.1, r9.2))) (fun k7 => gd (decide (k7 < 8)) ((((F_X8_refuse n s (-2 : Int32))).bind fun r11 => some (r11.1, r11.2)))))) (fun k3 => gd (decide (k3 < 8)) ((((F_X8_shelfAt n s p2)).bind fun r13 => oM r13 ((((F_X8_refuse n s (-2 : Int32))).bind fun r17 => some (r17.1, r17.2))) (fun k15 => gd (decide (k15 < 8)) (bf (F_X5_isEvening (x_sh s k3)) ((((F_X8_refuse n s (-3 : Int32))).bind fun r19 => some (r19.1, r19.2))) (bf (F_X5_isEvening (x_sh s k15)) ((((F_X8_refuse n s (-3 : Int32))).bind fun r21 => some (r21.1, r21.2))) (bf (F_X5_isRowOfOtherSort (x_sh s k3) (x_sh s k15)) ((((F_X8_refuse n s (-3 : Int32))).bind fun r40 => some (r40.1, r40.2))) (bf (F_X5_isBare (x_sh s k3)) ((((F_X8_refuse n s (-4 : Int32))).bind fun r23 => some (r23.1, r23.2))) (bf (F_X5_isBare (x_sh s k15)) ((((F_X8_refuse n s (-4 : Int32))).bind fun r36 => some (r36.1, r36.2))) (bf (F_X5_hasPlaces (x_sh s k3) p3 p5) (bf (F_X5_hasPlaces (x_sh s k15) p4 p5) ((if k15 = k3 then (((F_X5_take_same n (x_sh s k15) p3 p4 p5)).bind fun r28 => some (p5, (x_set_sh s (va_up (x_sh s) k15 r28)))) else (((F_X5_take n (x_sh s k15) (x_sh s k3) p3 p4 p5)).bind fun r30 => some (p5, (x_set_sh s (va_up (x_sh s) k15 r30)))))) ((((F_X8_refuse n s (-2 : Int32))).bind fun r32 => some (r32.1, r32.2)))) ((((F_X8_refuse n s (-2 : Int32))).bind fun r25 => some (r25.1, r25.2))))))))))))))
set_option maxHeartbeats 4000000 in
set_option maxRecDepth 100000 in
theorem c_X8_copy (D : va_G) (cA : Nat → ClassId) (ax : Nat → Nat) (s : XS) (n : Nat) (p1 : Int32) (p2 : Int32) (p3 : Int32) (p4 : Int32) (p5 : Int32) (r : (Int32 × XS)) (h : F_X8_copy n s p1 p2 p3 p4 p5 = some r) : RW m_X8_copy 2 0 0 D cA [.ref (ax 0), .int p1, .int p2, .int p3, .int p4, .int p5] (xW cA ax s) (exq (some (.int r.1)) (xW cA ax r.2)) := by
  refine RW.ofW gy_X8_copy.2.2 (Nat.le_of_ble_eq_true rfl) ?_
  intro l p e sM m below meth c A H locs F hr hlk hnm hK hP hD hS hA hAb ls hl
  have hl : lv_has ls 8 [(0, .ref (ax 0)), (1, .int p1), (2, .int p2), (3, .int p3), (4, .int p4), (5, .int p5)] := hl
  unfold F_X8_copy at h
  refine lv_aload_n F.1 F.2.1 (dd D_X8_copy 0 rfl) rfl (lv_at hl 0 rfl) ?_
  refine lv_iload_n F.1 F.2.1 (dd D_X8_copy 1 rfl) rfl (lv_at hl 1 rfl) ?_
  obtain ⟨r1, e2, h⟩ := Option.bind_eq_some_iff.mp h
  refine ro_go (st' := [va_rf (Option.map (fun j => ax (46+2*j)) r1)]) (rV (rest := []) F (c_X8_shelfAt D cA ax s n p1 r1 e2 l) lk_X8_56 (Nat.le_of_ble_eq_true rfl) (preRO hK hS hAb hP) (rcv_8 hK hP (q0 := (0)) (xp_0 cA ax s)) rfl hl rfl (Nat.le_of_ble_eq_true rfl) (dd D_X8_copy 2 rfl) ⟨Nat.le_of_ble_eq_true rfl, Nat.le_of_ble_eq_true rfl⟩) rfl ?_
  cases r1 with
  | none =>
    dsimp only [oM] at h
    refine lv_astoreN (lv' := [(6, .null), (0, .ref (ax 0)), (1, .int p1), (2, .int p2), (3, .int p3), (4, .int p4), (5, .int p5)]) F.1 F.2.1 (dd D_X8_copy 3 rfl) hl (Nat.le_of_ble_eq_true rfl) rfl (fun ls hl => ?_)
    refine lv_aload_n F.1 F.2.1 (dd D_X8_copy 4 rfl) rfl (lv_at hl 1 rfl) ?_
    refine lv_iload_n F.1 F.2.1 (dd D_X8_copy 5 rfl) rfl (lv_at hl 3 rfl) ?_
    obtain ⟨r5, e6, h⟩ := Option.bind_eq_some_iff.mp h
    refine ro_go (st' := [va_rf (Option.map (fun j => ax (46+2*j)) r5)]) (rV (rest := []) F (c_X8_shelfAt D cA ax s n p2 r5 e6 l) lk_X8_56 (Nat.le_of_ble_eq_true rfl) (preRO hK hS hAb hP) (rcv_8 hK hP (q0 := (0)) (xp_0 cA ax s)) rfl hl rfl (Nat.le_of_ble_eq_true rfl) (dd D_X8_copy 6 rfl) ⟨Nat.le_of_ble_eq_true rfl, Nat.le_of_ble_eq_true rfl⟩) rfl ?_
    cases r5 with
    | none =>
      dsimp only [oM] at h
      refine lv_astoreN (lv' := [(7, .null), (6, .null), (0, .ref (ax 0)), (1, .int p1), (2, .int p2), (3, .int p3), (4, .int p4), (5, .int p5)]) F.1 F.2.1 (dd D_X8_copy 7 rfl) hl (Nat.le_of_ble_eq_true rfl) rfl (fun ls hl => ?_)
      refine lv_aloadN F.1 F.2.1 (dd D_X8_copy 8 rfl) (lv_at hl 1 rfl) ?_
      refine lv_ifnullN (tgt := 24) F.1 F.2.1 (dd D_X8_copy 9 rfl) rfl ?_
      refine lv_aload_n F.1 F.2.1 (dd D_X8_copy 12 rfl) rfl (lv_at hl 2 rfl) ?_
      refine lv_bipush (v := (-2 : Int32)) F.1 F.2.1 (dd D_X8_copy 13 rfl) kb_m2 ?_
      obtain ⟨r9, e10, h⟩ := Option.bind_eq_some_iff.mp h
      refine rwe_all (st' := [.int r9.1]) hD hS hA (rV (rest := []) F (c_X8_refuse D cA ax s n (-2 : Int32) r9 e10 l H.size) lk_X8_64 (Nat.le_of_ble_eq_true rfl) (preRW hK hS hAb hP hD) (rcv_8 hK hP (q0 := (0)) (xp_0 cA ax s)) rfl hl rfl (Nat.le_of_ble_eq_true rfl) (dd D_X8_copy 14 rfl) ⟨Nat.le_of_ble_eq_true rfl, Nat.le_of_ble_eq_true rfl⟩) rfl (fun H locs hP hD hS => ?_)
      obtain rfl := Option.some.inj h
      exact rw_i (R := rmOf 2 0 0) F hP hD hS hr hlk ⟨Nat.le_of_ble_eq_true rfl, Nat.le_of_ble_eq_true rfl⟩ ⟨rfl, rfl⟩ (dd D_X8_copy 15 rfl)
    | some k7 =>
      dsimp only [oM] at h
      obtain ⟨hk8, h⟩ := gd_some (b := decide (k7 < 8)) h
      have hk8 := of_decide_eq_true hk8
      refine lv_astore (lv' := [(7, .ref (ax (46+2*k7))), (6, .null), (0, .ref (ax 0)), (1, .int p1), (2, .int p2), (3, .int p3), (4, .int p4), (5, .int p5)]) F.1 F.2.1 (dd D_X8_copy 7 rfl) hl (Nat.le_of_ble_eq_true rfl) rfl (fun ls hl => ?_)
      refine lv_aloadN F.1 F.2.1 (dd D_X8_copy 8 rfl) (lv_at hl 1 rfl) ?_
      refine lv_ifnullN (tgt := 24) F.1 F.2.1 (dd D_X8_copy 9 rfl) rfl ?_
      refine lv_aload_n F.1 F.2.1 (dd D_X8_copy 12 rfl) rfl (lv_at hl 2 rfl) ?_
      refine lv_bipush (v := (-2 : Int32)) F.1 F.2.1 (dd D_X8_copy 13 rfl) kb_m2 ?_
      obtain ⟨r11, e12, h⟩ := Option.bind_eq_some_iff.mp h
      refine rwe_all (st' := [.int r11.1]) hD hS hA (rV (rest := []) F (c_X8_refuse D cA ax s n (-2 : Int32) r11 e12 l H.size) lk_X8_64 (Nat.le_of_ble_eq_true rfl) (preRW hK hS hAb hP hD) (rcv_8 hK hP (q0 := (0)) (xp_0 cA ax s)) rfl hl rfl (Nat.le_of_ble_eq_true rfl) (dd D_X8_copy 14 rfl) ⟨Nat.le_of_ble_eq_true rfl, Nat.le_of_ble_eq_true rfl⟩) rfl (fun H locs hP hD hS => ?_)
      obtain rfl := Option.some.inj h
      exact rw_i (R := rmOf 2 0 0) F hP hD hS hr hlk ⟨Nat.le_of_ble_eq_true rfl, Nat.le_of_ble_eq_true rfl⟩ ⟨rfl, rfl⟩ (dd D_X8_copy 15 rfl)
  | some k3 =>
    dsimp only [oM] at h
    obtain ⟨hk4, h⟩ := gd_some (b := decide (k3 < 8)) h
    have hk4 := of_decide_eq_true hk4
    refine lv_astore (lv' := [(6, .ref (ax (46+2*k3))), (0, .ref (ax 0)), (1, .int p1), (2, .int p2), (3, .int p3), (4, .int p4), (5, .int p5)]) F.1 F.2.1 (dd D_X8_copy 3 rfl) hl (Nat.le_of_ble_eq_true rfl) rfl (fun ls hl => ?_)
    refine lv_aload_n F.1 F.2.1 (dd D_X8_copy 4 rfl) rfl (lv_at hl 1 rfl) ?_
    refine lv_iload_n F.1 F.2.1 (dd D_X8_copy 5 rfl) rfl (lv_at hl 3 rfl) ?_
    obtain ⟨r13, e14, h⟩ := Option.bind_eq_some_iff.mp h
    refine ro_go (st' := [va_rf (Option.map (fun j => ax (46+2*j)) r13)]) (rV (rest := []) F (c_X8_shelfAt D cA ax s n p2 r13 e14 l) lk_X8_56 (Nat.le_of_ble_eq_true rfl) (preRO hK hS hAb hP) (rcv_8 hK hP (q0 := (0)) (xp_0 cA ax s)) rfl hl rfl (Nat.le_of_ble_eq_true rfl) (dd D_X8_copy 6 rfl) ⟨Nat.le_of_ble_eq_true rfl, Nat.le_of_ble_eq_true rfl⟩) rfl ?_
    cases r13 with
    | none =>
      dsimp only [oM] at h
      refine lv_astoreN (lv' := [(7, .null), (6, .ref (ax (46+2*k3))), (0, .ref (ax 0)), (1, .int p1), (2, .int p2), (3, .int p3), (4, .int p4), (5, .int p5)]) F.1 F.2.1 (dd D_X8_copy 7 rfl) hl (Nat.le_of_ble_eq_true rfl) rfl (fun ls hl => ?_)
      refine lv_aload F.1 F.2.1 (dd D_X8_copy 8 rfl) (lv_at hl 1 rfl) ?_
      refine lv_ifnull F.1 F.2.1 (dd D_X8_copy 9 rfl) ?_
      refine lv_aloadN F.1 F.2.1 (dd D_X8_copy 10 rfl) (lv_at hl 0 rfl) ?_
      refine lv_ifnonnullN F.1 F.2.1 (dd D_X8_copy 11 rfl) ?_
      refine lv_aload_n F.1 F.2.1 (dd D_X8_copy 12 rfl) rfl (lv_at hl 2 rfl) ?_
      refine lv_bipush (v := (-2 : Int32)) F.1 F.2.1 (dd D_X8_copy 13 rfl) kb_m2 ?_
      obtain ⟨r17, e18, h⟩ := Option.bind_eq_some_iff.mp h
      refine rwe_all (st' := [.int r17.1]) hD hS hA (rV (rest := []) F (c_X8_refuse D cA ax s n (-2 : Int32) r17 e18 l H.size) lk_X8_64 (Nat.le_of_ble_eq_true rfl) (preRW hK hS hAb hP hD) (rcv_8 hK hP (q0 := (0)) (xp_0 cA ax s)) rfl hl rfl (Nat.le_of_ble_eq_true rfl) (dd D_X8_copy 14 rfl) ⟨Nat.le_of_ble_eq_true rfl, Nat.le_of_ble_eq_true rfl⟩) rfl (fun H locs hP hD hS => ?_)
      obtain rfl := Option.some.inj h
      exact rw_i (R := rmOf 2 0 0) F hP hD hS hr hlk ⟨Nat.le_of_ble_eq_true rfl, Nat.le_of_ble_eq_true rfl⟩ ⟨rfl, rfl⟩ (dd D_X8_copy 15 rfl)
    | some k15 =>
      dsimp only [oM] at h
      obtain ⟨hk16, h⟩ := gd_some (b := decide (k15 < 8)) h
      have hk16 := of_decide_eq_true hk16
      refine lv_astore (lv' := [(7, .ref (ax (46+2*k15))), (6, .ref (ax (46+2*k3))), (0, .ref (ax 0)), (1, .int p1), (2, .int p2), (3, .int p3), (4, .int p4), (5, .int p5)]) F.1 F.2.1 (dd D_X8_copy 7 rfl) hl (Nat.le_of_ble_eq_true rfl) rfl (fun ls hl => ?_)
      refine lv_aload F.1 F.2.1 (dd D_X8_copy 8 rfl) (lv_at hl 1 rfl) ?_
      refine lv_ifnull F.1 F.2.1 (dd D_X8_copy 9 rfl) ?_
      refine lv_aload F.1 F.2.1 (dd D_X8_copy 10 rfl) (lv_at hl 0 rfl) ?_
      refine lv_ifnonnull (tgt := 31) F.1 F.2.1 (dd D_X8_copy 11 rfl) rfl ?_
      refine lv_aload F.1 F.2.1 (dd D_X8_copy 16 rfl) (lv_at hl 1 rfl) ?_
      refine ro_go (st' := [.int (bI (F_X5_isEvening (x_sh s k3)))]) (rV (rest := []) F (c_X5_isEvening D cA (fun i => ax (46+2*k3+i)) (x_sh s k3) l) lk_X8_83 (Nat.le_of_ble_eq_true rfl) (preRO hK hS hAb (pg_sh hk4 hP)) (rcv_5 hK hP (q0 := (46+2*k3)) (xp_sh cA ax s k3 hk4)) rfl hl rfl (Nat.le_of_ble_eq_true rfl) (dd D_X8_copy 17 rfl) ⟨Nat.le_of_ble_eq_true rfl, Nat.le_of_ble_eq_true rfl⟩) rfl ?_
      refine x_bif_ne (tgt := 57) F.1 F.2.1 (dd D_X8_copy 18 rfl) rfl h (fun c44 h => ?_) (fun c44 h => ?_)
      · refine lv_aload_n F.1 F.2.1 (dd D_X8_copy 26 rfl) rfl (lv_at hl 2 rfl) ?_
        refine lv_bipush (v := (-3 : Int32)) F.1 F.2.1 (dd D_X8_copy 27 rfl) kb_m3 ?_
        obtain ⟨r19, e20, h⟩ := Option.bind_eq_some_iff.mp h
        refine rwe_all (st' := [.int r19.1]) hD hS hA (rV (rest := []) F (c_X8_refuse D cA ax s n (-3 : Int32) r19 e20 l H.size) lk_X8_64 (Nat.le_of_ble_eq_true rfl) (preRW hK hS hAb hP hD) (rcv_8 hK hP (q0 := (0)) (xp_0 cA ax s)) rfl hl rfl (Nat.le_of_ble_eq_true rfl) (dd D_X8_copy 28 rfl) ⟨Nat.le_of_ble_eq_true rfl, Nat.le_of_ble_eq_true rfl⟩) rfl (fun H locs hP hD hS => ?_)
        obtain rfl := Option.some.inj h
        exact rw_i (R := rmOf 2 0 0) F hP hD hS hr hlk ⟨Nat.le_of_ble_eq_true rfl, Nat.le_of_ble_eq_true rfl⟩ ⟨rfl, rfl⟩ (dd D_X8_copy 29 rfl)
      · refine lv_aload F.1 F.2.1 (dd D_X8_copy 19 rfl) (lv_at hl 0 rfl) ?_
        refine ro_go (st' := [.int (bI (F_X5_isEvening (x_sh s k15)))]) (rV (rest := []) F (c_X5_isEvening D cA (fun i => ax (46+2*k15+i)) (x_sh s k15) l) lk_X8_83 (Nat.le_of_ble_eq_true rfl) (preRO hK hS hAb (pg_sh hk16 hP)) (rcv_5 hK hP (q0 := (46+2*k15)) (xp_sh cA ax s k15 hk16)) rfl hl rfl (Nat.le_of_ble_eq_true rfl) (dd D_X8_copy 20 rfl) ⟨Nat.le_of_ble_eq_true rfl, Nat.le_of_ble_eq_true rfl⟩) rfl ?_
        refine x_bif_ne (tgt := 57) F.1 F.2.1 (dd D_X8_copy 21 rfl) rfl h (fun c43 h => ?_) (fun c43 h => ?_)
        · refine lv_aload_n F.1 F.2.1 (dd D_X8_copy 26 rfl) rfl (lv_at hl 2 rfl) ?_
          refine lv_bipush (v := (-3 : Int32)) F.1 F.2.1 (dd D_X8_copy 27 rfl) kb_m3 ?_
          obtain ⟨r21, e22, h⟩ := Option.bind_eq_some_iff.mp h
          refine rwe_all (st' := [.int r21.1]) hD hS hA (rV (rest := []) F (c_X8_refuse D cA ax s n (-3 : Int32) r21 e22 l H.size) lk_X8_64 (Nat.le_of_ble_eq_true rfl) (preRW hK hS hAb hP hD) (rcv_8 hK hP (q0 := (0)) (xp_0 cA ax s)) rfl hl rfl (Nat.le_of_ble_eq_true rfl) (dd D_X8_copy 28 rfl) ⟨Nat.le_of_ble_eq_true rfl, Nat.le_of_ble_eq_true rfl⟩) rfl (fun H locs hP hD hS => ?_)
          obtain rfl := Option.some.inj h
          exact rw_i (R := rmOf 2 0 0) F hP hD hS hr hlk ⟨Nat.le_of_ble_eq_true rfl, Nat.le_of_ble_eq_true rfl⟩ ⟨rfl, rfl⟩ (dd D_X8_copy 29 rfl)
        · refine lv_aload F.1 F.2.1 (dd D_X8_copy 22 rfl) (lv_at hl 1 rfl) ?_
          refine lv_aload F.1 F.2.1 (dd D_X8_copy 23 rfl) (lv_at hl 0 rfl) ?_
          refine ro_go (st' := [.int (bI (F_X5_isRowOfOtherSort (x_sh s k3) (x_sh s k15)))]) (rV (rest := []) F (c_X5_isRowOfOtherSort D cA (fun i => ax (46+2*k3+i)) (x_sh s k3) (fun i => ax (46+2*k15+i)) (x_sh s k15) l) lk_X8_87 (Nat.le_of_ble_eq_true rfl) (preRO hK hS hAb (va_P.app (pg_sh hk4 hP) (pg_sh hk16 hP))) (rcv_5 hK hP (q0 := (46+2*k3)) (xp_sh cA ax s k3 hk4)) rfl hl rfl (Nat.le_of_ble_eq_true rfl) (dd D_X8_copy 24 rfl) ⟨Nat.le_of_ble_eq_true rfl, Nat.le_of_ble_eq_true rfl⟩) rfl ?_
          refine x_bif_eq (tgt := 64) F.1 F.2.1 (dd D_X8_copy 25 rfl) rfl h (fun c42 h => ?_) (fun c42 h => ?_)
          · refine lv_aload F.1 F.2.1 (dd D_X8_copy 30 rfl) (lv_at hl 1 rfl) ?_
            refine ro_go (st' := [.int (bI (F_X5_isBare (x_sh s k3)))]) (rV (rest := []) F (c_X5_isBare D cA (fun i => ax (46+2*k3+i)) (x_sh s k3) l) lk_X8_91 (Nat.le_of_ble_eq_true rfl) (preRO hK hS hAb (pg_sh hk4 hP)) (rcv_5 hK hP (q0 := (46+2*k3)) (xp_sh cA ax s k3 hk4)) rfl hl rfl (Nat.le_of_ble_eq_true rfl) (dd D_X8_copy 31 rfl) ⟨Nat.le_of_ble_eq_true rfl, Nat.le_of_ble_eq_true rfl⟩) rfl ?_
            refine x_bif_ne (tgt := 80) F.1 F.2.1 (dd D_X8_copy 32 rfl) rfl h (fun c39 h => ?_) (fun c39 h => ?_)
            · refine lv_aload_n F.1 F.2.1 (dd D_X8_copy 36 rfl) rfl (lv_at hl 2 rfl) ?_
              refine lv_bipush (v := (-4 : Int32)) F.1 F.2.1 (dd D_X8_copy 37 rfl) kb_m4 ?_
              obtain ⟨r23, e24, h⟩ := Option.bind_eq_some_iff.mp h
              refine rwe_all (st' := [.int r23.1]) hD hS hA (rV (rest := []) F (c_X8_refuse D cA ax s n (-4 : Int32) r23 e24 l H.size) lk_X8_64 (Nat.le_of_ble_eq_true rfl) (preRW hK hS hAb hP hD) (rcv_8 hK hP (q0 := (0)) (xp_0 cA ax s)) rfl hl rfl (Nat.le_of_ble_eq_true rfl) (dd D_X8_copy 38 rfl) ⟨Nat.le_of_ble_eq_true rfl, Nat.le_of_ble_eq_true rfl⟩) rfl (fun H locs hP hD hS => ?_)
              obtain rfl := Option.some.inj h
              exact rw_i (R := rmOf 2 0 0) F hP hD hS hr hlk ⟨Nat.le_of_ble_eq_true rfl, Nat.le_of_ble_eq_true rfl⟩ ⟨rfl, rfl⟩ (dd D_X8_copy 39 rfl)
            · refine lv_aload F.1 F.2.1 (dd D_X8_copy 33 rfl) (lv_at hl 0 rfl) ?_
              refine ro_go (st' := [.int (bI (F_X5_isBare (x_sh s k15)))]) (rV (rest := []) F (c_X5_isBare D cA (fun i => ax (46+2*k15+i)) (x_sh s k15) l) lk_X8_91 (Nat.le_of_ble_eq_true rfl) (preRO hK hS hAb (pg_sh hk16 hP)) (rcv_5 hK hP (q0 := (46+2*k15)) (xp_sh cA ax s k15 hk16)) rfl hl rfl (Nat.le_of_ble_eq_true rfl) (dd D_X8_copy 34 rfl) ⟨Nat.le_of_ble_eq_true rfl, Nat.le_of_ble_eq_true rfl⟩) rfl ?_
              refine x_bif_eq (tgt := 87) F.1 F.2.1 (dd D_X8_copy 35 rfl) rfl h (fun c38 h => ?_) (fun c38 h => ?_)
              · refine lv_aload F.1 F.2.1 (dd D_X8_copy 40 rfl) (lv_at hl 1 rfl) ?_
                refine lv_iload_n F.1 F.2.1 (dd D_X8_copy 41 rfl) rfl (lv_at hl 5 rfl) ?_
                refine lv_iload F.1 F.2.1 (dd D_X8_copy 42 rfl) (lv_at hl 7 rfl) ?_
                refine ro_go (st' := [.int (bI (F_X5_hasPlaces (x_sh s k3) p3 p5))]) (rV (rest := []) F (c_X5_hasPlaces D cA (fun i => ax (46+2*k3+i)) (x_sh s k3) p3 p5 l) lk_X8_75 (Nat.le_of_ble_eq_true rfl) (preRO hK hS hAb (pg_sh hk4 hP)) (rcv_5 hK hP (q0 := (46+2*k3)) (xp_sh cA ax s k3 hk4)) rfl hl rfl (Nat.le_of_ble_eq_true rfl) (dd D_X8_copy 43 rfl) ⟨Nat.le_of_ble_eq_true rfl, Nat.le_of_ble_eq_true rfl⟩) rfl ?_
                refine x_bif_eq (tgt := 110) F.1 F.2.1 (dd D_X8_copy 44 rfl) rfl h (fun c35 h => ?_) (fun c35 h => ?_)
                · refine lv_aload_n F.1 F.2.1 (dd D_X8_copy 50 rfl) rfl (lv_at hl 2 rfl) ?_
                  refine lv_bipush (v := (-2 : Int32)) F.1 F.2.1 (dd D_X8_copy 51 rfl) kb_m2 ?_
                  obtain ⟨r25, e26, h⟩ := Option.bind_eq_some_iff.mp h
                  refine rwe_all (st' := [.int r25.1]) hD hS hA (rV (rest := []) F (c_X8_refuse D cA ax s n (-2 : Int32) r25 e26 l H.size) lk_X8_64 (Nat.le_of_ble_eq_true rfl) (preRW hK hS hAb hP hD) (rcv_8 hK hP (q0 := (0)) (xp_0 cA ax s)) rfl hl rfl (Nat.le_of_ble_eq_true rfl) (dd D_X8_copy 52 rfl) ⟨Nat.le_of_ble_eq_true rfl, Nat.le_of_ble_eq_true rfl⟩) rfl (fun H locs hP hD hS => ?_)
                  obtain rfl := Option.some.inj h
                  exact rw_i (R := rmOf 2 0 0) F hP hD hS hr hlk ⟨Nat.le_of_ble_eq_true rfl, Nat.le_of_ble_eq_true rfl⟩ ⟨rfl, rfl⟩ (dd D_X8_copy 53 rfl)
                · refine lv_aload F.1 F.2.1 (dd D_X8_copy 45 rfl) (lv_at hl 0 rfl) ?_
                  refine lv_iload F.1 F.2.1 (dd D_X8_copy 46 rfl) (lv_at hl 6 rfl) ?_
                  refine lv_iload F.1 F.2.1 (dd D_X8_copy 47 rfl) (lv_at hl 7 rfl) ?_
                  refine ro_go (st' := [.int (bI (F_X5_hasPlaces (x_sh s k15) p4 p5))]) (rV (rest := []) F (c_X5_hasPlaces D cA (fun i => ax (46+2*k15+i)) (x_sh s k15) p4 p5 l) lk_X8_75 (Nat.le_of_ble_eq_true rfl) (preRO hK hS hAb (pg_sh hk16 hP)) (rcv_5 hK hP (q0 := (46+2*k15)) (xp_sh cA ax s k15 hk16)) rfl hl rfl (Nat.le_of_ble_eq_true rfl) (dd D_X8_copy 48 rfl) ⟨Nat.le_of_ble_eq_true rfl, Nat.le_of_ble_eq_true rfl⟩) rfl ?_
                  refine x_bif_ne (tgt := 117) F.1 F.2.1 (dd D_X8_copy 49 rfl) rfl h (fun c34 h => ?_) (fun c34 h => ?_)
                  · refine lv_aload F.1 F.2.1 (dd D_X8_copy 54 rfl) (lv_at hl 0 rfl) ?_
                    refine lv_aload F.1 F.2.1 (dd D_X8_copy 55 rfl) (lv_at hl 1 rfl) ?_
                    refine lv_iload_n F.1 F.2.1 (dd D_X8_copy 56 rfl) rfl (lv_at hl 5 rfl) ?_
                    refine lv_iload F.1 F.2.1 (dd D_X8_copy 57 rfl) (lv_at hl 6 rfl) ?_
                    refine lv_iload F.1 F.2.1 (dd D_X8_copy 58 rfl) (lv_at hl 7 rfl) ?_
                    rcases pick h with ⟨c27, h_c27⟩ | ⟨c27, h_c27⟩
                    · subst c27
                      have h := h_c27
                      obtain ⟨r28, e29, h⟩ := Option.bind_eq_some_iff.mp h
                      refine rwe (V := none) (wc := (shelfW cA (fun i => ax (46+2*k15+i)) (x_sh s k15))) (wc' := (shelfW cA (fun i => ax (46+2*k15+i)) r28)) (st' := []) (W' := (xW cA ax (x_set_sh s (va_up (x_sh s) k15 r28)))) hP hD hS hA [46+2*k15, 46+2*k15+1] (jc_sh cA ax s k15 hk16) (nd_sh k15) rfl (rV (rest := []) F (c_X5_take_same D cA (fun i => ax (46+2*k15+i)) (x_sh s k15) n p3 p4 p5 r28 e29 l H.size) lk_X8_94 (Nat.le_of_ble_eq_true rfl) (preRW hK hS hAb (selP (is := [46+2*k15, 46+2*k15+1]) hP (jc_sh cA ax s k15 hk16)) (selD (is := [46+2*k15, 46+2*k15+1]) hD (nd_sh k15) (jc_sh cA ax s k15 hk16))) (rcv_5 hK hP (q0 := (46+2*k15)) (xp_sh cA ax s k15 hk16)) rfl hl rfl (Nat.le_of_ble_eq_true rfl) (dd D_X8_copy 59 rfl) ⟨Nat.le_of_ble_eq_true rfl, Nat.le_of_ble_eq_true rfl⟩) (js_sh cA ax s r28 k15 hk16) rfl (fun H locs hP hD hS => ?_)
                      refine lv_iload F.1 F.2.1 (dd D_X8_copy 60 rfl) (lv_at hl 7 rfl) ?_
                      obtain rfl := Option.some.inj h
                      exact rw_i (R := rmOf 2 0 0) F hP hD hS hr hlk ⟨Nat.le_of_ble_eq_true rfl, Nat.le_of_ble_eq_true rfl⟩ ⟨rfl, rfl⟩ (dd D_X8_copy 61 rfl)
                    · have h := h_c27
                      obtain ⟨r30, e31, h⟩ := Option.bind_eq_some_iff.mp h
                      refine rwe (V := none) (wc := ((shelfW cA (fun i => ax (46+2*k15+i)) (x_sh s k15)) ++ (shelfW cA (fun i => ax (46+2*k3+i)) (x_sh s k3)))) (wc' := ((shelfW cA (fun i => ax (46+2*k15+i)) r30) ++ (shelfW cA (fun i => ax (46+2*k3+i)) (x_sh s k3)))) (st' := []) (W' := (xW cA ax (x_set_sh s (va_up (x_sh s) k15 r30)))) hP hD hS hA [46+2*k15, 46+2*k15+1, 46+2*k3, 46+2*k3+1] (jc_sh2 cA ax s k15 k3 hk16 hk4) (nd_sh2 c27) rfl (rV (rest := []) F (c_X5_take D cA (fun i => ax (46+2*k15+i)) (x_sh s k15) (fun i => ax (46+2*k3+i)) (x_sh s k3) n p3 p4 p5 r30 e31 l H.size) lk_X8_94 (Nat.le_of_ble_eq_true rfl) (preRW hK hS hAb (selP (is := [46+2*k15, 46+2*k15+1, 46+2*k3, 46+2*k3+1]) hP (jc_sh2 cA ax s k15 k3 hk16 hk4)) (selD (is := [46+2*k15, 46+2*k15+1, 46+2*k3, 46+2*k3+1]) hD (nd_sh2 c27) (jc_sh2 cA ax s k15 k3 hk16 hk4))) (rcv_5 hK hP (q0 := (46+2*k15)) (xp_sh cA ax s k15 hk16)) rfl hl rfl (Nat.le_of_ble_eq_true rfl) (dd D_X8_copy 59 rfl) ⟨Nat.le_of_ble_eq_true rfl, Nat.le_of_ble_eq_true rfl⟩) (js_sh2 cA ax s k15 k3 r30 hk16 hk4 c27) rfl (fun H locs hP hD hS => ?_)
                      refine lv_iload F.1 F.2.1 (dd D_X8_copy 60 rfl) (lv_at hl 7 rfl) ?_
                      obtain rfl := Option.some.inj h
                      exact rw_i (R := rmOf 2 0 0) F hP hD hS hr hlk ⟨Nat.le_of_ble_eq_true rfl, Nat.le_of_ble_eq_true rfl⟩ ⟨rfl, rfl⟩ (dd D_X8_copy 61 rfl)
                  · refine lv_aload_n F.1 F.2.1 (dd D_X8_copy 50 rfl) rfl (lv_at hl 2 rfl) ?_
                    refine lv_bipush (v := (-2 : Int32)) F.1 F.2.1 (dd D_X8_copy 51 rfl) kb_m2 ?_
                    obtain ⟨r32, e33, h⟩ := Option.bind_eq_some_iff.mp h
                    refine rwe_all (st' := [.int r32.1]) hD hS hA (rV (rest := []) F (c_X8_refuse D cA ax s n (-2 : Int32) r32 e33 l H.size) lk_X8_64 (Nat.le_of_ble_eq_true rfl) (preRW hK hS hAb hP hD) (rcv_8 hK hP (q0 := (0)) (xp_0 cA ax s)) rfl hl rfl (Nat.le_of_ble_eq_true rfl) (dd D_X8_copy 52 rfl) ⟨Nat.le_of_ble_eq_true rfl, Nat.le_of_ble_eq_true rfl⟩) rfl (fun H locs hP hD hS => ?_)
                    obtain rfl := Option.some.inj h
                    exact rw_i (R := rmOf 2 0 0) F hP hD hS hr hlk ⟨Nat.le_of_ble_eq_true rfl, Nat.le_of_ble_eq_true rfl⟩ ⟨rfl, rfl⟩ (dd D_X8_copy 53 rfl)
              · refine lv_aload_n F.1 F.2.1 (dd D_X8_copy 36 rfl) rfl (lv_at hl 2 rfl) ?_
                refine lv_bipush (v := (-4 : Int32)) F.1 F.2.1 (dd D_X8_copy 37 rfl) kb_m4 ?_
                obtain ⟨r36, e37, h⟩ := Option.bind_eq_some_iff.mp h
                refine rwe_all (st' := [.int r36.1]) hD hS hA (rV (rest := []) F (c_X8_refuse D cA ax s n (-4 : Int32) r36 e37 l H.size) lk_X8_64 (Nat.le_of_ble_eq_true rfl) (preRW hK hS hAb hP hD) (rcv_8 hK hP (q0 := (0)) (xp_0 cA ax s)) rfl hl rfl (Nat.le_of_ble_eq_true rfl) (dd D_X8_copy 38 rfl) ⟨Nat.le_of_ble_eq_true rfl, Nat.le_of_ble_eq_true rfl⟩) rfl (fun H locs hP hD hS => ?_)
                obtain rfl := Option.some.inj h
                exact rw_i (R := rmOf 2 0 0) F hP hD hS hr hlk ⟨Nat.le_of_ble_eq_true rfl, Nat.le_of_ble_eq_true rfl⟩ ⟨rfl, rfl⟩ (dd D_X8_copy 39 rfl)
          · refine lv_aload_n F.1 F.2.1 (dd D_X8_copy 26 rfl) rfl (lv_at hl 2 rfl) ?_
            refine lv_bipush (v := (-3 : Int32)) F.1 F.2.1 (dd D_X8_copy 27 rfl) kb_m3 ?_
            obtain ⟨r40, e41, h⟩ := Option.bind_eq_some_iff.mp h
            refine rwe_all (st' := [.int r40.1]) hD hS hA (rV (rest := []) F (c_X8_refuse D cA ax s n (-3 : Int32) r40 e41 l H.size) lk_X8_64 (Nat.le_of_ble_eq_true rfl) (preRW hK hS hAb hP hD) (rcv_8 hK hP (q0 := (0)) (xp_0 cA ax s)) rfl hl rfl (Nat.le_of_ble_eq_true rfl) (dd D_X8_copy 28 rfl) ⟨Nat.le_of_ble_eq_true rfl, Nat.le_of_ble_eq_true rfl⟩) rfl (fun H locs hP hD hS => ?_)
            obtain rfl := Option.some.inj h
            exact rw_i (R := rmOf 2 0 0) F hP hD hS hr hlk ⟨Nat.le_of_ble_eq_true rfl, Nat.le_of_ble_eq_true rfl⟩ ⟨rfl, rfl⟩ (dd D_X8_copy 29 rfl)
def F_X8_element (n : Nat) (s : XS) (p1 : Int32) (p2 : Int32) : Option Int64 := (((F_X8_shelfAt n s p1)).bind fun r1 => oM r1 (some ((0 : Int64))) (fun k3 => gd (decide (k3 < 8)) (bf (F_X5_isRow (x_sh s k3)) ((((F_X5_at n (x_sh s k3) p2)).bind fun r5 => some (r5))) (some ((0 : Int64))))))
set_option maxHeartbeats 4000000 in
set_option maxRecDepth 100000 in
theorem c_X8_element (D : va_G) (cA : Nat → ClassId) (ax : Nat → Nat) (s : XS) (n : Nat) (p1 : Int32) (p2 : Int32) (r : Int64) (h : F_X8_element n s p1 p2 = some r) : RO m_X8_element 1 D cA [.ref (ax 0), .int p1, .int p2] (xW cA ax s) (some (.long r)) := by
  refine RO.ofW gy_X8_element.2.2 (Nat.le_of_ble_eq_true rfl) ?_
  intro l p e sM m below meth c F hr hlk hK hP hS hAb ls hl
  have hl : lv_has ls 4 [(0, .ref (ax 0)), (1, .int p1), (2, .int p2)] := hl
  unfold F_X8_element at h
  refine lv_aload_n F.1 F.2.1 (dd D_X8_element 0 rfl) rfl (lv_at hl 0 rfl) ?_
  refine lv_iload_n F.1 F.2.1 (dd D_X8_element 1 rfl) rfl (lv_at hl 1 rfl) ?_
  obtain ⟨r1, e2, h⟩ := Option.bind_eq_some_iff.mp h
  refine ro_go (st' := [va_rf (Option.map (fun j => ax (46+2*j)) r1)]) (rV (rest := []) F (c_X8_shelfAt D cA ax s n p1 r1 e2 l) lk_X8_56 (Nat.le_of_ble_eq_true rfl) (preRO hK hS hAb hP) (rcv_8 hK hP (q0 := (0)) (xp_0 cA ax s)) rfl hl rfl (Nat.le_of_ble_eq_true rfl) (dd D_X8_element 2 rfl) ⟨Nat.le_of_ble_eq_true rfl, Nat.le_of_ble_eq_true rfl⟩) rfl ?_
  cases r1 with
  | none =>
    dsimp only [oM] at h
    refine lv_astore_nN (lv' := [(3, .null), (0, .ref (ax 0)), (1, .int p1), (2, .int p2)]) F.1 F.2.1 (dd D_X8_element 3 rfl) rfl hl (Nat.le_of_ble_eq_true rfl) rfl (fun ls hl => ?_)
    refine lv_aload_nN F.1 F.2.1 (dd D_X8_element 4 rfl) rfl (lv_at hl 0 rfl) ?_
    refine lv_ifnullN (tgt := 17) F.1 F.2.1 (dd D_X8_element 5 rfl) rfl ?_
    refine lv_lconst (v := (0 : Int64)) F.1 F.2.1 (dd D_X8_element 9 rfl) kl_0 ?_
    refine lv_goto (tgt := 26) F.1 F.2.1 (dd D_X8_element 10 rfl) rfl ?_
    exact ro_l (R := rmOf 1 0 0) F hr hlk (congrArg (Option.map Value.long) h) (dd D_X8_element 14 rfl)
  | some k3 =>
    dsimp only [oM] at h
    obtain ⟨hk4, h⟩ := gd_some (b := decide (k3 < 8)) h
    have hk4 := of_decide_eq_true hk4
    refine lv_astore_n (lv' := [(3, .ref (ax (46+2*k3))), (0, .ref (ax 0)), (1, .int p1), (2, .int p2)]) F.1 F.2.1 (dd D_X8_element 3 rfl) rfl hl (Nat.le_of_ble_eq_true rfl) rfl (fun ls hl => ?_)
    refine lv_aload_n F.1 F.2.1 (dd D_X8_element 4 rfl) rfl (lv_at hl 0 rfl) ?_
    refine lv_ifnull F.1 F.2.1 (dd D_X8_element 5 rfl) ?_
    refine lv_aload_n F.1 F.2.1 (dd D_X8_element 6 rfl) rfl (lv_at hl 0 rfl) ?_
    refine ro_go (st' := [.int (bI (F_X5_isRow (x_sh s k3)))]) (rV (rest := []) F (c_X5_isRow D cA (fun i => ax (46+2*k3+i)) (x_sh s k3) l) lk_X8_98 (Nat.le_of_ble_eq_true rfl) (preRO hK hS hAb (pg_sh hk4 hP)) (rcv_5 hK hP (q0 := (46+2*k3)) (xp_sh cA ax s k3 hk4)) rfl hl rfl (Nat.le_of_ble_eq_true rfl) (dd D_X8_element 7 rfl) ⟨Nat.le_of_ble_eq_true rfl, Nat.le_of_ble_eq_true rfl⟩) rfl ?_
    refine x_bif_ne (tgt := 21) F.1 F.2.1 (dd D_X8_element 8 rfl) rfl h (fun c7 h => ?_) (fun c7 h => ?_)
    · refine lv_aload_n F.1 F.2.1 (dd D_X8_element 11 rfl) rfl (lv_at hl 0 rfl) ?_
      refine lv_iload_n F.1 F.2.1 (dd D_X8_element 12 rfl) rfl (lv_at hl 3 rfl) ?_
      obtain ⟨r5, e6, h⟩ := Option.bind_eq_some_iff.mp h
      refine ro_go (st' := [.long r5]) (rV (rest := []) F (c_X5_at D cA (fun i => ax (46+2*k3+i)) (x_sh s k3) n p2 r5 e6 l) lk_X8_101 (Nat.le_of_ble_eq_true rfl) (preRO hK hS hAb (pg_sh hk4 hP)) (rcv_5 hK hP (q0 := (46+2*k3)) (xp_sh cA ax s k3 hk4)) rfl hl rfl (Nat.le_of_ble_eq_true rfl) (dd D_X8_element 13 rfl) ⟨Nat.le_of_ble_eq_true rfl, Nat.le_of_ble_eq_true rfl⟩) rfl ?_
      exact ro_l (R := rmOf 1 0 0) F hr hlk (congrArg (Option.map Value.long) h) (dd D_X8_element 14 rfl)
    · refine lv_lconst (v := (0 : Int64)) F.1 F.2.1 (dd D_X8_element 9 rfl) kl_0 ?_
      refine lv_goto (tgt := 26) F.1 F.2.1 (dd D_X8_element 10 rfl) rfl ?_
      exact ro_l (R := rmOf 1 0 0) F hr hlk (congrArg (Option.map Value.long) h) (dd D_X8_element 14 rfl)
def F_X8_holds (n : Nat) (s : XS) (p1 : Int32) : Option Int32 := (((F_X8_shelfAt n s p1)).bind fun r1 => oM r1 (some ((-1 : Int32))) (fun k3 => gd (decide (k3 < 8)) (some ((F_X5_content (x_sh s k3))))))
set_option maxHeartbeats 4000000 in
set_option maxRecDepth 100000 in
theorem c_X8_holds (D : va_G) (cA : Nat → ClassId) (ax : Nat → Nat) (s : XS) (n : Nat) (p1 : Int32) (r : Int32) (h : F_X8_holds n s p1 = some r) : RO m_X8_holds 1 D cA [.ref (ax 0), .int p1] (xW cA ax s) (some (.int r)) := by
  refine RO.ofW gy_X8_holds.2.2 (Nat.le_of_ble_eq_true rfl) ?_
  intro l p e sM m below meth c F hr hlk hK hP hS hAb ls hl
  have hl : lv_has ls 3 [(0, .ref (ax 0)), (1, .int p1)] := hl
  unfold F_X8_holds at h
  refine lv_aload_n F.1 F.2.1 (dd D_X8_holds 0 rfl) rfl (lv_at hl 0 rfl) ?_
  refine lv_iload_n F.1 F.2.1 (dd D_X8_holds 1 rfl) rfl (lv_at hl 1 rfl) ?_
  obtain ⟨r1, e2, h⟩ := Option.bind_eq_some_iff.mp h
  refine ro_go (st' := [va_rf (Option.map (fun j => ax (46+2*j)) r1)]) (rV (rest := []) F (c_X8_shelfAt D cA ax s n p1 r1 e2 l) lk_X8_56 (Nat.le_of_ble_eq_true rfl) (preRO hK hS hAb hP) (rcv_8 hK hP (q0 := (0)) (xp_0 cA ax s)) rfl hl rfl (Nat.le_of_ble_eq_true rfl) (dd D_X8_holds 2 rfl) ⟨Nat.le_of_ble_eq_true rfl, Nat.le_of_ble_eq_true rfl⟩) rfl ?_
  cases r1 with
  | none =>
    dsimp only [oM] at h
    refine lv_astore_nN (lv' := [(2, .null), (0, .ref (ax 0)), (1, .int p1)]) F.1 F.2.1 (dd D_X8_holds 3 rfl) rfl hl (Nat.le_of_ble_eq_true rfl) rfl (fun ls hl => ?_)
    refine lv_aload_nN F.1 F.2.1 (dd D_X8_holds 4 rfl) rfl (lv_at hl 0 rfl) ?_
    refine lv_ifnonnullN F.1 F.2.1 (dd D_X8_holds 5 rfl) ?_
    refine lv_iconst (v := (-1 : Int32)) F.1 F.2.1 (dd D_X8_holds 6 rfl) ki_m1 ?_
    refine lv_goto (tgt := 18) F.1 F.2.1 (dd D_X8_holds 7 rfl) rfl ?_
    exact ro_i (R := rmOf 1 0 0) F hr hlk (congrArg (Option.map Value.int) h) (dd D_X8_holds 10 rfl)
  | some k3 =>
    dsimp only [oM] at h
    obtain ⟨hk4, h⟩ := gd_some (b := decide (k3 < 8)) h
    have hk4 := of_decide_eq_true hk4
    refine lv_astore_n (lv' := [(2, .ref (ax (46+2*k3))), (0, .ref (ax 0)), (1, .int p1)]) F.1 F.2.1 (dd D_X8_holds 3 rfl) rfl hl (Nat.le_of_ble_eq_true rfl) rfl (fun ls hl => ?_)
    refine lv_aload_n F.1 F.2.1 (dd D_X8_holds 4 rfl) rfl (lv_at hl 0 rfl) ?_
    refine lv_ifnonnull (tgt := 14) F.1 F.2.1 (dd D_X8_holds 5 rfl) rfl ?_
    refine lv_aload_n F.1 F.2.1 (dd D_X8_holds 8 rfl) rfl (lv_at hl 0 rfl) ?_
    refine ro_go (st' := [.int (F_X5_content (x_sh s k3))]) (rV (rest := []) F (c_X5_content D cA (fun i => ax (46+2*k3+i)) (x_sh s k3) l) lk_X8_105 (Nat.le_of_ble_eq_true rfl) (preRO hK hS hAb (pg_sh hk4 hP)) (rcv_5 hK hP (q0 := (46+2*k3)) (xp_sh cA ax s k3 hk4)) rfl hl rfl (Nat.le_of_ble_eq_true rfl) (dd D_X8_holds 9 rfl) ⟨Nat.le_of_ble_eq_true rfl, Nat.le_of_ble_eq_true rfl⟩) rfl ?_
    exact ro_i (R := rmOf 1 0 0) F hr hlk (congrArg (Option.map Value.int) h) (dd D_X8_holds 10 rfl)
def F_X8_evening (n : Nat) (s : XS) (p1 : Int32) (p2 : Int32) (p3 : Int32) : Option (Int32 × XS) := (((F_X8_shelfAt n s p1)).bind fun r1 => oM r1 ((((F_X8_refuse n s (-2 : Int32))).bind fun r5 => some (r5.1, r5.2))) (fun k3 => gd (decide (k3 < 8)) (bf (F_X8_isKind p2) (bf (F_X8_isDay p3) (some ((1 : Int32), (x_set_sh s (va_up (x_sh s) k3 (F_X5_putEvening (x_sh s k3) p2 p3))))) ((((F_X8_refuse n s (-2 : Int32))).bind fun r9 => some (r9.1, r9.2)))) ((((F_X8_refuse n s (-2 : Int32))).bind fun r7 => some (r7.1, r7.2))))))
set_option maxHeartbeats 4000000 in
set_option maxRecDepth 100000 in
theorem c_X8_evening (D : va_G) (cA : Nat → ClassId) (ax : Nat → Nat) (s : XS) (n : Nat) (p1 : Int32) (p2 : Int32) (p3 : Int32) (r : (Int32 × XS)) (h : F_X8_evening n s p1 p2 p3 = some r) : RW m_X8_evening 2 0 0 D cA [.ref (ax 0), .int p1, .int p2, .int p3] (xW cA ax s) (exq (some (.int r.1)) (xW cA ax r.2)) := by
  refine RW.ofW gy_X8_evening.2.2 (Nat.le_of_ble_eq_true rfl) ?_
  intro l p e sM m below meth c A H locs F hr hlk hnm hK hP hD hS hA hAb ls hl
  have hl : lv_has ls 5 [(0, .ref (ax 0)), (1, .int p1), (2, .int p2), (3, .int p3)] := hl
  unfold F_X8_evening at h
  refine lv_aload_n F.1 F.2.1 (dd D_X8_evening 0 rfl) rfl (lv_at hl 0 rfl) ?_
  refine lv_iload_n F.1 F.2.1 (dd D_X8_evening 1 rfl) rfl (lv_at hl 1 rfl) ?_
  obtain ⟨r1, e2, h⟩ := Option.bind_eq_some_iff.mp h
  refine ro_go (st' := [va_rf (Option.map (fun j => ax (46+2*j)) r1)]) (rV (rest := []) F (c_X8_shelfAt D cA ax s n p1 r1 e2 l) lk_X8_56 (Nat.le_of_ble_eq_true rfl) (preRO hK hS hAb hP) (rcv_8 hK hP (q0 := (0)) (xp_0 cA ax s)) rfl hl rfl (Nat.le_of_ble_eq_true rfl) (dd D_X8_evening 2 rfl) ⟨Nat.le_of_ble_eq_true rfl, Nat.le_of_ble_eq_true rfl⟩) rfl ?_
  cases r1 with
  | none =>
    dsimp only [oM] at h
    refine lv_astoreN (lv' := [(4, .null), (0, .ref (ax 0)), (1, .int p1), (2, .int p2), (3, .int p3)]) F.1 F.2.1 (dd D_X8_evening 3 rfl) hl (Nat.le_of_ble_eq_true rfl) rfl (fun ls hl => ?_)
    refine lv_aloadN F.1 F.2.1 (dd D_X8_evening 4 rfl) (lv_at hl 0 rfl) ?_
    refine lv_ifnullN (tgt := 26) F.1 F.2.1 (dd D_X8_evening 5 rfl) rfl ?_
    refine lv_aload_n F.1 F.2.1 (dd D_X8_evening 12 rfl) rfl (lv_at hl 1 rfl) ?_
    refine lv_bipush (v := (-2 : Int32)) F.1 F.2.1 (dd D_X8_evening 13 rfl) kb_m2 ?_
    obtain ⟨r5, e6, h⟩ := Option.bind_eq_some_iff.mp h
    refine rwe_all (st' := [.int r5.1]) hD hS hA (rV (rest := []) F (c_X8_refuse D cA ax s n (-2 : Int32) r5 e6 l H.size) lk_X8_64 (Nat.le_of_ble_eq_true rfl) (preRW hK hS hAb hP hD) (rcv_8 hK hP (q0 := (0)) (xp_0 cA ax s)) rfl hl rfl (Nat.le_of_ble_eq_true rfl) (dd D_X8_evening 14 rfl) ⟨Nat.le_of_ble_eq_true rfl, Nat.le_of_ble_eq_true rfl⟩) rfl (fun H locs hP hD hS => ?_)
    obtain rfl := Option.some.inj h
    exact rw_i (R := rmOf 2 0 0) F hP hD hS hr hlk ⟨Nat.le_of_ble_eq_true rfl, Nat.le_of_ble_eq_true rfl⟩ ⟨rfl, rfl⟩ (dd D_X8_evening 15 rfl)
  | some k3 =>
    dsimp only [oM] at h
    obtain ⟨hk4, h⟩ := gd_some (b := decide (k3 < 8)) h
    have hk4 := of_decide_eq_true hk4
    refine lv_astore (lv' := [(4, .ref (ax (46+2*k3))), (0, .ref (ax 0)), (1, .int p1), (2, .int p2), (3, .int p3)]) F.1 F.2.1 (dd D_X8_evening 3 rfl) hl (Nat.le_of_ble_eq_true rfl) rfl (fun ls hl => ?_)
    refine lv_aload F.1 F.2.1 (dd D_X8_evening 4 rfl) (lv_at hl 0 rfl) ?_
    refine lv_ifnull F.1 F.2.1 (dd D_X8_evening 5 rfl) ?_
    refine lv_iload_n F.1 F.2.1 (dd D_X8_evening 6 rfl) rfl (lv_at hl 3 rfl) ?_
    refine ro_go (st' := [.int (bI (F_X8_isKind p2))]) (rS (rest := []) F (c_X8_isKind D cA p2 l) lk_X8_109 (Nat.le_of_ble_eq_true rfl) (preRO hK hS hAb (emP)) rfl hl rfl (Nat.le_of_ble_eq_true rfl) (dd D_X8_evening 7 rfl) ⟨Nat.le_of_ble_eq_true rfl, Nat.le_of_ble_eq_true rfl⟩) rfl ?_
    refine x_bif_eq (tgt := 26) F.1 F.2.1 (dd D_X8_evening 8 rfl) rfl h (fun c12 h => ?_) (fun c12 h => ?_)
    · refine lv_aload_n F.1 F.2.1 (dd D_X8_evening 12 rfl) rfl (lv_at hl 1 rfl) ?_
      refine lv_bipush (v := (-2 : Int32)) F.1 F.2.1 (dd D_X8_evening 13 rfl) kb_m2 ?_
      obtain ⟨r7, e8, h⟩ := Option.bind_eq_some_iff.mp h
      refine rwe_all (st' := [.int r7.1]) hD hS hA (rV (rest := []) F (c_X8_refuse D cA ax s n (-2 : Int32) r7 e8 l H.size) lk_X8_64 (Nat.le_of_ble_eq_true rfl) (preRW hK hS hAb hP hD) (rcv_8 hK hP (q0 := (0)) (xp_0 cA ax s)) rfl hl rfl (Nat.le_of_ble_eq_true rfl) (dd D_X8_evening 14 rfl) ⟨Nat.le_of_ble_eq_true rfl, Nat.le_of_ble_eq_true rfl⟩) rfl (fun H locs hP hD hS => ?_)
      obtain rfl := Option.some.inj h
      exact rw_i (R := rmOf 2 0 0) F hP hD hS hr hlk ⟨Nat.le_of_ble_eq_true rfl, Nat.le_of_ble_eq_true rfl⟩ ⟨rfl, rfl⟩ (dd D_X8_evening 15 rfl)
    · refine lv_iload_n F.1 F.2.1 (dd D_X8_evening 9 rfl) rfl (lv_at hl 4 rfl) ?_
      refine ro_go (st' := [.int (bI (F_X8_isDay p3))]) (rS (rest := []) F (c_X8_isDay D cA p3 l) lk_X8_113 (Nat.le_of_ble_eq_true rfl) (preRO hK hS hAb (emP)) rfl hl rfl (Nat.le_of_ble_eq_true rfl) (dd D_X8_evening 10 rfl) ⟨Nat.le_of_ble_eq_true rfl, Nat.le_of_ble_eq_true rfl⟩) rfl ?_
      refine x_bif_ne (tgt := 33) F.1 F.2.1 (dd D_X8_evening 11 rfl) rfl h (fun c11 h => ?_) (fun c11 h => ?_)
      · refine lv_aload F.1 F.2.1 (dd D_X8_evening 16 rfl) (lv_at hl 0 rfl) ?_
        refine lv_iload_n F.1 F.2.1 (dd D_X8_evening 17 rfl) rfl (lv_at hl 3 rfl) ?_
        refine lv_iload_n F.1 F.2.1 (dd D_X8_evening 18 rfl) rfl (lv_at hl 4 rfl) ?_
        refine rwe (V := none) (wc := (shelfW cA (fun i => ax (46+2*k3+i)) (x_sh s k3))) (wc' := (shelfW cA (fun i => ax (46+2*k3+i)) (F_X5_putEvening (x_sh s k3) p2 p3))) (st' := []) (W' := (xW cA ax (x_set_sh s (va_up (x_sh s) k3 (F_X5_putEvening (x_sh s k3) p2 p3))))) hP hD hS hA [46+2*k3, 46+2*k3+1] (jc_sh cA ax s k3 hk4) (nd_sh k3) rfl (rV (rest := []) F (c_X5_putEvening D cA (fun i => ax (46+2*k3+i)) (x_sh s k3) p2 p3 l H.size) lk_X8_116 (Nat.le_of_ble_eq_true rfl) (preRW hK hS hAb (selP (is := [46+2*k3, 46+2*k3+1]) hP (jc_sh cA ax s k3 hk4)) (selD (is := [46+2*k3, 46+2*k3+1]) hD (nd_sh k3) (jc_sh cA ax s k3 hk4))) (rcv_5 hK hP (q0 := (46+2*k3)) (xp_sh cA ax s k3 hk4)) rfl hl rfl (Nat.le_of_ble_eq_true rfl) (dd D_X8_evening 19 rfl) ⟨Nat.le_of_ble_eq_true rfl, Nat.le_of_ble_eq_true rfl⟩) (js_sh cA ax s (F_X5_putEvening (x_sh s k3) p2 p3) k3 hk4) rfl (fun H locs hP hD hS => ?_)
        refine lv_iconst (v := (1 : Int32)) F.1 F.2.1 (dd D_X8_evening 20 rfl) ki_1 ?_
        obtain rfl := Option.some.inj h
        exact rw_i (R := rmOf 2 0 0) F hP hD hS hr hlk ⟨Nat.le_of_ble_eq_true rfl, Nat.le_of_ble_eq_true rfl⟩ ⟨rfl, rfl⟩ (dd D_X8_evening 21 rfl)
      · refine lv_aload_n F.1 F.2.1 (dd D_X8_evening 12 rfl) rfl (lv_at hl 1 rfl) ?_
        refine lv_bipush (v := (-2 : Int32)) F.1 F.2.1 (dd D_X8_evening 13 rfl) kb_m2 ?_
        obtain ⟨r9, e10, h⟩ := Option.bind_eq_some_iff.mp h
        refine rwe_all (st' := [.int r9.1]) hD hS hA (rV (rest := []) F (c_X8_refuse D cA ax s n (-2 : Int32) r9 e10 l H.size) lk_X8_64 (Nat.le_of_ble_eq_true rfl) (preRW hK hS hAb hP hD) (rcv_8 hK hP (q0 := (0)) (xp_0 cA ax s)) rfl hl rfl (Nat.le_of_ble_eq_true rfl) (dd D_X8_evening 14 rfl) ⟨Nat.le_of_ble_eq_true rfl, Nat.le_of_ble_eq_true rfl⟩) rfl (fun H locs hP hD hS => ?_)
        obtain rfl := Option.some.inj h
        exact rw_i (R := rmOf 2 0 0) F hP hD hS hr hlk ⟨Nat.le_of_ble_eq_true rfl, Nat.le_of_ble_eq_true rfl⟩ ⟨rfl, rfl⟩ (dd D_X8_evening 15 rfl)
def F_X8_says (n : Nat) (s : XS) (p1 : Int32) (p2 : Int32) : Option (Int32 × XS) := (((F_X8_shelfAt n s p1)).bind fun r1 => oM r1 ((((F_X8_refuse n s (-2 : Int32))).bind fun r5 => some (r5.1, r5.2))) (fun k3 => gd (decide (k3 < 8)) (bf (F_X8_isKind p2) (bf (F_X5_isBare (x_sh s k3)) ((((F_X8_refuse n s (-4 : Int32))).bind fun r15 => some (r15.1, r15.2))) (bf (F_X5_isRow (x_sh s k3)) ((((F_X8_refuse n s (-3 : Int32))).bind fun r7 => some (r7.1, r7.2))) (bf (F_X8_isUnder (F_X5_kind (x_sh s k3)) p2) ((((F_X2_saysOf n s (F_X5_day (x_sh s k3)) p2)).bind fun r9 => some (r9, s))) ((((F_X8_refuse n s (-3 : Int32))).bind fun r11 => some (r11.1, r11.2)))))) ((((F_X8_refuse n s (-2 : Int32))).bind fun r18 => some (r18.1, r18.2))))))
set_option maxHeartbeats 4000000 in
set_option maxRecDepth 100000 in
theorem c_X8_says (D : va_G) (cA : Nat → ClassId) (ax : Nat → Nat) (s : XS) (n : Nat) (p1 : Int32) (p2 : Int32) (r : (Int32 × XS)) (h : F_X8_says n s p1 p2 = some r) : RW m_X8_says 5 0 0 D cA [.ref (ax 0), .int p1, .int p2] (xW cA ax s) (exq (some (.int r.1)) (xW cA ax r.2)) := by
  refine RW.ofW gy_X8_says.2.2 (Nat.le_of_ble_eq_true rfl) ?_
  intro l p e sM m below meth c A H locs F hr hlk hnm hK hP hD hS hA hAb ls hl
  have hl : lv_has ls 4 [(0, .ref (ax 0)), (1, .int p1), (2, .int p2)] := hl
  unfold F_X8_says at h
  refine lv_aload_n F.1 F.2.1 (dd D_X8_says 0 rfl) rfl (lv_at hl 0 rfl) ?_
  refine lv_iload_n F.1 F.2.1 (dd D_X8_says 1 rfl) rfl (lv_at hl 1 rfl) ?_
  obtain ⟨r1, e2, h⟩ := Option.bind_eq_some_iff.mp h
  refine ro_go (st' := [va_rf (Option.map (fun j => ax (46+2*j)) r1)]) (rV (rest := []) F (c_X8_shelfAt D cA ax s n p1 r1 e2 l) lk_X8_56 (Nat.le_of_ble_eq_true rfl) (preRO hK hS hAb hP) (rcv_8 hK hP (q0 := (0)) (xp_0 cA ax s)) rfl hl rfl (Nat.le_of_ble_eq_true rfl) (dd D_X8_says 2 rfl) ⟨Nat.le_of_ble_eq_true rfl, Nat.le_of_ble_eq_true rfl⟩) rfl ?_
  cases r1 with
  | none =>
    dsimp only [oM] at h
    refine lv_astore_nN (lv' := [(3, .null), (0, .ref (ax 0)), (1, .int p1), (2, .int p2)]) F.1 F.2.1 (dd D_X8_says 3 rfl) rfl hl (Nat.le_of_ble_eq_true rfl) rfl (fun ls hl => ?_)
    refine lv_aload_nN F.1 F.2.1 (dd D_X8_says 4 rfl) rfl (lv_at hl 0 rfl) ?_
    refine lv_ifnullN (tgt := 17) F.1 F.2.1 (dd D_X8_says 5 rfl) rfl ?_
    refine lv_aload_n F.1 F.2.1 (dd D_X8_says 9 rfl) rfl (lv_at hl 1 rfl) ?_
    refine lv_bipush (v := (-2 : Int32)) F.1 F.2.1 (dd D_X8_says 10 rfl) kb_m2 ?_
    obtain ⟨r5, e6, h⟩ := Option.bind_eq_some_iff.mp h
    refine rwe_all (st' := [.int r5.1]) hD hS hA (rV (rest := []) F (c_X8_refuse D cA ax s n (-2 : Int32) r5 e6 l H.size) lk_X8_64 (Nat.le_of_ble_eq_true rfl) (preRW hK hS hAb hP hD) (rcv_8 hK hP (q0 := (0)) (xp_0 cA ax s)) rfl hl rfl (Nat.le_of_ble_eq_true rfl) (dd D_X8_says 11 rfl) ⟨Nat.le_of_ble_eq_true rfl, Nat.le_of_ble_eq_true rfl⟩) rfl (fun H locs hP hD hS => ?_)
    obtain rfl := Option.some.inj h
    exact rw_i (R := rmOf 5 0 0) F hP hD hS hr hlk ⟨Nat.le_of_ble_eq_true rfl, Nat.le_of_ble_eq_true rfl⟩ ⟨rfl, rfl⟩ (dd D_X8_says 12 rfl)
  | some k3 =>
    dsimp only [oM] at h
    obtain ⟨hk4, h⟩ := gd_some (b := decide (k3 < 8)) h
    have hk4 := of_decide_eq_true hk4
    refine lv_astore_n (lv' := [(3, .ref (ax (46+2*k3))), (0, .ref (ax 0)), (1, .int p1), (2, .int p2)]) F.1 F.2.1 (dd D_X8_says 3 rfl) rfl hl (Nat.le_of_ble_eq_true rfl) rfl (fun ls hl => ?_)
    refine lv_aload_n F.1 F.2.1 (dd D_X8_says 4 rfl) rfl (lv_at hl 0 rfl) ?_
    refine lv_ifnull F.1 F.2.1 (dd D_X8_says 5 rfl) ?_
    refine lv_iload_n F.1 F.2.1 (dd D_X8_says 6 rfl) rfl (lv_at hl 3 rfl) ?_
    refine ro_go (st' := [.int (bI (F_X8_isKind p2))]) (rS (rest := []) F (c_X8_isKind D cA p2 l) lk_X8_109 (Nat.le_of_ble_eq_true rfl) (preRO hK hS hAb (emP)) rfl hl rfl (Nat.le_of_ble_eq_true rfl) (dd D_X8_says 7 rfl) ⟨Nat.le_of_ble_eq_true rfl, Nat.le_of_ble_eq_true rfl⟩) rfl ?_
    refine x_bif_ne (tgt := 24) F.1 F.2.1 (dd D_X8_says 8 rfl) rfl h (fun c20 h => ?_) (fun c20 h => ?_)
    · refine lv_aload_n F.1 F.2.1 (dd D_X8_says 13 rfl) rfl (lv_at hl 0 rfl) ?_
      refine ro_go (st' := [.int (bI (F_X5_isBare (x_sh s k3)))]) (rV (rest := []) F (c_X5_isBare D cA (fun i => ax (46+2*k3+i)) (x_sh s k3) l) lk_X8_91 (Nat.le_of_ble_eq_true rfl) (preRO hK hS hAb (pg_sh hk4 hP)) (rcv_5 hK hP (q0 := (46+2*k3)) (xp_sh cA ax s k3 hk4)) rfl hl rfl (Nat.le_of_ble_eq_true rfl) (dd D_X8_says 14 rfl) ⟨Nat.le_of_ble_eq_true rfl, Nat.le_of_ble_eq_true rfl⟩) rfl ?_
      refine x_bif_eq (tgt := 38) F.1 F.2.1 (dd D_X8_says 15 rfl) rfl h (fun c17 h => ?_) (fun c17 h => ?_)
      · refine lv_aload_n F.1 F.2.1 (dd D_X8_says 20 rfl) rfl (lv_at hl 0 rfl) ?_
        refine ro_go (st' := [.int (bI (F_X5_isRow (x_sh s k3)))]) (rV (rest := []) F (c_X5_isRow D cA (fun i => ax (46+2*k3+i)) (x_sh s k3) l) lk_X8_98 (Nat.le_of_ble_eq_true rfl) (preRO hK hS hAb (pg_sh hk4 hP)) (rcv_5 hK hP (q0 := (46+2*k3)) (xp_sh cA ax s k3 hk4)) rfl hl rfl (Nat.le_of_ble_eq_true rfl) (dd D_X8_says 21 rfl) ⟨Nat.le_of_ble_eq_true rfl, Nat.le_of_ble_eq_true rfl⟩) rfl ?_
        refine x_bif_ne (tgt := 56) F.1 F.2.1 (dd D_X8_says 22 rfl) rfl h (fun c14 h => ?_) (fun c14 h => ?_)
        · refine lv_aload_n F.1 F.2.1 (dd D_X8_says 28 rfl) rfl (lv_at hl 1 rfl) ?_
          refine lv_bipush (v := (-3 : Int32)) F.1 F.2.1 (dd D_X8_says 29 rfl) kb_m3 ?_
          obtain ⟨r7, e8, h⟩ := Option.bind_eq_some_iff.mp h
          refine rwe_all (st' := [.int r7.1]) hD hS hA (rV (rest := []) F (c_X8_refuse D cA ax s n (-3 : Int32) r7 e8 l H.size) lk_X8_64 (Nat.le_of_ble_eq_true rfl) (preRW hK hS hAb hP hD) (rcv_8 hK hP (q0 := (0)) (xp_0 cA ax s)) rfl hl rfl (Nat.le_of_ble_eq_true rfl) (dd D_X8_says 30 rfl) ⟨Nat.le_of_ble_eq_true rfl, Nat.le_of_ble_eq_true rfl⟩) rfl (fun H locs hP hD hS => ?_)
          obtain rfl := Option.some.inj h
          exact rw_i (R := rmOf 5 0 0) F hP hD hS hr hlk ⟨Nat.le_of_ble_eq_true rfl, Nat.le_of_ble_eq_true rfl⟩ ⟨rfl, rfl⟩ (dd D_X8_says 31 rfl)
        · refine lv_aload_n F.1 F.2.1 (dd D_X8_says 23 rfl) rfl (lv_at hl 0 rfl) ?_
          refine ro_go (st' := [.int (F_X5_kind (x_sh s k3))]) (rV (rest := []) F (c_X5_kind D cA (fun i => ax (46+2*k3+i)) (x_sh s k3) l) lk_X8_119 (Nat.le_of_ble_eq_true rfl) (preRO hK hS hAb (pg_sh hk4 hP)) (rcv_5 hK hP (q0 := (46+2*k3)) (xp_sh cA ax s k3 hk4)) rfl hl rfl (Nat.le_of_ble_eq_true rfl) (dd D_X8_says 24 rfl) ⟨Nat.le_of_ble_eq_true rfl, Nat.le_of_ble_eq_true rfl⟩) rfl ?_
          refine lv_iload_n F.1 F.2.1 (dd D_X8_says 25 rfl) rfl (lv_at hl 3 rfl) ?_
          refine ro_go (st' := [.int (bI (F_X8_isUnder (F_X5_kind (x_sh s k3)) p2))]) (rS (rest := []) F (c_X8_isUnder D cA (F_X5_kind (x_sh s k3)) p2 l) lk_X8_122 (Nat.le_of_ble_eq_true rfl) (preRO hK hS hAb (emP)) rfl hl rfl (Nat.le_of_ble_eq_true rfl) (dd D_X8_says 26 rfl) ⟨Nat.le_of_ble_eq_true rfl, Nat.le_of_ble_eq_true rfl⟩) rfl ?_
          refine x_bif_ne (tgt := 63) F.1 F.2.1 (dd D_X8_says 27 rfl) rfl h (fun c13 h => ?_) (fun c13 h => ?_)
          · refine lv_aload_n F.1 F.2.1 (dd D_X8_says 32 rfl) rfl (lv_at hl 1 rfl) ?_
            refine getF F hK hP lf_X8_27 (0) (xp_0 cA ax s) rfl (dd D_X8_says 33 rfl) ?_
            refine lv_aload_n F.1 F.2.1 (dd D_X8_says 34 rfl) rfl (lv_at hl 0 rfl) ?_
            refine ro_go (st' := [.int (F_X5_day (x_sh s k3)), .ref (ax 40)]) (rV (rest := [.ref (ax 40)]) F (c_X5_day D cA (fun i => ax (46+2*k3+i)) (x_sh s k3) l) lk_X8_125 (Nat.le_of_ble_eq_true rfl) (preRO hK hS hAb (pg_sh hk4 hP)) (rcv_5 hK hP (q0 := (46+2*k3)) (xp_sh cA ax s k3 hk4)) rfl hl rfl (Nat.le_of_ble_eq_true rfl) (dd D_X8_says 35 rfl) ⟨Nat.le_of_ble_eq_true rfl, Nat.le_of_ble_eq_true rfl⟩) rfl ?_
            refine lv_iload_n F.1 F.2.1 (dd D_X8_says 36 rfl) rfl (lv_at hl 3 rfl) ?_
            obtain ⟨r9, e10, h⟩ := Option.bind_eq_some_iff.mp h
            refine ro_go (st' := [.int r9]) (rV (rest := []) F (c_X2_saysOf D cA ax s n (F_X5_day (x_sh s k3)) p2 r9 e10 l) lk_X8_128 (Nat.le_of_ble_eq_true rfl) (preRO hK hS hAb hP) (rcv_2 hK hP (q0 := (40)) (xp_40 cA ax s)) rfl hl rfl (Nat.le_of_ble_eq_true rfl) (dd D_X8_says 37 rfl) ⟨Nat.le_of_ble_eq_true rfl, Nat.le_of_ble_eq_true rfl⟩) rfl ?_
            obtain rfl := Option.some.inj h
            exact rw_i (R := rmOf 5 0 0) F hP hD hS hr hlk ⟨Nat.le_of_ble_eq_true rfl, Nat.le_of_ble_eq_true rfl⟩ ⟨rfl, rfl⟩ (dd D_X8_says 38 rfl)
          · refine lv_aload_n F.1 F.2.1 (dd D_X8_says 28 rfl) rfl (lv_at hl 1 rfl) ?_
            refine lv_bipush (v := (-3 : Int32)) F.1 F.2.1 (dd D_X8_says 29 rfl) kb_m3 ?_
            obtain ⟨r11, e12, h⟩ := Option.bind_eq_some_iff.mp h
            refine rwe_all (st' := [.int r11.1]) hD hS hA (rV (rest := []) F (c_X8_refuse D cA ax s n (-3 : Int32) r11 e12 l H.size) lk_X8_64 (Nat.le_of_ble_eq_true rfl) (preRW hK hS hAb hP hD) (rcv_8 hK hP (q0 := (0)) (xp_0 cA ax s)) rfl hl rfl (Nat.le_of_ble_eq_true rfl) (dd D_X8_says 30 rfl) ⟨Nat.le_of_ble_eq_true rfl, Nat.le_of_ble_eq_true rfl⟩) rfl (fun H locs hP hD hS => ?_)
            obtain rfl := Option.some.inj h
            exact rw_i (R := rmOf 5 0 0) F hP hD hS hr hlk ⟨Nat.le_of_ble_eq_true rfl, Nat.le_of_ble_eq_true rfl⟩ ⟨rfl, rfl⟩ (dd D_X8_says 31 rfl)
      · refine lv_aload_n F.1 F.2.1 (dd D_X8_says 16 rfl) rfl (lv_at hl 1 rfl) ?_
        refine lv_bipush (v := (-4 : Int32)) F.1 F.2.1 (dd D_X8_says 17 rfl) kb_m4 ?_
        obtain ⟨r15, e16, h⟩ := Option.bind_eq_some_iff.mp h
        refine rwe_all (st' := [.int r15.1]) hD hS hA (rV (rest := []) F (c_X8_refuse D cA ax s n (-4 : Int32) r15 e16 l H.size) lk_X8_64 (Nat.le_of_ble_eq_true rfl) (preRW hK hS hAb hP hD) (rcv_8 hK hP (q0 := (0)) (xp_0 cA ax s)) rfl hl rfl (Nat.le_of_ble_eq_true rfl) (dd D_X8_says 18 rfl) ⟨Nat.le_of_ble_eq_true rfl, Nat.le_of_ble_eq_true rfl⟩) rfl (fun H locs hP hD hS => ?_)
        obtain rfl := Option.some.inj h
        exact rw_i (R := rmOf 5 0 0) F hP hD hS hr hlk ⟨Nat.le_of_ble_eq_true rfl, Nat.le_of_ble_eq_true rfl⟩ ⟨rfl, rfl⟩ (dd D_X8_says 19 rfl)
    · refine lv_aload_n F.1 F.2.1 (dd D_X8_says 9 rfl) rfl (lv_at hl 1 rfl) ?_
      refine lv_bipush (v := (-2 : Int32)) F.1 F.2.1 (dd D_X8_says 10 rfl) kb_m2 ?_
      obtain ⟨r18, e19, h⟩ := Option.bind_eq_some_iff.mp h
      refine rwe_all (st' := [.int r18.1]) hD hS hA (rV (rest := []) F (c_X8_refuse D cA ax s n (-2 : Int32) r18 e19 l H.size) lk_X8_64 (Nat.le_of_ble_eq_true rfl) (preRW hK hS hAb hP hD) (rcv_8 hK hP (q0 := (0)) (xp_0 cA ax s)) rfl hl rfl (Nat.le_of_ble_eq_true rfl) (dd D_X8_says 11 rfl) ⟨Nat.le_of_ble_eq_true rfl, Nat.le_of_ble_eq_true rfl⟩) rfl (fun H locs hP hD hS => ?_)
      obtain rfl := Option.some.inj h
      exact rw_i (R := rmOf 5 0 0) F hP hD hS hr hlk ⟨Nat.le_of_ble_eq_true rfl, Nat.le_of_ble_eq_true rfl⟩ ⟨rfl, rfl⟩ (dd D_X8_says 12 rfl)
def F_X8_isSo (n : Nat) (s : XS) (p1 : Int32) : Option (Int32 × XS) := (((F_X8_shelfAt n s p1)).bind fun r1 => oM r1 ((((F_X8_refuse n s (-2 : Int32))).bind fun r5 => some (r5.1, r5.2))) (fun k3 => gd (decide (k3 < 8)) (bf (F_X5_isBare (x_sh s k3)) ((((F_X8_refuse n s (-4 : Int32))).bind fun r14 => some (r14.1, r14.2))) (bf (F_X5_isRow (x_sh s k3)) ((((F_X8_refuse n s (-3 : Int32))).bind fun r11 => some (r11.1, r11.2))) ((((F_X2_fits n s (F_X5_kind (x_sh s k3)) (0 : Int32) (0 : Int32) (0 : Int32) none (F_X5_day (x_sh s k3)))).bind fun r8 => bf r8 (some ((1 : Int32), s)) (some ((0 : Int32), s))))))))
set_option maxHeartbeats 4000000 in
set_option maxRecDepth 100000 in
theorem c_X8_isSo (D : va_G) (cA : Nat → ClassId) (ax : Nat → Nat) (s : XS) (n : Nat) (p1 : Int32) (r : (Int32 × XS)) (h : F_X8_isSo n s p1 = some r) : RW m_X8_isSo 5 1 5 D cA [.ref (ax 0), .int p1] (xW cA ax s) (exq (some (.int r.1)) (xW cA ax r.2)) := by
  refine RW.ofW gy_X8_isSo.2.2 (Nat.le_of_ble_eq_true rfl) ?_
  intro l p e sM m below meth c A H locs F hr hlk hnm hK hP hD hS hA hAb ls hl
  have hl : lv_has ls 3 [(0, .ref (ax 0)), (1, .int p1)] := hl
  unfold F_X8_isSo at h
  refine lv_aload_n F.1 F.2.1 (dd D_X8_isSo 0 rfl) rfl (lv_at hl 0 rfl) ?_
  refine lv_iload_n F.1 F.2.1 (dd D_X8_isSo 1 rfl) rfl (lv_at hl 1 rfl) ?_
  obtain ⟨r1, e2, h⟩ := Option.bind_eq_some_iff.mp h
  refine ro_go (st' := [va_rf (Option.map (fun j => ax (46+2*j)) r1)]) (rV (rest := []) F (c_X8_shelfAt D cA ax s n p1 r1 e2 l) lk_X8_56 (Nat.le_of_ble_eq_true rfl) (preRO hK hS hAb hP) (rcv_8 hK hP (q0 := (0)) (xp_0 cA ax s)) rfl hl rfl (Nat.le_of_ble_eq_true rfl) (dd D_X8_isSo 2 rfl) ⟨Nat.le_of_ble_eq_true rfl, Nat.le_of_ble_eq_true rfl⟩) rfl ?_
  cases r1 with
  | none =>
    dsimp only [oM] at h
    refine lv_astore_nN (lv' := [(2, .null), (0, .ref (ax 0)), (1, .int p1)]) F.1 F.2.1 (dd D_X8_isSo 3 rfl) rfl hl (Nat.le_of_ble_eq_true rfl) rfl (fun ls hl => ?_)
    refine lv_aload_nN F.1 F.2.1 (dd D_X8_isSo 4 rfl) rfl (lv_at hl 0 rfl) ?_
    refine lv_ifnonnullN F.1 F.2.1 (dd D_X8_isSo 5 rfl) ?_
    refine lv_aload_n F.1 F.2.1 (dd D_X8_isSo 6 rfl) rfl (lv_at hl 1 rfl) ?_
    refine lv_bipush (v := (-2 : Int32)) F.1 F.2.1 (dd D_X8_isSo 7 rfl) kb_m2 ?_
    obtain ⟨r5, e6, h⟩ := Option.bind_eq_some_iff.mp h
    refine rwe_all (st' := [.int r5.1]) hD hS hA (rV (rest := []) F (c_X8_refuse D cA ax s n (-2 : Int32) r5 e6 l H.size) lk_X8_64 (Nat.le_of_ble_eq_true rfl) (preRW hK hS hAb hP hD) (rcv_8 hK hP (q0 := (0)) (xp_0 cA ax s)) rfl hl rfl (Nat.le_of_ble_eq_true rfl) (dd D_X8_isSo 8 rfl) ⟨Nat.le_of_ble_eq_true rfl, Nat.le_of_ble_eq_true rfl⟩) rfl (fun H locs hP hD hS => ?_)
    obtain rfl := Option.some.inj h
    exact rw_i (R := rmOf 5 1 5) F hP hD hS hr hlk ⟨Nat.le_of_ble_eq_true rfl, Nat.le_of_ble_eq_true rfl⟩ ⟨rfl, rfl⟩ (dd D_X8_isSo 9 rfl)
  | some k3 =>
    dsimp only [oM] at h
    obtain ⟨hk4, h⟩ := gd_some (b := decide (k3 < 8)) h
    have hk4 := of_decide_eq_true hk4
    refine lv_astore_n (lv' := [(2, .ref (ax (46+2*k3))), (0, .ref (ax 0)), (1, .int p1)]) F.1 F.2.1 (dd D_X8_isSo 3 rfl) rfl hl (Nat.le_of_ble_eq_true rfl) rfl (fun ls hl => ?_)
    refine lv_aload_n F.1 F.2.1 (dd D_X8_isSo 4 rfl) rfl (lv_at hl 0 rfl) ?_
    refine lv_ifnonnull (tgt := 17) F.1 F.2.1 (dd D_X8_isSo 5 rfl) rfl ?_
    refine lv_aload_n F.1 F.2.1 (dd D_X8_isSo 10 rfl) rfl (lv_at hl 0 rfl) ?_
    refine ro_go (st' := [.int (bI (F_X5_isBare (x_sh s k3)))]) (rV (rest := []) F (c_X5_isBare D cA (fun i => ax (46+2*k3+i)) (x_sh s k3) l) lk_X8_91 (Nat.le_of_ble_eq_true rfl) (preRO hK hS hAb (pg_sh hk4 hP)) (rcv_5 hK hP (q0 := (46+2*k3)) (xp_sh cA ax s k3 hk4)) rfl hl rfl (Nat.le_of_ble_eq_true rfl) (dd D_X8_isSo 11 rfl) ⟨Nat.le_of_ble_eq_true rfl, Nat.le_of_ble_eq_true rfl⟩) rfl ?_
    refine x_bif_eq (tgt := 31) F.1 F.2.1 (dd D_X8_isSo 12 rfl) rfl h (fun c16 h => ?_) (fun c16 h => ?_)
    · refine lv_aload_n F.1 F.2.1 (dd D_X8_isSo 17 rfl) rfl (lv_at hl 0 rfl) ?_
      refine ro_go (st' := [.int (bI (F_X5_isRow (x_sh s k3)))]) (rV (rest := []) F (c_X5_isRow D cA (fun i => ax (46+2*k3+i)) (x_sh s k3) l) lk_X8_98 (Nat.le_of_ble_eq_true rfl) (preRO hK hS hAb (pg_sh hk4 hP)) (rcv_5 hK hP (q0 := (46+2*k3)) (xp_sh cA ax s k3 hk4)) rfl hl rfl (Nat.le_of_ble_eq_true rfl) (dd D_X8_isSo 18 rfl) ⟨Nat.le_of_ble_eq_true rfl, Nat.le_of_ble_eq_true rfl⟩) rfl ?_
      refine x_bif_eq (tgt := 45) F.1 F.2.1 (dd D_X8_isSo 19 rfl) rfl h (fun c13 h => ?_) (fun c13 h => ?_)
      · refine lv_aload_n F.1 F.2.1 (dd D_X8_isSo 24 rfl) rfl (lv_at hl 1 rfl) ?_
        refine getF F hK hP lf_X8_27 (0) (xp_0 cA ax s) rfl (dd D_X8_isSo 25 rfl) ?_
        refine newO F hK hP hD hS hA ln_X8_132 (Nat.le_of_ble_eq_true rfl) (Nat.le_of_ble_eq_true rfl) (dd D_X8_isSo 26 rfl) (fun q7 H hP hD hS => ?_)
        refine lv_dup F.1 F.2.1 (dd D_X8_isSo 27 rfl) rfl ?_
        refine lv_aload_n F.1 F.2.1 (dd D_X8_isSo 28 rfl) rfl (lv_at hl 0 rfl) ?_
        refine ro_go (st' := [.int (F_X5_kind (x_sh s k3)), .ref (q7), .ref (q7), .ref (ax 40)]) (rV (rest := [.ref (q7), .ref (q7), .ref (ax 40)]) F (c_X5_kind D cA (fun i => ax (46+2*k3+i)) (x_sh s k3) l) lk_X8_119 (Nat.le_of_ble_eq_true rfl) (preRO hK hS hAb (pg_sh hk4 (preP hP))) (rcv_5 hK hP (q0 := (46+2*k3)) (gL (xp_sh cA ax s k3 hk4))) rfl hl rfl (Nat.le_of_ble_eq_true rfl) (dd D_X8_isSo 29 rfl) ⟨Nat.le_of_ble_eq_true rfl, Nat.le_of_ble_eq_true rfl⟩) rfl ?_
        refine rwe (V := none) (wc := [(q7, .inr (4, [.int (0 : Int32), .int (0 : Int32), .int (0 : Int32), .int (0 : Int32), .null]))]) (wc' := [(q7, .inr (4, [.int (F_X5_kind (x_sh s k3)), .int (0 : Int32), .int (0 : Int32), .int (0 : Int32), .null]))]) (st' := [.ref (q7), .ref (ax 40)]) (W' := (xW cA ax s) ++ [(q7, .inr (4, [.int (F_X5_kind (x_sh s k3)), .int (0 : Int32), .int (0 : Int32), .int (0 : Int32), .null]))]) hP hD hS hA [63] (jc_last (xp_len cA ax s)) (Nat_nd rfl) rfl (rI (rest := [.ref (q7), .ref (ax 40)]) F (c_X4_init_ D cA q7 (F_X5_kind (x_sh s k3)) l H.size) lk_X8_134 (Nat.le_of_ble_eq_true rfl) (preRW hK hS hAb (selP hP (jc_last (xp_len cA ax s))) (selD hD (Nat_nd rfl) (jc_last (xp_len cA ax s)))) rfl hl rfl (Nat.le_of_ble_eq_true rfl) (dd D_X8_isSo 30 rfl) ⟨Nat.le_of_ble_eq_true rfl, Nat.le_of_ble_eq_true rfl⟩) (js_last (xp_len cA ax s)) rfl (fun H locs hP hD hS => ?_)
        refine lv_aload_n F.1 F.2.1 (dd D_X8_isSo 31 rfl) rfl (lv_at hl 0 rfl) ?_
        refine ro_go (st' := [.int (F_X5_day (x_sh s k3)), .ref (q7), .ref (ax 40)]) (rV (rest := [.ref (q7), .ref (ax 40)]) F (c_X5_day D cA (fun i => ax (46+2*k3+i)) (x_sh s k3) l) lk_X8_125 (Nat.le_of_ble_eq_true rfl) (preRO hK hS hAb (pg_sh hk4 (preP hP))) (rcv_5 hK hP (q0 := (46+2*k3)) (gL (xp_sh cA ax s k3 hk4))) rfl hl rfl (Nat.le_of_ble_eq_true rfl) (dd D_X8_isSo 32 rfl) ⟨Nat.le_of_ble_eq_true rfl, Nat.le_of_ble_eq_true rfl⟩) rfl ?_
        obtain ⟨r8, e9, h⟩ := Option.bind_eq_some_iff.mp h
        refine ro_go (st' := [.int (bI r8)]) (rV (rest := []) F (c_X2_fits D cA ax s q7 (F_X5_kind (x_sh s k3)) (0 : Int32) (0 : Int32) (0 : Int32) none n (F_X5_day (x_sh s k3)) r8 e9 l) lk_X8_137 (Nat.le_of_ble_eq_true rfl) (preRO hK hS hAb hP) (rcv_2 hK hP (q0 := (40)) (gL (xp_40 cA ax s))) rfl hl rfl (Nat.le_of_ble_eq_true rfl) (dd D_X8_isSo 33 rfl) ⟨Nat.le_of_ble_eq_true rfl, Nat.le_of_ble_eq_true rfl⟩) rfl ?_
        refine x_bif_eq (tgt := 74) F.1 F.2.1 (dd D_X8_isSo 34 rfl) rfl h (fun c10 h => ?_) (fun c10 h => ?_)
        · refine lv_iconst (v := (0 : Int32)) F.1 F.2.1 (dd D_X8_isSo 37 rfl) ki_0 ?_
          have hP := preP hP
          have hD := preD hD
          obtain rfl := Option.some.inj h
          exact rw_i (R := rmOf 5 1 5) F hP hD hS hr hlk ⟨Nat.le_of_ble_eq_true rfl, Nat.le_of_ble_eq_true rfl⟩ ⟨rfl, rfl⟩ (dd D_X8_isSo 38 rfl)
        · refine lv_iconst (v := (1 : Int32)) F.1 F.2.1 (dd D_X8_isSo 35 rfl) ki_1 ?_
          refine lv_goto (tgt := 75) F.1 F.2.1 (dd D_X8_isSo 36 rfl) rfl ?_
          have hP := preP hP
          have hD := preD hD
          obtain rfl := Option.some.inj h
          exact rw_i (R := rmOf 5 1 5) F hP hD hS hr hlk ⟨Nat.le_of_ble_eq_true rfl, Nat.le_of_ble_eq_true rfl⟩ ⟨rfl, rfl⟩ (dd D_X8_isSo 38 rfl)
      · refine lv_aload_n F.1 F.2.1 (dd D_X8_isSo 20 rfl) rfl (lv_at hl 1 rfl) ?_
        refine lv_bipush (v := (-3 : Int32)) F.1 F.2.1 (dd D_X8_isSo 21 rfl) kb_m3 ?_
        obtain ⟨r11, e12, h⟩ := Option.bind_eq_some_iff.mp h
        refine rwe_all (st' := [.int r11.1]) hD hS hA (rV (rest := []) F (c_X8_refuse D cA ax s n (-3 : Int32) r11 e12 l H.size) lk_X8_64 (Nat.le_of_ble_eq_true rfl) (preRW hK hS hAb hP hD) (rcv_8 hK hP (q0 := (0)) (xp_0 cA ax s)) rfl hl rfl (Nat.le_of_ble_eq_true rfl) (dd D_X8_isSo 22 rfl) ⟨Nat.le_of_ble_eq_true rfl, Nat.le_of_ble_eq_true rfl⟩) rfl (fun H locs hP hD hS => ?_)
        obtain rfl := Option.some.inj h
        exact rw_i (R := rmOf 5 1 5) F hP hD hS hr hlk ⟨Nat.le_of_ble_eq_true rfl, Nat.le_of_ble_eq_true rfl⟩ ⟨rfl, rfl⟩ (dd D_X8_isSo 23 rfl)
    · refine lv_aload_n F.1 F.2.1 (dd D_X8_isSo 13 rfl) rfl (lv_at hl 1 rfl) ?_
      refine lv_bipush (v := (-4 : Int32)) F.1 F.2.1 (dd D_X8_isSo 14 rfl) kb_m4 ?_
      obtain ⟨r14, e15, h⟩ := Option.bind_eq_some_iff.mp h
      refine rwe_all (st' := [.int r14.1]) hD hS hA (rV (rest := []) F (c_X8_refuse D cA ax s n (-4 : Int32) r14 e15 l H.size) lk_X8_64 (Nat.le_of_ble_eq_true rfl) (preRW hK hS hAb hP hD) (rcv_8 hK hP (q0 := (0)) (xp_0 cA ax s)) rfl hl rfl (Nat.le_of_ble_eq_true rfl) (dd D_X8_isSo 15 rfl) ⟨Nat.le_of_ble_eq_true rfl, Nat.le_of_ble_eq_true rfl⟩) rfl (fun H locs hP hD hS => ?_)
      obtain rfl := Option.some.inj h
      exact rw_i (R := rmOf 5 1 5) F hP hD hS hr hlk ⟨Nat.le_of_ble_eq_true rfl, Nat.le_of_ble_eq_true rfl⟩ ⟨rfl, rfl⟩ (dd D_X8_isSo 16 rfl)
