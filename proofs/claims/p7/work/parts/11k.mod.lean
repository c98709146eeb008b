set_option maxHeartbeats 4000000 in
set_option maxRecDepth 100000 in
theorem c_X9_goesBy (D : va_G) (cA : Nat → ClassId) (am : Nat → Nat) (s : MS) (n : Nat)  (r : (Int32 × MS)) (h : F_X9_goesBy n s = some r) : RW m_X9_goesBy 6 0 0 D cA [.ref (am 0)] (mW cA am s) (exq (some (.int r.1)) (mW cA am r.2)) := by
  refine RW.ofW gy_X9_goesBy.2.2 (Nat.le_of_ble_eq_true rfl) ?_
  intro l p e sM m below meth c A H locs F hr hlk hnm hK hP hD hS hA hAb ls hl
  have hl : lv_has ls 2 [(0, .ref (am 0))] := hl
  unfold F_X9_goesBy at h
  refine lv_aload_n F.1 F.2.1 (dd D_X9_goesBy 0 rfl) rfl (lv_at hl 0 rfl) ?_
  refine lv_bipush (v := (10 : Int32)) F.1 F.2.1 (dd D_X9_goesBy 1 rfl) kb_10 ?_
  refine rwe_all (st' := [.int (F_X9_below s (10 : Int32)).1]) hD hS hA (rV (rest := []) F (c_X9_below D cA am s (10 : Int32) kd_10 l H.size) lk_X9_333 (Nat.le_of_ble_eq_true rfl) (preRW hK hS hAb hP hD) (rcv_9 hK hP (q0 := (0)) (mp_0 cA am s)) rfl hl rfl (Nat.le_of_ble_eq_true rfl) (dd D_X9_goesBy 2 rfl) ⟨Nat.le_of_ble_eq_true rfl, Nat.le_of_ble_eq_true rfl⟩) rfl (fun H locs hP hD hS => ?_)
  refine lv_aload_n F.1 F.2.1 (dd D_X9_goesBy 3 rfl) rfl (lv_at hl 0 rfl) ?_
  refine getF F hK hP lf_X9_40 (0) (mp_0 cA am (F_X9_below s (10 : Int32)).2) rfl (dd D_X9_goesBy 4 rfl) ?_
  refine lv_iconst (v := (3 : Int32)) F.1 F.2.1 (dd D_X9_goesBy 5 rfl) ki_3 ?_
  refine aldI F hK hP (18) (mp_18 cA am (F_X9_below s (10 : Int32)).2) h (dd D_X9_goesBy 6 rfl) (fun z1 h => ?_)
  refine x_icmp_lt (tgt := 19) F.1 F.2.1 (dd D_X9_goesBy 7 rfl) rfl h (fun c2 h => ?_) (fun c2 h => ?_)
  · refine lv_iconst (v := (0 : Int32)) F.1 F.2.1 (dd D_X9_goesBy 10 rfl) ki_0 ?_
    refine lv_istore_n (lv' := [(1, .int (0 : Int32)), (0, .ref (am 0))]) F.1 F.2.1 (dd D_X9_goesBy 11 rfl) rfl hl (Nat.le_of_ble_eq_true rfl) rfl (fun ls hl => ?_)
    refine lv_aload_n F.1 F.2.1 (dd D_X9_goesBy 12 rfl) rfl (lv_at hl 1 rfl) ?_
    refine lv_dup F.1 F.2.1 (dd D_X9_goesBy 13 rfl) rfl ?_
    refine getF F hK hP lf_X9_336 (0) (mp_0 cA am (F_X9_below s (10 : Int32)).2) rfl (dd D_X9_goesBy 14 rfl) ?_
    refine lv_iload_n F.1 F.2.1 (dd D_X9_goesBy 15 rfl) rfl (lv_at hl 0 rfl) ?_
    refine x_if_eq (tgt := 51) F.1 F.2.1 (dd D_X9_goesBy 16 rfl) rfl h (fun c3 h => ?_) (fun c3 h => ?_)
    · refine lv_iconst (v := (0 : Int32)) F.1 F.2.1 (dd D_X9_goesBy 26 rfl) ki_0 ?_
      refine lv_iadd F.1 F.2.1 (dd D_X9_goesBy 27 rfl) ?_
      refine putF F hK hP hD hS lp_X9_336 (0) (mp_0 cA am (F_X9_below s (10 : Int32)).2) (Nat.le_of_ble_eq_true rfl) (nar_int _) (fit_int _) (ws' := (mW cA am (m_set_looks (F_X9_below s (10 : Int32)).2 ((m_looks (F_X9_below s (10 : Int32)).2) + (0 : Int32))))) (ms_0_18 cA am (F_X9_below s (10 : Int32)).2 ((m_looks (F_X9_below s (10 : Int32)).2) + (0 : Int32))) (dd D_X9_goesBy 28 rfl) (fun H locs hP hD hS => ?_)
      refine lv_aload_n F.1 F.2.1 (dd D_X9_goesBy 29 rfl) rfl (lv_at hl 1 rfl) ?_
      refine lv_dup F.1 F.2.1 (dd D_X9_goesBy 30 rfl) rfl ?_
      refine getF F hK hP lf_X9_339 (0) (mp_0 cA am (m_set_looks (F_X9_below s (10 : Int32)).2 ((m_looks (F_X9_below s (10 : Int32)).2) + (0 : Int32)))) rfl (dd D_X9_goesBy 31 rfl) ?_
      refine lv_iconst (v := (1 : Int32)) F.1 F.2.1 (dd D_X9_goesBy 32 rfl) ki_1 ?_
      refine lv_iadd F.1 F.2.1 (dd D_X9_goesBy 33 rfl) ?_
      refine putF F hK hP hD hS lp_X9_339 (0) (mp_0 cA am (m_set_looks (F_X9_below s (10 : Int32)).2 ((m_looks (F_X9_below s (10 : Int32)).2) + (0 : Int32)))) (Nat.le_of_ble_eq_true rfl) (nar_int _) (fit_int _) (ws' := (mW cA am (m_set_today (m_set_looks (F_X9_below s (10 : Int32)).2 ((m_looks (F_X9_below s (10 : Int32)).2) + (0 : Int32))) ((m_today (m_set_looks (F_X9_below s (10 : Int32)).2 ((m_looks (F_X9_below s (10 : Int32)).2) + (0 : Int32)))) + (1 : Int32))))) (ms_0_17 cA am (m_set_looks (F_X9_below s (10 : Int32)).2 ((m_looks (F_X9_below s (10 : Int32)).2) + (0 : Int32))) ((m_today (m_set_looks (F_X9_below s (10 : Int32)).2 ((m_looks (F_X9_below s (10 : Int32)).2) + (0 : Int32)))) + (1 : Int32))) (dd D_X9_goesBy 34 rfl) (fun H locs hP hD hS => ?_)
      refine lv_iload_n F.1 F.2.1 (dd D_X9_goesBy 35 rfl) rfl (lv_at hl 0 rfl) ?_
      refine x_if_eq (tgt := 74) F.1 F.2.1 (dd D_X9_goesBy 36 rfl) rfl h (fun c4 h => ?_) (fun c4 h => ?_)
      · refine lv_iconst (v := (0 : Int32)) F.1 F.2.1 (dd D_X9_goesBy 39 rfl) ki_0 ?_
        obtain rfl := Option.some.inj h
        exact rw_i (R := rmOf 6 0 0) F hP hD hS hr hlk ⟨Nat.le_of_ble_eq_true rfl, Nat.le_of_ble_eq_true rfl⟩ ⟨rfl, rfl⟩ (dd D_X9_goesBy 40 rfl)
      · refine lv_iconst (v := (1 : Int32)) F.1 F.2.1 (dd D_X9_goesBy 37 rfl) ki_1 ?_
        refine lv_goto (tgt := 75) F.1 F.2.1 (dd D_X9_goesBy 38 rfl) rfl ?_
        obtain rfl := Option.some.inj h
        exact rw_i (R := rmOf 6 0 0) F hP hD hS hr hlk ⟨Nat.le_of_ble_eq_true rfl, Nat.le_of_ble_eq_true rfl⟩ ⟨rfl, rfl⟩ (dd D_X9_goesBy 40 rfl)
    · refine lv_aload_n F.1 F.2.1 (dd D_X9_goesBy 17 rfl) rfl (lv_at hl 1 rfl) ?_
      refine lv_aload_n F.1 F.2.1 (dd D_X9_goesBy 18 rfl) rfl (lv_at hl 1 rfl) ?_
      refine getF F hK hP lf_X9_339 (0) (mp_0 cA am (F_X9_below s (10 : Int32)).2) rfl (dd D_X9_goesBy 19 rfl) ?_
      refine lv_sipush (v := (1080 : Int32)) F.1 F.2.1 (dd D_X9_goesBy 20 rfl) ks_1080 ?_
      refine lv_sipush (v := (1439 : Int32)) F.1 F.2.1 (dd D_X9_goesBy 21 rfl) ks_1439 ?_
      obtain ⟨r5, e6, h⟩ := Option.bind_eq_some_iff.mp h
      refine ro_go (st' := [.int r5, .int (m_looks (F_X9_below s (10 : Int32)).2), .ref (am 0)]) (rV (rest := [.int (m_looks (F_X9_below s (10 : Int32)).2), .ref (am 0)]) F (c_X9_shinesIn D cA am (F_X9_below s (10 : Int32)).2 n (m_today (F_X9_below s (10 : Int32)).2) (1080 : Int32) (1439 : Int32) r5 e6 l) lk_X9_105 (Nat.le_of_ble_eq_true rfl) (preRO hK hS hAb hP) (rcv_9 hK hP (q0 := (0)) (mp_0 cA am (F_X9_below s (10 : Int32)).2)) rfl hl rfl (Nat.le_of_ble_eq_true rfl) (dd D_X9_goesBy 22 rfl) ⟨Nat.le_of_ble_eq_true rfl, Nat.le_of_ble_eq_true rfl⟩) rfl ?_
      refine x_if_le (tgt := 51) F.1 F.2.1 (dd D_X9_goesBy 23 rfl) rfl h (fun c7 h => ?_) (fun c7 h => ?_)
      · refine lv_iconst (v := (0 : Int32)) F.1 F.2.1 (dd D_X9_goesBy 26 rfl) ki_0 ?_
        refine lv_iadd F.1 F.2.1 (dd D_X9_goesBy 27 rfl) ?_
        refine putF F hK hP hD hS lp_X9_336 (0) (mp_0 cA am (F_X9_below s (10 : Int32)).2) (Nat.le_of_ble_eq_true rfl) (nar_int _) (fit_int _) (ws' := (mW cA am (m_set_looks (F_X9_below s (10 : Int32)).2 ((m_looks (F_X9_below s (10 : Int32)).2) + (0 : Int32))))) (ms_0_18 cA am (F_X9_below s (10 : Int32)).2 ((m_looks (F_X9_below s (10 : Int32)).2) + (0 : Int32))) (dd D_X9_goesBy 28 rfl) (fun H locs hP hD hS => ?_)
        refine lv_aload_n F.1 F.2.1 (dd D_X9_goesBy 29 rfl) rfl (lv_at hl 1 rfl) ?_
        refine lv_dup F.1 F.2.1 (dd D_X9_goesBy 30 rfl) rfl ?_
        refine getF F hK hP lf_X9_339 (0) (mp_0 cA am (m_set_looks (F_X9_below s (10 : Int32)).2 ((m_looks (F_X9_below s (10 : Int32)).2) + (0 : Int32)))) rfl (dd D_X9_goesBy 31 rfl) ?_
        refine lv_iconst (v := (1 : Int32)) F.1 F.2.1 (dd D_X9_goesBy 32 rfl) ki_1 ?_
        refine lv_iadd F.1 F.2.1 (dd D_X9_goesBy 33 rfl) ?_
        refine putF F hK hP hD hS lp_X9_339 (0) (mp_0 cA am (m_set_looks (F_X9_below s (10 : Int32)).2 ((m_looks (F_X9_below s (10 : Int32)).2) + (0 : Int32)))) (Nat.le_of_ble_eq_true rfl) (nar_int _) (fit_int _) (ws' := (mW cA am (m_set_today (m_set_looks (F_X9_below s (10 : Int32)).2 ((m_looks (F_X9_below s (10 : Int32)).2) + (0 : Int32))) ((m_today (m_set_looks (F_X9_below s (10 : Int32)).2 ((m_looks (F_X9_below s (10 : Int32)).2) + (0 : Int32)))) + (1 : Int32))))) (ms_0_17 cA am (m_set_looks (F_X9_below s (10 : Int32)).2 ((m_looks (F_X9_below s (10 : Int32)).2) + (0 : Int32))) ((m_today (m_set_looks (F_X9_below s (10 : Int32)).2 ((m_looks (F_X9_below s (10 : Int32)).2) + (0 : Int32)))) + (1 : Int32))) (dd D_X9_goesBy 34 rfl) (fun H locs hP hD hS => ?_)
        refine lv_iload_n F.1 F.2.1 (dd D_X9_goesBy 35 rfl) rfl (lv_at hl 0 rfl) ?_
        refine x_if_eq (tgt := 74) F.1 F.2.1 (dd D_X9_goesBy 36 rfl) rfl h (fun c8 h => ?_) (fun c8 h => ?_)
        · refine lv_iconst (v := (0 : Int32)) F.1 F.2.1 (dd D_X9_goesBy 39 rfl) ki_0 ?_
          obtain rfl := Option.some.inj h
          exact rw_i (R := rmOf 6 0 0) F hP hD hS hr hlk ⟨Nat.le_of_ble_eq_true rfl, Nat.le_of_ble_eq_true rfl⟩ ⟨rfl, rfl⟩ (dd D_X9_goesBy 40 rfl)
        · refine lv_iconst (v := (1 : Int32)) F.1 F.2.1 (dd D_X9_goesBy 37 rfl) ki_1 ?_
          refine lv_goto (tgt := 75) F.1 F.2.1 (dd D_X9_goesBy 38 rfl) rfl ?_
          obtain rfl := Option.some.inj h
          exact rw_i (R := rmOf 6 0 0) F hP hD hS hr hlk ⟨Nat.le_of_ble_eq_true rfl, Nat.le_of_ble_eq_true rfl⟩ ⟨rfl, rfl⟩ (dd D_X9_goesBy 40 rfl)
      · refine lv_iconst (v := (1 : Int32)) F.1 F.2.1 (dd D_X9_goesBy 24 rfl) ki_1 ?_
        refine lv_goto (tgt := 52) F.1 F.2.1 (dd D_X9_goesBy 25 rfl) rfl ?_
        refine lv_iadd F.1 F.2.1 (dd D_X9_goesBy 27 rfl) ?_
        refine putF F hK hP hD hS lp_X9_336 (0) (mp_0 cA am (F_X9_below s (10 : Int32)).2) (Nat.le_of_ble_eq_true rfl) (nar_int _) (fit_int _) (ws' := (mW cA am (m_set_looks (F_X9_below s (10 : Int32)).2 ((m_looks (F_X9_below s (10 : Int32)).2) + (1 : Int32))))) (ms_0_18 cA am (F_X9_below s (10 : Int32)).2 ((m_looks (F_X9_below s (10 : Int32)).2) + (1 : Int32))) (dd D_X9_goesBy 28 rfl) (fun H locs hP hD hS => ?_)
        refine lv_aload_n F.1 F.2.1 (dd D_X9_goesBy 29 rfl) rfl (lv_at hl 1 rfl) ?_
        refine lv_dup F.1 F.2.1 (dd D_X9_goesBy 30 rfl) rfl ?_
        refine getF F hK hP lf_X9_339 (0) (mp_0 cA am (m_set_looks (F_X9_below s (10 : Int32)).2 ((m_looks (F_X9_below s (10 : Int32)).2) + (1 : Int32)))) rfl (dd D_X9_goesBy 31 rfl) ?_
        refine lv_iconst (v := (1 : Int32)) F.1 F.2.1 (dd D_X9_goesBy 32 rfl) ki_1 ?_
        refine lv_iadd F.1 F.2.1 (dd D_X9_goesBy 33 rfl) ?_
        refine putF F hK hP hD hS lp_X9_339 (0) (mp_0 cA am (m_set_looks (F_X9_below s (10 : Int32)).2 ((m_looks (F_X9_below s (10 : Int32)).2) + (1 : Int32)))) (Nat.le_of_ble_eq_true rfl) (nar_int _) (fit_int _) (ws' := (mW cA am (m_set_today (m_set_looks (F_X9_below s (10 : Int32)).2 ((m_looks (F_X9_below s (10 : Int32)).2) + (1 : Int32))) ((m_today (m_set_looks (F_X9_below s (10 : Int32)).2 ((m_looks (F_X9_below s (10 : Int32)).2) + (1 : Int32)))) + (1 : Int32))))) (ms_0_17 cA am (m_set_looks (F_X9_below s (10 : Int32)).2 ((m_looks (F_X9_below s (10 : Int32)).2) + (1 : Int32))) ((m_today (m_set_looks (F_X9_below s (10 : Int32)).2 ((m_looks (F_X9_below s (10 : Int32)).2) + (1 : Int32)))) + (1 : Int32))) (dd D_X9_goesBy 34 rfl) (fun H locs hP hD hS => ?_)
        refine lv_iload_n F.1 F.2.1 (dd D_X9_goesBy 35 rfl) rfl (lv_at hl 0 rfl) ?_
        refine x_if_eq (tgt := 74) F.1 F.2.1 (dd D_X9_goesBy 36 rfl) rfl h (fun c9 h => ?_) (fun c9 h => ?_)
        · refine lv_iconst (v := (0 : Int32)) F.1 F.2.1 (dd D_X9_goesBy 39 rfl) ki_0 ?_
          obtain rfl := Option.some.inj h
          exact rw_i (R := rmOf 6 0 0) F hP hD hS hr hlk ⟨Nat.le_of_ble_eq_true rfl, Nat.le_of_ble_eq_true rfl⟩ ⟨rfl, rfl⟩ (dd D_X9_goesBy 40 rfl)
        · refine lv_iconst (v := (1 : Int32)) F.1 F.2.1 (dd D_X9_goesBy 37 rfl) ki_1 ?_
          refine lv_goto (tgt := 75) F.1 F.2.1 (dd D_X9_goesBy 38 rfl) rfl ?_
          obtain rfl := Option.some.inj h
          exact rw_i (R := rmOf 6 0 0) F hP hD hS hr hlk ⟨Nat.le_of_ble_eq_true rfl, Nat.le_of_ble_eq_true rfl⟩ ⟨rfl, rfl⟩ (dd D_X9_goesBy 40 rfl)
  · refine lv_iconst (v := (1 : Int32)) F.1 F.2.1 (dd D_X9_goesBy 8 rfl) ki_1 ?_
    refine lv_goto (tgt := 20) F.1 F.2.1 (dd D_X9_goesBy 9 rfl) rfl ?_
    refine lv_istore_n (lv' := [(1, .int (1 : Int32)), (0, .ref (am 0))]) F.1 F.2.1 (dd D_X9_goesBy 11 rfl) rfl hl (Nat.le_of_ble_eq_true rfl) rfl (fun ls hl => ?_)
    refine lv_aload_n F.1 F.2.1 (dd D_X9_goesBy 12 rfl) rfl (lv_at hl 1 rfl) ?_
    refine lv_dup F.1 F.2.1 (dd D_X9_goesBy 13 rfl) rfl ?_
    refine getF F hK hP lf_X9_336 (0) (mp_0 cA am (F_X9_below s (10 : Int32)).2) rfl (dd D_X9_goesBy 14 rfl) ?_
    refine lv_iload_n F.1 F.2.1 (dd D_X9_goesBy 15 rfl) rfl (lv_at hl 0 rfl) ?_
    refine x_if_eq (tgt := 51) F.1 F.2.1 (dd D_X9_goesBy 16 rfl) rfl h (fun c10 h => ?_) (fun c10 h => ?_)
    · refine lv_iconst (v := (0 : Int32)) F.1 F.2.1 (dd D_X9_goesBy 26 rfl) ki_0 ?_
      refine lv_iadd F.1 F.2.1 (dd D_X9_goesBy 27 rfl) ?_
      refine putF F hK hP hD hS lp_X9_336 (0) (mp_0 cA am (F_X9_below s (10 : Int32)).2) (Nat.le_of_ble_eq_true rfl) (nar_int _) (fit_int _) (ws' := (mW cA am (m_set_looks (F_X9_below s (10 : Int32)).2 ((m_looks (F_X9_below s (10 : Int32)).2) + (0 : Int32))))) (ms_0_18 cA am (F_X9_below s (10 : Int32)).2 ((m_looks (F_X9_below s (10 : Int32)).2) + (0 : Int32))) (dd D_X9_goesBy 28 rfl) (fun H locs hP hD hS => ?_)
      refine lv_aload_n F.1 F.2.1 (dd D_X9_goesBy 29 rfl) rfl (lv_at hl 1 rfl) ?_
      refine lv_dup F.1 F.2.1 (dd D_X9_goesBy 30 rfl) rfl ?_
      refine getF F hK hP lf_X9_339 (0) (mp_0 cA am (m_set_looks (F_X9_below s (10 : Int32)).2 ((m_looks (F_X9_below s (10 : Int32)).2) + (0 : Int32)))) rfl (dd D_X9_goesBy 31 rfl) ?_
      refine lv_iconst (v := (1 : Int32)) F.1 F.2.1 (dd D_X9_goesBy 32 rfl) ki_1 ?_
      refine lv_iadd F.1 F.2.1 (dd D_X9_goesBy 33 rfl) ?_
      refine putF F hK hP hD hS lp_X9_339 (0) (mp_0 cA am (m_set_looks (F_X9_below s (10 : Int32)).2 ((m_looks (F_X9_below s (10 : Int32)).2) + (0 : Int32)))) (Nat.le_of_ble_eq_true rfl) (nar_int _) (fit_int _) (ws' := (mW cA am (m_set_today (m_set_looks (F_X9_below s (10 : Int32)).2 ((m_looks (F_X9_below s (10 : Int32)).2) + (0 : Int32))) ((m_today (m_set_looks (F_X9_below s (10 : Int32)).2 ((m_looks (F_X9_below s (10 : Int32)).2) + (0 : Int32)))) + (1 : Int32))))) (ms_0_17 cA am (m_set_looks (F_X9_below s (10 : Int32)).2 ((m_looks (F_X9_below s (10 : Int32)).2) + (0 : Int32))) ((m_today (m_set_looks (F_X9_below s (10 : Int32)).2 ((m_looks (F_X9_below s (10 : Int32)).2) + (0 : Int32)))) + (1 : Int32))) (dd D_X9_goesBy 34 rfl) (fun H locs hP hD hS => ?_)
      refine lv_iload_n F.1 F.2.1 (dd D_X9_goesBy 35 rfl) rfl (lv_at hl 0 rfl) ?_
      refine x_if_eq (tgt := 74) F.1 F.2.1 (dd D_X9_goesBy 36 rfl) rfl h (fun c11 h => ?_) (fun c11 h => ?_)
      · refine lv_iconst (v := (0 : Int32)) F.1 F.2.1 (dd D_X9_goesBy 39 rfl) ki_0 ?_
        obtain rfl := Option.some.inj h
        exact rw_i (R := rmOf 6 0 0) F hP hD hS hr hlk ⟨Nat.le_of_ble_eq_true rfl, Nat.le_of_ble_eq_true rfl⟩ ⟨rfl, rfl⟩ (dd D_X9_goesBy 40 rfl)
      · refine lv_iconst (v := (1 : Int32)) F.1 F.2.1 (dd D_X9_goesBy 37 rfl) ki_1 ?_
        refine lv_goto (tgt := 75) F.1 F.2.1 (dd D_X9_goesBy 38 rfl) rfl ?_
        obtain rfl := Option.some.inj h
        exact rw_i (R := rmOf 6 0 0) F hP hD hS hr hlk ⟨Nat.le_of_ble_eq_true rfl, Nat.le_of_ble_eq_true rfl⟩ ⟨rfl, rfl⟩ (dd D_X9_goesBy 40 rfl)
    · refine lv_aload_n F.1 F.2.1 (dd D_X9_goesBy 17 rfl) rfl (lv_at hl 1 rfl) ?_
      refine lv_aload_n F.1 F.2.1 (dd D_X9_goesBy 18 rfl) rfl (lv_at hl 1 rfl) ?_
      refine getF F hK hP lf_X9_339 (0) (mp_0 cA am (F_X9_below s (10 : Int32)).2) rfl (dd D_X9_goesBy 19 rfl) ?_
      refine lv_sipush (v := (1080 : Int32)) F.1 F.2.1 (dd D_X9_goesBy 20 rfl) ks_1080 ?_
      refine lv_sipush (v := (1439 : Int32)) F.1 F.2.1 (dd D_X9_goesBy 21 rfl) ks_1439 ?_
      obtain ⟨r12, e13, h⟩ := Option.bind_eq_some_iff.mp h
      refine ro_go (st' := [.int r12, .int (m_looks (F_X9_below s (10 : Int32)).2), .ref (am 0)]) (rV (rest := [.int (m_looks (F_X9_below s (10 : Int32)).2), .ref (am 0)]) F (c_X9_shinesIn D cA am (F_X9_below s (10 : Int32)).2 n (m_today (F_X9_below s (10 : Int32)).2) (1080 : Int32) (1439 : Int32) r12 e13 l) lk_X9_105 (Nat.le_of_ble_eq_true rfl) (preRO hK hS hAb hP) (rcv_9 hK hP (q0 := (0)) (mp_0 cA am (F_X9_below s (10 : Int32)).2)) rfl hl rfl (Nat.le_of_ble_eq_true rfl) (dd D_X9_goesBy 22 rfl) ⟨Nat.le_of_ble_eq_true rfl, Nat.le_of_ble_eq_true rfl⟩) rfl ?_
      refine x_if_le (tgt := 51) F.1 F.2.1 (dd D_X9_goesBy 23 rfl) rfl h (fun c14 h => ?_) (fun c14 h => ?_)
      · refine lv_iconst (v := (0 : Int32)) F.1 F.2.1 (dd D_X9_goesBy 26 rfl) ki_0 ?_
        refine lv_iadd F.1 F.2.1 (dd D_X9_goesBy 27 rfl) ?_
        refine putF F hK hP hD hS lp_X9_336 (0) (mp_0 cA am (F_X9_below s (10 : Int32)).2) (Nat.le_of_ble_eq_true rfl) (nar_int _) (fit_int _) (ws' := (mW cA am (m_set_looks (F_X9_below s (10 : Int32)).2 ((m_looks (F_X9_below s (10 : Int32)).2) + (0 : Int32))))) (ms_0_18 cA am (F_X9_below s (10 : Int32)).2 ((m_looks (F_X9_below s (10 : Int32)).2) + (0 : Int32))) (dd D_X9_goesBy 28 rfl) (fun H locs hP hD hS => ?_)
        refine lv_aload_n F.1 F.2.1 (dd D_X9_goesBy 29 rfl) rfl (lv_at hl 1 rfl) ?_
        refine lv_dup F.1 F.2.1 (dd D_X9_goesBy 30 rfl) rfl ?_
        refine getF F hK hP lf_X9_339 (0) (mp_0 cA am (m_set_looks (F_X9_below s (10 : Int32)).2 ((m_looks (F_X9_below s (10 : Int32)).2) + (0 : Int32)))) rfl (dd D_X9_goesBy 31 rfl) ?_
        refine lv_iconst (v := (1 : Int32)) F.1 F.2.1 (dd D_X9_goesBy 32 rfl) ki_1 ?_
        refine lv_iadd F.1 F.2.1 (dd D_X9_goesBy 33 rfl) ?_
        refine putF F hK hP hD hS lp_X9_339 (0) (mp_0 cA am (m_set_looks (F_X9_below s (10 : Int32)).2 ((m_looks (F_X9_below s (10 : Int32)).2) + (0 : Int32)))) (Nat.le_of_ble_eq_true rfl) (nar_int _) (fit_int _) (ws' := (mW cA am (m_set_today (m_set_looks (F_X9_below s (10 : Int32)).2 ((m_looks (F_X9_below s (10 : Int32)).2) + (0 : Int32))) ((m_today (m_set_looks (F_X9_below s (10 : Int32)).2 ((m_looks (F_X9_below s (10 : Int32)).2) + (0 : Int32)))) + (1 : Int32))))) (ms_0_17 cA am (m_set_looks (F_X9_below s (10 : Int32)).2 ((m_looks (F_X9_below s (10 : Int32)).2) + (0 : Int32))) ((m_today (m_set_looks (F_X9_below s (10 : Int32)).2 ((m_looks (F_X9_below s (10 : Int32)).2) + (0 : Int32)))) + (1 : Int32))) (dd D_X9_goesBy 34 rfl) (fun H locs hP hD hS => ?_)
        refine lv_iload_n F.1 F.2.1 (dd D_X9_goesBy 35 rfl) rfl (lv_at hl 0 rfl) ?_
        refine x_if_eq (tgt := 74) F.1 F.2.1 (dd D_X9_goesBy 36 rfl) rfl h (fun c15 h => ?_) (fun c15 h => ?_)
        · refine lv_iconst (v := (0 : Int32)) F.1 F.2.1 (dd D_X9_goesBy 39 rfl) ki_0 ?_
          obtain rfl := Option.some.inj h
          exact rw_i (R := rmOf 6 0 0) F hP hD hS hr hlk ⟨Nat.le_of_ble_eq_true rfl, Nat.le_of_ble_eq_true rfl⟩ ⟨rfl, rfl⟩ (dd D_X9_goesBy 40 rfl)
        · refine lv_iconst (v := (1 : Int32)) F.1 F.2.1 (dd D_X9_goesBy 37 rfl) ki_1 ?_
          refine lv_goto (tgt := 75) F.1 F.2.1 (dd D_X9_goesBy 38 rfl) rfl ?_
          obtain rfl := Option.some.inj h
          exact rw_i (R := rmOf 6 0 0) F hP hD hS hr hlk ⟨Nat.le_of_ble_eq_true rfl, Nat.le_of_ble_eq_true rfl⟩ ⟨rfl, rfl⟩ (dd D_X9_goesBy 40 rfl)
      · refine lv_iconst (v := (1 : Int32)) F.1 F.2.1 (dd D_X9_goesBy 24 rfl) ki_1 ?_
        refine lv_goto (tgt := 52) F.1 F.2.1 (dd D_X9_goesBy 25 rfl) rfl ?_
        refine lv_iadd F.1 F.2.1 (dd D_X9_goesBy 27 rfl) ?_
        refine putF F hK hP hD hS lp_X9_336 (0) (mp_0 cA am (F_X9_below s (10 : Int32)).2) (Nat.le_of_ble_eq_true rfl) (nar_int _) (fit_int _) (ws' := (mW cA am (m_set_looks (F_X9_below s (10 : Int32)).2 ((m_looks (F_X9_below s (10 : Int32)).2) + (1 : Int32))))) (ms_0_18 cA am (F_X9_below s (10 : Int32)).2 ((m_looks (F_X9_below s (10 : Int32)).2) + (1 : Int32))) (dd D_X9_goesBy 28 rfl) (fun H locs hP hD hS => ?_)
        refine lv_aload_n F.1 F.2.1 (dd D_X9_goesBy 29 rfl) rfl (lv_at hl 1 rfl) ?_
        refine lv_dup F.1 F.2.1 (dd D_X9_goesBy 30 rfl) rfl ?_
        refine getF F hK hP lf_X9_339 (0) (mp_0 cA am (m_set_looks (F_X9_below s (10 : Int32)).2 ((m_looks (F_X9_below s (10 : Int32)).2) + (1 : Int32)))) rfl (dd D_X9_goesBy 31 rfl) ?_
        refine lv_iconst (v := (1 : Int32)) F.1 F.2.1 (dd D_X9_goesBy 32 rfl) ki_1 ?_
        refine lv_iadd F.1 F.2.1 (dd D_X9_goesBy 33 rfl) ?_
        refine putF F hK hP hD hS lp_X9_339 (0) (mp_0 cA am (m_set_looks (F_X9_below s (10 : Int32)).2 ((m_looks (F_X9_below s (10 : Int32)).2) + (1 : Int32)))) (Nat.le_of_ble_eq_true rfl) (nar_int _) (fit_int _) (ws' := (mW cA am (m_set_today (m_set_looks (F_X9_below s (10 : Int32)).2 ((m_looks (F_X9_below s (10 : Int32)).2) + (1 : Int32))) ((m_today (m_set_looks (F_X9_below s (10 : Int32)).2 ((m_looks (F_X9_below s (10 : Int32)).2) + (1 : Int32)))) + (1 : Int32))))) (ms_0_17 cA am (m_set_looks (F_X9_below s (10 : Int32)).2 ((m_looks (F_X9_below s (10 : Int32)).2) + (1 : Int32))) ((m_today (m_set_looks (F_X9_below s (10 : Int32)).2 ((m_looks (F_X9_below s (10 : Int32)).2) + (1 : Int32)))) + (1 : Int32))) (dd D_X9_goesBy 34 rfl) (fun H locs hP hD hS => ?_)
        refine lv_iload_n F.1 F.2.1 (dd D_X9_goesBy 35 rfl) rfl (lv_at hl 0 rfl) ?_
        refine x_if_eq (tgt := 74) F.1 F.2.1 (dd D_X9_goesBy 36 rfl) rfl h (fun c16 h => ?_) (fun c16 h => ?_)
        · refine lv_iconst (v := (0 : Int32)) F.1 F.2.1 (dd D_X9_goesBy 39 rfl) ki_0 ?_
          obtain rfl := Option.some.inj h
          exact rw_i (R := rmOf 6 0 0) F hP hD hS hr hlk ⟨Nat.le_of_ble_eq_true rfl, Nat.le_of_ble_eq_true rfl⟩ ⟨rfl, rfl⟩ (dd D_X9_goesBy 40 rfl)
        · refine lv_iconst (v := (1 : Int32)) F.1 F.2.1 (dd D_X9_goesBy 37 rfl) ki_1 ?_
          refine lv_goto (tgt := 75) F.1 F.2.1 (dd D_X9_goesBy 38 rfl) rfl ?_
          obtain rfl := Option.some.inj h
          exact rw_i (R := rmOf 6 0 0) F hP hD hS hr hlk ⟨Nat.le_of_ble_eq_true rfl, Nat.le_of_ble_eq_true rfl⟩ ⟨rfl, rfl⟩ (dd D_X9_goesBy 40 rfl)
def F_X9_goes (n : Nat) (s : MS) : Option (Int32 × MS) := (if (m_today s) = (9999 : Int32) then (((F_X9_refuse n s (-5 : Int32))).bind fun r4 => some (r4.1, r4.2)) else (((F_X9_goesBy n s)).bind fun r2 => some (r2.1, r2.2)))
set_option maxHeartbeats 4000000 in
set_option maxRecDepth 100000 in
theorem c_X9_goes (D : va_G) (cA : Nat → ClassId) (am : Nat → Nat) (s : MS) (n : Nat)  (r : (Int32 × MS)) (h : F_X9_goes n s = some r) : RW m_X9_goes 7 0 0 D cA [.ref (am 0)] (mW cA am s) (exq (some (.int r.1)) (mW cA am r.2)) := by
  refine RW.ofW gy_X9_goes.2.2 (Nat.le_of_ble_eq_true rfl) ?_
  intro l p e sM m below meth c A H locs F hr hlk hnm hK hP hD hS hA hAb ls hl
  have hl : lv_has ls 1 [(0, .ref (am 0))] := hl
  unfold F_X9_goes at h
  refine lv_aload_n F.1 F.2.1 (dd D_X9_goes 0 rfl) rfl (lv_at hl 0 rfl) ?_
  refine getF F hK hP lf_X9_339 (0) (mp_0 cA am s) rfl (dd D_X9_goes 1 rfl) ?_
  refine lv_sipush (v := (9999 : Int32)) F.1 F.2.1 (dd D_X9_goes 2 rfl) ks_9999 ?_
  refine x_icmp_ne (tgt := 19) F.1 F.2.1 (dd D_X9_goes 3 rfl) rfl h (fun c1 h => ?_) (fun c1 h => ?_)
  · refine lv_aload_n F.1 F.2.1 (dd D_X9_goes 8 rfl) rfl (lv_at hl 0 rfl) ?_
    obtain ⟨r2, e3, h⟩ := Option.bind_eq_some_iff.mp h
    refine rwe_all (st' := [.int r2.1]) hD hS hA (rV (rest := []) F (c_X9_goesBy D cA am s n r2 e3 l H.size) lk_X9_342 (Nat.le_of_ble_eq_true rfl) (preRW hK hS hAb hP hD) (rcv_9 hK hP (q0 := (0)) (mp_0 cA am s)) rfl hl rfl (Nat.le_of_ble_eq_true rfl) (dd D_X9_goes 9 rfl) ⟨Nat.le_of_ble_eq_true rfl, Nat.le_of_ble_eq_true rfl⟩) rfl (fun H locs hP hD hS => ?_)
    obtain rfl := Option.some.inj h
    exact rw_i (R := rmOf 7 0 0) F hP hD hS hr hlk ⟨Nat.le_of_ble_eq_true rfl, Nat.le_of_ble_eq_true rfl⟩ ⟨rfl, rfl⟩ (dd D_X9_goes 10 rfl)
  · refine lv_aload_n F.1 F.2.1 (dd D_X9_goes 4 rfl) rfl (lv_at hl 0 rfl) ?_
    refine lv_bipush (v := (-5 : Int32)) F.1 F.2.1 (dd D_X9_goes 5 rfl) kb_m5 ?_
    obtain ⟨r4, e5, h⟩ := Option.bind_eq_some_iff.mp h
    refine rwe_all (st' := [.int r4.1]) hD hS hA (rV (rest := []) F (c_X9_refuse D cA am s n (-5 : Int32) r4 e5 l H.size) lk_X9_79 (Nat.le_of_ble_eq_true rfl) (preRW hK hS hAb hP hD) (rcv_9 hK hP (q0 := (0)) (mp_0 cA am s)) rfl hl rfl (Nat.le_of_ble_eq_true rfl) (dd D_X9_goes 6 rfl) ⟨Nat.le_of_ble_eq_true rfl, Nat.le_of_ble_eq_true rfl⟩) rfl (fun H locs hP hD hS => ?_)
    refine lv_goto (tgt := 23) F.1 F.2.1 (dd D_X9_goes 7 rfl) rfl ?_
    obtain rfl := Option.some.inj h
    exact rw_i (R := rmOf 7 0 0) F hP hD hS hr hlk ⟨Nat.le_of_ble_eq_true rfl, Nat.le_of_ble_eq_true rfl⟩ ⟨rfl, rfl⟩ (dd D_X9_goes 10 rfl)
def F_X9_looks_L21 (n : Nat) (v1 : Int32) : Nat → Int32 → MS → Option (Int32 × MS)
  | 0, _, _ => none
  | kf + 1, w2, u0 => (if v1 ≤ w2 then some ((m_looks u0), u0) else (if (9999 : Int32) ≤ (m_today u0) then some ((m_looks u0), u0) else (((F_X9_goesBy n u0)).bind fun r3 => F_X9_looks_L21 n v1 kf (w2 + (1 : Int32)) r3.2)))
def F_X9_looks (n : Nat) (s : MS) (p1 : Int32) : Option (Int32 × MS) := bf (F_X9_in (Int32.toInt64 p1) (1 : Int64) (40 : Int64)) (F_X9_looks_L21 n p1 n (0 : Int32) s) ((((F_X9_refuse n s (-2 : Int32))).bind fun r10 => some (r10.1, r10.2)))
set_option maxHeartbeats 4000000 in
set_option maxRecDepth 100000 in
theorem c_X9_looks (D : va_G) (cA : Nat → ClassId) (am : Nat → Nat) (s : MS) (n : Nat) (p1 : Int32) (r : (Int32 × MS)) (h : F_X9_looks n s p1 = some r) : RW m_X9_looks 7 0 0 D cA [.ref (am 0), .int p1] (mW cA am s) (exq (some (.int r.1)) (mW cA am r.2)) := by
  refine RW.ofW gy_X9_looks.2.2 (Nat.le_of_ble_eq_true rfl) ?_
  intro l p e sM m below meth c A H locs F hr hlk hnm hK hP hD hS hA hAb ls hl
  have hl : lv_has ls 3 [(0, .ref (am 0)), (1, .int p1)] := hl
  unfold F_X9_looks at h
  refine lv_iload_n F.1 F.2.1 (dd D_X9_looks 0 rfl) rfl (lv_at hl 1 rfl) ?_
  refine lv_i2l (v := (Int32.toInt64 p1)) F.1 F.2.1 (dd D_X9_looks 1 rfl) rfl ?_
  refine lv_lconst (v := (1 : Int64)) F.1 F.2.1 (dd D_X9_looks 2 rfl) kl_1 ?_
  refine lv_ldc2 (own := RX9) (v := (40 : Int64)) F.1 F.2.1 F.2.2.2.1 (F.2.2.2.2 _ (kL_X9_77)) (dd D_X9_looks 3 rfl) ?_
  refine ro_go (st' := [.int (bI (F_X9_in (Int32.toInt64 p1) (1 : Int64) (40 : Int64)))]) (rS (rest := []) F (c_X9_in D cA (Int32.toInt64 p1) (1 : Int64) (40 : Int64) l) lk_X9_63 (Nat.le_of_ble_eq_true rfl) (preRO hK hS hAb (emP)) rfl hl rfl (Nat.le_of_ble_eq_true rfl) (dd D_X9_looks 4 rfl) ⟨Nat.le_of_ble_eq_true rfl, Nat.le_of_ble_eq_true rfl⟩) rfl ?_
  refine x_bif_ne (tgt := 19) F.1 F.2.1 (dd D_X9_looks 5 rfl) rfl h (fun c12 h => ?_) (fun c12 h => ?_)
  · refine lv_iconst (v := (0 : Int32)) F.1 F.2.1 (dd D_X9_looks 10 rfl) ki_0 ?_
    refine lv_istore_n (lv' := [(2, .int (0 : Int32)), (0, .ref (am 0)), (1, .int p1)]) F.1 F.2.1 (dd D_X9_looks 11 rfl) rfl hl (Nat.le_of_ble_eq_true rfl) rfl (fun ls hl => ?_)
    have L5 : ∀ (kf : Nat) (w2_L5 : Int32) (u0_L5 : MS) (H : Heap) (locs : List Loc) (ls : Array Slot), va_P D vwCl (mW cA am u0_L5) H → va_D A (mW cA am u0_L5) → va_S A sM.heap H locs → lv_has ls 3 [(0, .ref (am 0)), (1, .int p1), (2, .int w2_L5)] → F_X9_looks_L21 n p1 kf w2_L5 u0_L5 = some r → Wrw 7 0 0 D A (exq (some (.int r.1)) (mW cA am r.2)) p l e sM m ([.ref (am 0), .int p1] : List Value).toArray below meth c H locs 0 0 21 ls [] := by
      intro kf
      induction kf with
      | zero =>
        intro w2_L5 u0_L5 H locs ls hP hD hS hl h
        cases (show none = some r from h)
      | succ k_L5 ih_L5 =>
        intro w2_L5 u0_L5 H locs ls hP hD hS hl h
        unfold F_X9_looks_L21 at h
        refine lv_iload_n F.1 F.2.1 (dd D_X9_looks 12 rfl) rfl (lv_at hl 2 rfl) ?_
        refine lv_iload_n F.1 F.2.1 (dd D_X9_looks 13 rfl) rfl (lv_at hl 1 rfl) ?_
        refine x_icmp_ge (tgt := 47) F.1 F.2.1 (dd D_X9_looks 14 rfl) rfl h (fun c6 h => ?_) (fun c6 h => ?_)
        · refine lv_aload_n F.1 F.2.1 (dd D_X9_looks 24 rfl) rfl (lv_at hl 0 rfl) ?_
          refine getF F hK hP lf_X9_336 (0) (mp_0 cA am u0_L5) rfl (dd D_X9_looks 25 rfl) ?_
          obtain rfl := Option.some.inj h
          exact rw_i (R := rmOf 7 0 0) F hP hD hS hr hlk ⟨Nat.le_of_ble_eq_true rfl, Nat.le_of_ble_eq_true rfl⟩ ⟨rfl, rfl⟩ (dd D_X9_looks 26 rfl)
        · refine lv_aload_n F.1 F.2.1 (dd D_X9_looks 15 rfl) rfl (lv_at hl 0 rfl) ?_
          refine getF F hK hP lf_X9_339 (0) (mp_0 cA am u0_L5) rfl (dd D_X9_looks 16 rfl) ?_
          refine lv_sipush (v := (9999 : Int32)) F.1 F.2.1 (dd D_X9_looks 17 rfl) ks_9999 ?_
          refine x_icmp_ge (tgt := 47) F.1 F.2.1 (dd D_X9_looks 18 rfl) rfl h (fun c7 h => ?_) (fun c7 h => ?_)
          · refine lv_aload_n F.1 F.2.1 (dd D_X9_looks 24 rfl) rfl (lv_at hl 0 rfl) ?_
            refine getF F hK hP lf_X9_336 (0) (mp_0 cA am u0_L5) rfl (dd D_X9_looks 25 rfl) ?_
            obtain rfl := Option.some.inj h
            exact rw_i (R := rmOf 7 0 0) F hP hD hS hr hlk ⟨Nat.le_of_ble_eq_true rfl, Nat.le_of_ble_eq_true rfl⟩ ⟨rfl, rfl⟩ (dd D_X9_looks 26 rfl)
          · refine lv_aload_n F.1 F.2.1 (dd D_X9_looks 19 rfl) rfl (lv_at hl 0 rfl) ?_
            obtain ⟨r8, e9, h⟩ := Option.bind_eq_some_iff.mp h
            refine rwe_all (st' := [.int r8.1]) hD hS hA (rV (rest := []) F (c_X9_goesBy D cA am u0_L5 n r8 e9 l H.size) lk_X9_342 (Nat.le_of_ble_eq_true rfl) (preRW hK hS hAb hP hD) (rcv_9 hK hP (q0 := (0)) (mp_0 cA am u0_L5)) rfl hl rfl (Nat.le_of_ble_eq_true rfl) (dd D_X9_looks 20 rfl) ⟨Nat.le_of_ble_eq_true rfl, Nat.le_of_ble_eq_true rfl⟩) rfl (fun H locs hP hD hS => ?_)
            refine lv_pop F.1 F.2.1 (dd D_X9_looks 21 rfl) rfl ?_
            refine lv_iinc (v := (w2_L5 + (1 : Int32))) (lv' := [(2, .int (w2_L5 + (1 : Int32))), (0, .ref (am 0)), (1, .int p1)]) F.1 F.2.1 (dd D_X9_looks 22 rfl) hl (k := 2) rfl (congrArg (fun z => w2_L5 + z) ki_1) (Nat.le_of_ble_eq_true rfl) rfl (fun ls hl => ?_)
            refine lv_goto (tgt := 21) F.1 F.2.1 (dd D_X9_looks 23 rfl) rfl ?_
            exact ih_L5 (w2_L5 + (1 : Int32)) r8.2 _ _ ls hP hD hS (lv_sub hl [1, 2, 0] rfl) h
    exact L5 n (0 : Int32) s _ _ ls hP hD hS (lv_sub hl [1, 2, 0] rfl) h
  · refine lv_aload_n F.1 F.2.1 (dd D_X9_looks 6 rfl) rfl (lv_at hl 0 rfl) ?_
    refine lv_bipush (v := (-2 : Int32)) F.1 F.2.1 (dd D_X9_looks 7 rfl) kb_m2 ?_
    obtain ⟨r10, e11, h⟩ := Option.bind_eq_some_iff.mp h
    refine rwe_all (st' := [.int r10.1]) hD hS hA (rV (rest := []) F (c_X9_refuse D cA am s n (-2 : Int32) r10 e11 l H.size) lk_X9_79 (Nat.le_of_ble_eq_true rfl) (preRW hK hS hAb hP hD) (rcv_9 hK hP (q0 := (0)) (mp_0 cA am s)) rfl hl rfl (Nat.le_of_ble_eq_true rfl) (dd D_X9_looks 8 rfl) ⟨Nat.le_of_ble_eq_true rfl, Nat.le_of_ble_eq_true rfl⟩) rfl (fun H locs hP hD hS => ?_)
    obtain rfl := Option.some.inj h
    exact rw_i (R := rmOf 7 0 0) F hP hD hS hr hlk ⟨Nat.le_of_ble_eq_true rfl, Nat.le_of_ble_eq_true rfl⟩ ⟨rfl, rfl⟩ (dd D_X9_looks 9 rfl)
def F_X9_seed (s : MS) (p1 : Int32) : (Int32 × MS) := ((m_seed s), (m_set_seed s p1))
set_option maxHeartbeats 4000000 in
set_option maxRecDepth 100000 in
theorem c_X9_seed (D : va_G) (cA : Nat → ClassId) (am : Nat → Nat) (s : MS) (p1 : Int32) : RW m_X9_seed 0 0 0 D cA [.ref (am 0), .int p1] (mW cA am s) (exq (some (.int (F_X9_seed s p1).1)) (mW cA am (F_X9_seed s p1).2)) := by
  obtain ⟨r, h⟩ : ∃ r, F_X9_seed s p1 = r := ⟨_, rfl⟩
  rw [h]
  refine RW.ofW gy_X9_seed.2.2 (Nat.le_of_ble_eq_true rfl) ?_
  intro l p e sM m below meth c A H locs F hr hlk hnm hK hP hD hS hA hAb ls hl
  have hl : lv_has ls 3 [(0, .ref (am 0)), (1, .int p1)] := hl
  unfold F_X9_seed at h
  refine lv_aload_n F.1 F.2.1 (dd D_X9_seed 0 rfl) rfl (lv_at hl 0 rfl) ?_
  refine getF F hK hP lf_X9_54 (0) (mp_0 cA am s) rfl (dd D_X9_seed 1 rfl) ?_
  refine lv_istore_n (lv' := [(2, .int (m_seed s)), (0, .ref (am 0)), (1, .int p1)]) F.1 F.2.1 (dd D_X9_seed 2 rfl) rfl hl (Nat.le_of_ble_eq_true rfl) rfl (fun ls hl => ?_)
  refine lv_aload_n F.1 F.2.1 (dd D_X9_seed 3 rfl) rfl (lv_at hl 1 rfl) ?_
  refine lv_iload_n F.1 F.2.1 (dd D_X9_seed 4 rfl) rfl (lv_at hl 2 rfl) ?_
  refine putF F hK hP hD hS lp_X9_54 (0) (mp_0 cA am s) (Nat.le_of_ble_eq_true rfl) (nar_int _) (fit_int _) (ws' := (mW cA am (m_set_seed s p1))) (ms_0_19 cA am s p1) (dd D_X9_seed 5 rfl) (fun H locs hP hD hS => ?_)
  refine lv_iload_n F.1 F.2.1 (dd D_X9_seed 6 rfl) rfl (lv_at hl 0 rfl) ?_
  subst h
  exact rw_i (R := rmOf 0 0 0) F hP hD hS hr hlk ⟨Nat.le_of_ble_eq_true rfl, Nat.le_of_ble_eq_true rfl⟩ ⟨rfl, rfl⟩ (dd D_X9_seed 7 rfl)
def F_X9_status_L110 (n : Nat) (u0 : MS) (v1 : Int32) : Nat → Int32 → Int32 → Option Int32
  | 0, _, _ => none
  | kf + 1, w2, w3 => (if (8 : Int32) ≤ w3 then some (w2) else gd (inb w3 8) ((if ((m_shelf u0) (Int32.toNatClampNeg w3)) = 0 then F_X9_status_L110 n u0 v1 kf (w2 + (0 : Int32)) (w3 + (1 : Int32)) else F_X9_status_L110 n u0 v1 kf (w2 + (1 : Int32)) (w3 + (1 : Int32)))))
def F_X9_status (n : Nat) (s : MS) (p1 : Int32) : Option Int32 := (if p1 = (0 : Int32) then some ((m_notches s)) else (if p1 = (1 : Int32) then some ((m_stones s)) else (if p1 = (2 : Int32) then some ((m_clouds s)) else (if p1 = (3 : Int32) then gd (inb (p1 - (3 : Int32)) 4) (some (((m_asked s) (Int32.toNatClampNeg (p1 - (3 : Int32)))))) else (if p1 = (4 : Int32) then gd (inb (p1 - (3 : Int32)) 4) (some (((m_asked s) (Int32.toNatClampNeg (p1 - (3 : Int32)))))) else (if p1 = (5 : Int32) then gd (inb (p1 - (3 : Int32)) 4) (some (((m_asked s) (Int32.toNatClampNeg (p1 - (3 : Int32)))))) else (if p1 = (6 : Int32) then gd (inb (p1 - (3 : Int32)) 4) (some (((m_asked s) (Int32.toNatClampNeg (p1 - (3 : Int32)))))) else (if p1 = (7 : Int32) then some ((m_today s)) else (if p1 = (8 : Int32) then some ((m_looks s)) else (if p1 = (9 : Int32) then some ((m_tapeSize s)) else (if p1 = (10 : Int32) then some ((m_seed s)) else (if p1 = (11 : Int32) then F_X9_status_L110 n s p1 n (0 : Int32) (0 : Int32) else bf (F_X9_in (Int32.toInt64 p1) (12 : Int64) (16 : Int64)) (gd (inb (p1 - (10 : Int32)) 8) (some (((m_refused s) (Int32.toNatClampNeg (p1 - (10 : Int32))))))) (some ((-1 : Int32)))))))))))))))
set_option maxHeartbeats 4000000 in
set_option maxRecDepth 100000 in
theorem c_X9_status (D : va_G) (cA : Nat → ClassId) (am : Nat → Nat) (s : MS) (n : Nat) (p1 : Int32) (r : Int32) (h : F_X9_status n s p1 = some r) : RO m_X9_status 1 D cA [.ref (am 0), .int p1] (mW cA am s) (some (.int r)) := by
  refine RO.ofW gy_X9_status.2.2 (Nat.le_of_ble_eq_true rfl) ?_
  intro l p e sM m below meth c F hr hlk hK hP hS hAb ls hl
  have hl : lv_has ls 4 [(0, .ref (am 0)), (1, .int p1)] := hl
  unfold F_X9_status at h
  refine lv_iconst (v := (0 : Int32)) F.1 F.2.1 (dd D_X9_status 0 rfl) ki_0 ?_
  refine lv_istore_n (lv' := [(2, .int (0 : Int32)), (0, .ref (am 0)), (1, .int p1)]) F.1 F.2.1 (dd D_X9_status 1 rfl) rfl hl (Nat.le_of_ble_eq_true rfl) rfl (fun ls hl => ?_)
  refine lv_iload_n F.1 F.2.1 (dd D_X9_status 2 rfl) rfl (lv_at hl 2 rfl) ?_
  refine x_ts (tgt := 64) F.1 F.2.1 (0 : Int32) (dd D_X9_status 3 rfl) h (by decide) (by decide) rfl rfl (fun c1_0 h => ?_) (fun c1_0 h => ?_)
  · refine lv_aload_n F.1 F.2.1 (dd D_X9_status 4 rfl) rfl (lv_at hl 1 rfl) ?_
    refine getF F hK hP lf_X9_116 (0) (mp_0 cA am s) rfl (dd D_X9_status 5 rfl) ?_
    exact ro_i (R := rmOf 1 0 0) F hr hlk (congrArg (Option.map Value.int) h) (dd D_X9_status 6 rfl)
  refine x_ts (tgt := 69) F.1 F.2.1 (1 : Int32) (dd D_X9_status 3 rfl) h (by decide) (by decide) rfl rfl (fun c1_1 h => ?_) (fun c1_1 h => ?_)
  · refine lv_aload_n F.1 F.2.1 (dd D_X9_status 7 rfl) rfl (lv_at hl 1 rfl) ?_
    refine getF F hK hP lf_X9_127 (0) (mp_0 cA am s) rfl (dd D_X9_status 8 rfl) ?_
    exact ro_i (R := rmOf 1 0 0) F hr hlk (congrArg (Option.map Value.int) h) (dd D_X9_status 9 rfl)
  refine x_ts (tgt := 74) F.1 F.2.1 (2 : Int32) (dd D_X9_status 3 rfl) h (by decide) (by decide) rfl rfl (fun c1_2 h => ?_) (fun c1_2 h => ?_)
  · refine lv_aload_n F.1 F.2.1 (dd D_X9_status 10 rfl) rfl (lv_at hl 1 rfl) ?_
    refine getF F hK hP lf_X9_130 (0) (mp_0 cA am s) rfl (dd D_X9_status 11 rfl) ?_
    exact ro_i (R := rmOf 1 0 0) F hr hlk (congrArg (Option.map Value.int) h) (dd D_X9_status 12 rfl)
  refine x_ts (tgt := 79) F.1 F.2.1 (3 : Int32) (dd D_X9_status 3 rfl) h (by decide) (by decide) rfl rfl (fun c1_3 h => ?_) (fun c1_3 h => ?_)
  · refine lv_aload_n F.1 F.2.1 (dd D_X9_status 13 rfl) rfl (lv_at hl 1 rfl) ?_
    refine getF F hK hP lf_X9_40 (0) (mp_0 cA am s) rfl (dd D_X9_status 14 rfl) ?_
    refine lv_iload_n F.1 F.2.1 (dd D_X9_status 15 rfl) rfl (lv_at hl 2 rfl) ?_
    refine lv_iconst (v := (3 : Int32)) F.1 F.2.1 (dd D_X9_status 16 rfl) ki_3 ?_
    refine lv_isub F.1 F.2.1 (dd D_X9_status 17 rfl) ?_
    refine aldI F hK hP (18) (mp_18 cA am s) h (dd D_X9_status 18 rfl) (fun z2 h => ?_)
    exact ro_i (R := rmOf 1 0 0) F hr hlk (congrArg (Option.map Value.int) h) (dd D_X9_status 19 rfl)
  refine x_ts (tgt := 79) F.1 F.2.1 (4 : Int32) (dd D_X9_status 3 rfl) h (by decide) (by decide) rfl rfl (fun c1_4 h => ?_) (fun c1_4 h => ?_)
  · refine lv_aload_n F.1 F.2.1 (dd D_X9_status 13 rfl) rfl (lv_at hl 1 rfl) ?_
    refine getF F hK hP lf_X9_40 (0) (mp_0 cA am s) rfl (dd D_X9_status 14 rfl) ?_
    refine lv_iload_n F.1 F.2.1 (dd D_X9_status 15 rfl) rfl (lv_at hl 2 rfl) ?_
    refine lv_iconst (v := (3 : Int32)) F.1 F.2.1 (dd D_X9_status 16 rfl) ki_3 ?_
    refine lv_isub F.1 F.2.1 (dd D_X9_status 17 rfl) ?_
    refine aldI F hK hP (18) (mp_18 cA am s) h (dd D_X9_status 18 rfl) (fun z3 h => ?_)
    exact ro_i (R := rmOf 1 0 0) F hr hlk (congrArg (Option.map Value.int) h) (dd D_X9_status 19 rfl)
  refine x_ts (tgt := 79) F.1 F.2.1 (5 : Int32) (dd D_X9_status 3 rfl) h (by decide) (by decide) rfl rfl (fun c1_5 h => ?_) (fun c1_5 h => ?_)
  · refine lv_aload_n F.1 F.2.1 (dd D_X9_status 13 rfl) rfl (lv_at hl 1 rfl) ?_
    refine getF F hK hP lf_X9_40 (0) (mp_0 cA am s) rfl (dd D_X9_status 14 rfl) ?_
    refine lv_iload_n F.1 F.2.1 (dd D_X9_status 15 rfl) rfl (lv_at hl 2 rfl) ?_
    refine lv_iconst (v := (3 : Int32)) F.1 F.2.1 (dd D_X9_status 16 rfl) ki_3 ?_
    refine lv_isub F.1 F.2.1 (dd D_X9_status 17 rfl) ?_
    refine aldI F hK hP (18) (mp_18 cA am s) h (dd D_X9_status 18 rfl) (fun z4 h => ?_)
    exact ro_i (R := rmOf 1 0 0) F hr hlk (congrArg (Option.map Value.int) h) (dd D_X9_status 19 rfl)
  refine x_ts (tgt := 79) F.1 F.2.1 (6 : Int32) (dd D_X9_status 3 rfl) h (by decide) (by decide) rfl rfl (fun c1_6 h => ?_) (fun c1_6 h => ?_)
  · refine lv_aload_n F.1 F.2.1 (dd D_X9_status 13 rfl) rfl (lv_at hl 1 rfl) ?_
    refine getF F hK hP lf_X9_40 (0) (mp_0 cA am s) rfl (dd D_X9_status 14 rfl) ?_
    refine lv_iload_n F.1 F.2.1 (dd D_X9_status 15 rfl) rfl (lv_at hl 2 rfl) ?_
    refine lv_iconst (v := (3 : Int32)) F.1 F.2.1 (dd D_X9_status 16 rfl) ki_3 ?_
    refine lv_isub F.1 F.2.1 (dd D_X9_status 17 rfl) ?_
    refine aldI F hK hP (18) (mp_18 cA am s) h (dd D_X9_status 18 rfl) (fun z5 h => ?_)
    exact ro_i (R := rmOf 1 0 0) F hr hlk (congrArg (Option.map Value.int) h) (dd D_X9_status 19 rfl)
  refine x_ts (tgt := 88) F.1 F.2.1 (7 : Int32) (dd D_X9_status 3 rfl) h (by decide) (by decide) rfl rfl (fun c1_7 h => ?_) (fun c1_7 h => ?_)
  · refine lv_aload_n F.1 F.2.1 (dd D_X9_status 20 rfl) rfl (lv_at hl 1 rfl) ?_
    refine getF F hK hP lf_X9_339 (0) (mp_0 cA am s) rfl (dd D_X9_status 21 rfl) ?_
    exact ro_i (R := rmOf 1 0 0) F hr hlk (congrArg (Option.map Value.int) h) (dd D_X9_status 22 rfl)
  refine x_ts (tgt := 93) F.1 F.2.1 (8 : Int32) (dd D_X9_status 3 rfl) h (by decide) (by decide) rfl rfl (fun c1_8 h => ?_) (fun c1_8 h => ?_)
  · refine lv_aload_n F.1 F.2.1 (dd D_X9_status 23 rfl) rfl (lv_at hl 1 rfl) ?_
    refine getF F hK hP lf_X9_336 (0) (mp_0 cA am s) rfl (dd D_X9_status 24 rfl) ?_
    exact ro_i (R := rmOf 1 0 0) F hr hlk (congrArg (Option.map Value.int) h) (dd D_X9_status 25 rfl)
  refine x_ts (tgt := 98) F.1 F.2.1 (9 : Int32) (dd D_X9_status 3 rfl) h (by decide) (by decide) rfl rfl (fun c1_9 h => ?_) (fun c1_9 h => ?_)
  · refine lv_aload_n F.1 F.2.1 (dd D_X9_status 26 rfl) rfl (lv_at hl 1 rfl) ?_
    refine getF F hK hP lf_X9_141 (0) (mp_0 cA am s) rfl (dd D_X9_status 27 rfl) ?_
    exact ro_i (R := rmOf 1 0 0) F hr hlk (congrArg (Option.map Value.int) h) (dd D_X9_status 28 rfl)
  refine x_ts (tgt := 103) F.1 F.2.1 (10 : Int32) (dd D_X9_status 3 rfl) h (by decide) (by decide) rfl rfl (fun c1_10 h => ?_) (fun c1_10 h => ?_)
  · refine lv_aload_n F.1 F.2.1 (dd D_X9_status 29 rfl) rfl (lv_at hl 1 rfl) ?_
    refine getF F hK hP lf_X9_54 (0) (mp_0 cA am s) rfl (dd D_X9_status 30 rfl) ?_
    exact ro_i (R := rmOf 1 0 0) F hr hlk (congrArg (Option.map Value.int) h) (dd D_X9_status 31 rfl)
  refine x_ts (tgt := 108) F.1 F.2.1 (11 : Int32) (dd D_X9_status 3 rfl) h (by decide) (by decide) rfl rfl (fun c1_11 h => ?_) (fun c1_11 h => ?_)
  · refine lv_iconst (v := (0 : Int32)) F.1 F.2.1 (dd D_X9_status 32 rfl) ki_0 ?_
    refine lv_istore_n (lv' := [(3, .int (0 : Int32)), (2, .int (0 : Int32)), (0, .ref (am 0)), (1, .int p1)]) F.1 F.2.1 (dd D_X9_status 33 rfl) rfl hl (Nat.le_of_ble_eq_true rfl) rfl (fun ls hl => ?_)
    have L9 : ∀ (kf : Nat) (w2_L9 : Int32) (w3_L9 : Int32) (ls : Array Slot), lv_has ls 4 [(0, .ref (am 0)), (1, .int p1), (2, .int w2_L9), (3, .int w3_L9)] → F_X9_status_L110 n s p1 kf w2_L9 w3_L9 = some r → Wro 1 (some (.int r)) p l e sM m ([.ref (am 0), .int p1] : List Value).toArray below meth c 110 ls [] := by
      intro kf
      induction kf with
      | zero =>
        intro w2_L9 w3_L9 ls hl h
        cases (show none = some r from h)
      | succ k_L9 ih_L9 =>
        intro w2_L9 w3_L9 ls hl h
        unfold F_X9_status_L110 at h
        refine lv_iload_n F.1 F.2.1 (dd D_X9_status 34 rfl) rfl (lv_at hl 3 rfl) ?_
        refine lv_bipush (v := (8 : Int32)) F.1 F.2.1 (dd D_X9_status 35 rfl) kb_8 ?_
        refine x_icmp_ge (tgt := 139) F.1 F.2.1 (dd D_X9_status 36 rfl) rfl h (fun c10 h => ?_) (fun c10 h => ?_)
        · refine lv_iload_n F.1 F.2.1 (dd D_X9_status 50 rfl) rfl (lv_at hl 2 rfl) ?_
          exact ro_i (R := rmOf 1 0 0) F hr hlk (congrArg (Option.map Value.int) h) (dd D_X9_status 51 rfl)
        · refine lv_iload_n F.1 F.2.1 (dd D_X9_status 37 rfl) rfl (lv_at hl 2 rfl) ?_
          refine lv_aload_n F.1 F.2.1 (dd D_X9_status 38 rfl) rfl (lv_at hl 0 rfl) ?_
          refine getF F hK hP lf_X9_7 (0) (mp_0 cA am s) rfl (dd D_X9_status 39 rfl) ?_
          refine lv_iload_n F.1 F.2.1 (dd D_X9_status 40 rfl) rfl (lv_at hl 3 rfl) ?_
          refine aldI F hK hP (1) (mp_1 cA am s) h (dd D_X9_status 41 rfl) (fun z11 h => ?_)
          refine x_if_eq (tgt := 130) F.1 F.2.1 (dd D_X9_status 42 rfl) rfl h (fun c12 h => ?_) (fun c12 h => ?_)
          · refine lv_iconst (v := (0 : Int32)) F.1 F.2.1 (dd D_X9_status 45 rfl) ki_0 ?_
            refine lv_iadd F.1 F.2.1 (dd D_X9_status 46 rfl) ?_
            refine lv_istore_n (lv' := [(2, .int (w2_L9 + (0 : Int32))), (0, .ref (am 0)), (1, .int p1), (3, .int w3_L9)]) F.1 F.2.1 (dd D_X9_status 47 rfl) rfl hl (Nat.le_of_ble_eq_true rfl) rfl (fun ls hl => ?_)
            refine lv_iinc (v := (w3_L9 + (1 : Int32))) (lv' := [(3, .int (w3_L9 + (1 : Int32))), (2, .int (w2_L9 + (0 : Int32))), (0, .ref (am 0)), (1, .int p1)]) F.1 F.2.1 (dd D_X9_status 48 rfl) hl (k := 3) rfl (congrArg (fun z => w3_L9 + z) ki_1) (Nat.le_of_ble_eq_true rfl) rfl (fun ls hl => ?_)
            refine lv_goto (tgt := 110) F.1 F.2.1 (dd D_X9_status 49 rfl) rfl ?_
            exact ih_L9 (w2_L9 + (0 : Int32)) (w3_L9 + (1 : Int32)) ls (lv_sub hl [2, 3, 1, 0] rfl) h
          · refine lv_iconst (v := (1 : Int32)) F.1 F.2.1 (dd D_X9_status 43 rfl) ki_1 ?_
            refine lv_goto (tgt := 131) F.1 F.2.1 (dd D_X9_status 44 rfl) rfl ?_
            refine lv_iadd F.1 F.2.1 (dd D_X9_status 46 rfl) ?_
            refine lv_istore_n (lv' := [(2, .int (w2_L9 + (1 : Int32))), (0, .ref (am 0)), (1, .int p1), (3, .int w3_L9)]) F.1 F.2.1 (dd D_X9_status 47 rfl) rfl hl (Nat.le_of_ble_eq_true rfl) rfl (fun ls hl => ?_)
            refine lv_iinc (v := (w3_L9 + (1 : Int32))) (lv' := [(3, .int (w3_L9 + (1 : Int32))), (2, .int (w2_L9 + (1 : Int32))), (0, .ref (am 0)), (1, .int p1)]) F.1 F.2.1 (dd D_X9_status 48 rfl) hl (k := 3) rfl (congrArg (fun z => w3_L9 + z) ki_1) (Nat.le_of_ble_eq_true rfl) rfl (fun ls hl => ?_)
            refine lv_goto (tgt := 110) F.1 F.2.1 (dd D_X9_status 49 rfl) rfl ?_
            exact ih_L9 (w2_L9 + (1 : Int32)) (w3_L9 + (1 : Int32)) ls (lv_sub hl [2, 3, 1, 0] rfl) h
    exact L9 n (0 : Int32) (0 : Int32) ls (lv_sub hl [2, 3, 1, 0] rfl) h
  refine lv_tableOut (tgt := 141) F.1 F.2.1 (dd D_X9_status 3 rfl) (ts_out (lo := 0) (vs := [(0 : Int32), (1 : Int32), (2 : Int32), (3 : Int32), (4 : Int32), (5 : Int32), (6 : Int32), (7 : Int32), (8 : Int32), (9 : Int32), (10 : Int32), (11 : Int32)]) tsv_0_12 (by intro v hv; simp only [List.mem_cons, List.not_mem_nil, or_false] at hv; rcases hv with rfl | rfl | rfl | rfl | rfl | rfl | rfl | rfl | rfl | rfl | rfl | rfl <;> assumption)) rfl ?_
  refine lv_iload_n F.1 F.2.1 (dd D_X9_status 52 rfl) rfl (lv_at hl 2 rfl) ?_
  refine lv_i2l (v := (Int32.toInt64 p1)) F.1 F.2.1 (dd D_X9_status 53 rfl) rfl ?_
  refine lv_ldc2 (own := RX9) (v := (12 : Int64)) F.1 F.2.1 F.2.2.2.1 (F.2.2.2.2 _ (kL_X9_352)) (dd D_X9_status 54 rfl) ?_
  refine lv_ldc2 (own := RX9) (v := (16 : Int64)) F.1 F.2.1 F.2.2.2.1 (F.2.2.2.2 _ (kL_X9_354)) (dd D_X9_status 55 rfl) ?_
  refine ro_go (st' := [.int (bI (F_X9_in (Int32.toInt64 p1) (12 : Int64) (16 : Int64)))]) (rS (rest := []) F (c_X9_in D cA (Int32.toInt64 p1) (12 : Int64) (16 : Int64) l) lk_X9_63 (Nat.le_of_ble_eq_true rfl) (preRO hK hS hAb (emP)) rfl hl rfl (Nat.le_of_ble_eq_true rfl) (dd D_X9_status 56 rfl) ⟨Nat.le_of_ble_eq_true rfl, Nat.le_of_ble_eq_true rfl⟩) rfl ?_
  refine x_bif_eq (tgt := 167) F.1 F.2.1 (dd D_X9_status 57 rfl) rfl h (fun c14 h => ?_) (fun c14 h => ?_)
  · refine lv_iconst (v := (-1 : Int32)) F.1 F.2.1 (dd D_X9_status 65 rfl) ki_m1 ?_
    exact ro_i (R := rmOf 1 0 0) F hr hlk (congrArg (Option.map Value.int) h) (dd D_X9_status 66 rfl)
  · refine lv_aload_n F.1 F.2.1 (dd D_X9_status 58 rfl) rfl (lv_at hl 1 rfl) ?_
    refine getF F hK hP lf_X9_37 (0) (mp_0 cA am s) rfl (dd D_X9_status 59 rfl) ?_
    refine lv_iload_n F.1 F.2.1 (dd D_X9_status 60 rfl) rfl (lv_at hl 2 rfl) ?_
    refine lv_bipush (v := (10 : Int32)) F.1 F.2.1 (dd D_X9_status 61 rfl) kb_10 ?_
    refine lv_isub F.1 F.2.1 (dd D_X9_status 62 rfl) ?_
    refine aldI F hK hP (17) (mp_17 cA am s) h (dd D_X9_status 63 rfl) (fun z13 h => ?_)
    refine lv_goto (tgt := 168) F.1 F.2.1 (dd D_X9_status 64 rfl) rfl ?_
    exact ro_i (R := rmOf 1 0 0) F hr hlk (congrArg (Option.map Value.int) h) (dd D_X9_status 66 rfl)

