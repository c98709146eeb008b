def F_X9_wrong (s : MS) : (Bool × MS) := (false, (m_set_fault s (m_frm s)))
set_option maxHeartbeats 4000000 in
set_option maxRecDepth 100000 in
theorem c_X9_wrong (D : va_G) (cA : Nat → ClassId) (am : Nat → Nat) (s : MS)  : RW m_X9_wrong 0 0 0 D cA [.ref (am 0)] (mW cA am s) (exq (some (.int (bI (F_X9_wrong s).1))) (mW cA am (F_X9_wrong s).2)) := by
  obtain ⟨r, h⟩ : ∃ r, F_X9_wrong s = r := ⟨_, rfl⟩
  rw [h]
  refine RW.ofW gy_X9_wrong.2.2 (Nat.le_of_ble_eq_true rfl) ?_
  intro l p e sM m below meth c A H locs F hr hlk hnm hK hP hD hS hA hAb ls hl
  have hl : lv_has ls 1 [(0, .ref (am 0))] := hl
  unfold F_X9_wrong at h
  refine lv_aload_n F.1 F.2.1 (dd D_X9_wrong 0 rfl) rfl (lv_at hl 0 rfl) ?_
  refine lv_aload_n F.1 F.2.1 (dd D_X9_wrong 1 rfl) rfl (lv_at hl 0 rfl) ?_
  refine getF F hK hP lf_X9_147 (0) (mp_0 cA am s) rfl (dd D_X9_wrong 2 rfl) ?_
  refine putF F hK hP hD hS lp_X9_163 (0) (mp_0 cA am s) (Nat.le_of_ble_eq_true rfl) (nar_int _) (fit_int _) (ws' := (mW cA am (m_set_fault s (m_frm s)))) (ms_0_26 cA am s (m_frm s)) (dd D_X9_wrong 3 rfl) (fun H locs hP hD hS => ?_)
  refine lv_iconst (v := (0 : Int32)) F.1 F.2.1 (dd D_X9_wrong 4 rfl) ki_0 ?_
  subst h
  exact rw_z (R := rmOf 0 0 0) F hP hD hS hr rfl hlk ⟨Nat.le_of_ble_eq_true rfl, Nat.le_of_ble_eq_true rfl⟩ ⟨rfl, rfl⟩ (dd D_X9_wrong 5 rfl)
def F_X9_isWord_L28 (n : Nat) (u0 : MS) (w : List Int32)  : Nat → Int32 → Option Bool
  | 0, _ => none
  | kf + 1, w2 => (if (nI (List.length w)) ≤ w2 then some (true) else gd (inb ((m_frm u0) + w2) 250) (gd (inb w2 (List.length w)) ((if ((m_tape u0) (Int32.toNatClampNeg ((m_frm u0) + w2))) = (strch w w2) then F_X9_isWord_L28 n u0 w kf (w2 + (1 : Int32)) else some (false)))))
def F_X9_isWord (n : Nat) (s : MS) (w : List Int32) : Option Bool := (if (m_token s) = (1 : Int32) then (if ((m_atp s) - (m_frm s)) = (nI (List.length w)) then F_X9_isWord_L28 n s w n (0 : Int32) else some (false)) else some (false))
set_option maxHeartbeats 4000000 in
set_option maxRecDepth 100000 in
theorem c_X9_isWord (D : va_G) (cA : Nat → ClassId) (am : Nat → Nat) (s : MS) (sa : Nat) (w : List Int32) (hw : w.length < 2 ^ 31) (n : Nat)  (r : Bool) (h : F_X9_isWord n s w = some r) : ROX m_X9_isWord 5 D cA [.ref (am 0), .ref sa] (mW cA am s) (isStr cA sa w) (some (.int (bI r))) := by
  refine ROX.ofW gy_X9_isWord.2.2 (Nat.le_of_ble_eq_true rfl) ?_
  intro l p e sM m below meth c F hr hlk hK hP hS hAb hE ls hl
  have hl : lv_has ls 3 [(0, .ref (am 0)), (1, .ref sa)] := hl
  unfold F_X9_isWord at h
  refine lv_aload_n F.1 F.2.1 (dd D_X9_isWord 0 rfl) rfl (lv_at hl 0 rfl) ?_
  refine getF F hK hP lf_X9_153 (0) (mp_0 cA am s) rfl (dd D_X9_isWord 1 rfl) ?_
  refine lv_iconst (v := (1 : Int32)) F.1 F.2.1 (dd D_X9_isWord 2 rfl) ki_1 ?_
  refine x_icmp_ne (tgt := 24) F.1 F.2.1 (dd D_X9_isWord 3 rfl) rfl h (fun c1 h => ?_) (fun c1 h => ?_)
  · refine lv_iconst (v := (0 : Int32)) F.1 F.2.1 (dd D_X9_isWord 12 rfl) ki_0 ?_
    exact ro_z (R := rmOf 5 0 0) F hr rfl hlk (congrArg (Option.map fun z => Value.int (bI z)) h) (dd D_X9_isWord 13 rfl)
  · refine lv_aload_n F.1 F.2.1 (dd D_X9_isWord 4 rfl) rfl (lv_at hl 0 rfl) ?_
    refine getF F hK hP lf_X9_144 (0) (mp_0 cA am s) rfl (dd D_X9_isWord 5 rfl) ?_
    refine lv_aload_n F.1 F.2.1 (dd D_X9_isWord 6 rfl) rfl (lv_at hl 0 rfl) ?_
    refine getF F hK hP lf_X9_147 (0) (mp_0 cA am s) rfl (dd D_X9_isWord 7 rfl) ?_
    refine lv_isub F.1 F.2.1 (dd D_X9_isWord 8 rfl) ?_
    refine lv_aload_n F.1 F.2.1 (dd D_X9_isWord 9 rfl) rfl (lv_at hl 1 rfl) ?_
    refine ro_go (st' := [.int (nI (List.length w)), .int ((m_atp s) - (m_frm s))]) (rV (rest := [.int ((m_atp s) - (m_frm s))]) F (c_J0_length_8abf5 D cA sa w l) lk_X9_166 (Nat.le_of_ble_eq_true rfl) (preStr hK hS hAb emP hE) (rcvStr hS hAb hE) rfl hl rfl (Nat.le_of_ble_eq_true rfl) (dd D_X9_isWord 10 rfl) ⟨(Nat.le_of_ble_eq_true rfl), (Nat.le_of_ble_eq_true rfl)⟩) rfl ?_
    refine x_icmp_eq (tgt := 26) F.1 F.2.1 (dd D_X9_isWord 11 rfl) rfl h (fun c2 h => ?_) (fun c2 h => ?_)
    · refine lv_iconst (v := (0 : Int32)) F.1 F.2.1 (dd D_X9_isWord 14 rfl) ki_0 ?_
      refine lv_istore_n (lv' := [(2, .int (0 : Int32)), (0, .ref (am 0)), (1, .ref sa)]) F.1 F.2.1 (dd D_X9_isWord 15 rfl) rfl hl (Nat.le_of_ble_eq_true rfl) rfl (fun ls hl => ?_)
      have L7 : ∀ (kf : Nat) (w2_L7 : Int32) (ls : Array Slot), lv_has ls 3 [(0, .ref (am 0)), (1, .ref sa), (2, .int w2_L7)] → F_X9_isWord_L28 n s w kf w2_L7 = some r → Wro 5 (some (.int (bI r))) p l e sM m ([.ref (am 0), .ref sa] : List Value).toArray below meth c 28 ls [] := by
        intro kf
        induction kf with
        | zero =>
          intro w2_L7 ls hl h
          cases (show none = some r from h)
        | succ k_L7 ih_L7 =>
          intro w2_L7 ls hl h
          unfold F_X9_isWord_L28 at h
          refine lv_iload_n F.1 F.2.1 (dd D_X9_isWord 16 rfl) rfl (lv_at hl 2 rfl) ?_
          refine lv_aload_n F.1 F.2.1 (dd D_X9_isWord 17 rfl) rfl (lv_at hl 1 rfl) ?_
          refine ro_go (st' := [.int (nI (List.length w)), .int w2_L7]) (rV (rest := [.int w2_L7]) F (c_J0_length_8abf5 D cA sa w l) lk_X9_166 (Nat.le_of_ble_eq_true rfl) (preStr hK hS hAb emP hE) (rcvStr hS hAb hE) rfl hl rfl (Nat.le_of_ble_eq_true rfl) (dd D_X9_isWord 18 rfl) ⟨(Nat.le_of_ble_eq_true rfl), (Nat.le_of_ble_eq_true rfl)⟩) rfl ?_
          refine x_icmp_ge (tgt := 63) F.1 F.2.1 (dd D_X9_isWord 19 rfl) rfl h (fun c8 h => ?_) (fun c8 h => ?_)
          · refine lv_iconst (v := (1 : Int32)) F.1 F.2.1 (dd D_X9_isWord 35 rfl) ki_1 ?_
            exact ro_z (R := rmOf 5 0 0) F hr rfl hlk (congrArg (Option.map fun z => Value.int (bI z)) h) (dd D_X9_isWord 36 rfl)
          · refine lv_aload_n F.1 F.2.1 (dd D_X9_isWord 20 rfl) rfl (lv_at hl 0 rfl) ?_
            refine getF F hK hP lf_X9_34 (0) (mp_0 cA am s) rfl (dd D_X9_isWord 21 rfl) ?_
            refine lv_aload_n F.1 F.2.1 (dd D_X9_isWord 22 rfl) rfl (lv_at hl 0 rfl) ?_
            refine getF F hK hP lf_X9_147 (0) (mp_0 cA am s) rfl (dd D_X9_isWord 23 rfl) ?_
            refine lv_iload_n F.1 F.2.1 (dd D_X9_isWord 24 rfl) rfl (lv_at hl 2 rfl) ?_
            refine lv_iadd F.1 F.2.1 (dd D_X9_isWord 25 rfl) ?_
            refine aldI F hK hP (16) (mp_16 cA am s) h (dd D_X9_isWord 26 rfl) (fun z9 h => ?_)
            refine lv_aload_n F.1 F.2.1 (dd D_X9_isWord 27 rfl) rfl (lv_at hl 1 rfl) ?_
            refine lv_iload_n F.1 F.2.1 (dd D_X9_isWord 28 rfl) rfl (lv_at hl 2 rfl) ?_
            obtain ⟨z10, h⟩ := gd_some h
            refine ro_go (st' := [.int (strch w w2_L7), .int ((m_tape s) (Int32.toNatClampNeg ((m_frm s) + w2_L7)))]) (rV (rest := [.int ((m_tape s) (Int32.toNatClampNeg ((m_frm s) + w2_L7)))]) F (c_J0_charAt_5068e D cA sa w w2_L7 hw z10 l) lk_X9_172 (Nat.le_of_ble_eq_true rfl) (preStr hK hS hAb emP hE) (rcvStr hS hAb hE) rfl hl rfl (Nat.le_of_ble_eq_true rfl) (dd D_X9_isWord 29 rfl) ⟨(Nat.le_of_ble_eq_true rfl), (Nat.le_of_ble_eq_true rfl)⟩) rfl ?_
            refine x_icmp_eq (tgt := 57) F.1 F.2.1 (dd D_X9_isWord 30 rfl) rfl h (fun c11 h => ?_) (fun c11 h => ?_)
            · refine lv_iinc (v := (w2_L7 + (1 : Int32))) (lv' := [(2, .int (w2_L7 + (1 : Int32))), (0, .ref (am 0)), (1, .ref sa)]) F.1 F.2.1 (dd D_X9_isWord 33 rfl) hl (k := 2) rfl (congrArg (fun z => w2_L7 + z) ki_1) (Nat.le_of_ble_eq_true rfl) rfl (fun ls hl => ?_)
              refine lv_goto (tgt := 28) F.1 F.2.1 (dd D_X9_isWord 34 rfl) rfl ?_
              exact ih_L7 (w2_L7 + (1 : Int32)) ls (lv_sub hl [1, 2, 0] rfl) h
            · refine lv_iconst (v := (0 : Int32)) F.1 F.2.1 (dd D_X9_isWord 31 rfl) ki_0 ?_
              exact ro_z (R := rmOf 5 0 0) F hr rfl hlk (congrArg (Option.map fun z => Value.int (bI z)) h) (dd D_X9_isWord 32 rfl)
      exact L7 n (0 : Int32) ls (lv_sub hl [1, 2, 0] rfl) h
    · refine lv_iconst (v := (0 : Int32)) F.1 F.2.1 (dd D_X9_isWord 12 rfl) ki_0 ?_
      exact ro_z (R := rmOf 5 0 0) F hr rfl hlk (congrArg (Option.map fun z => Value.int (bI z)) h) (dd D_X9_isWord 13 rfl)
def F_X9_number (n : Nat) (s : MS) (p1 : Int32) (p2 : Int32) (p3 : Int32) : Option (Bool × MS) := (if (m_token s) = (2 : Int32) then bf (F_X9_in (Int32.toInt64 (m_figures s)) (Int32.toInt64 p2) (Int32.toInt64 p3)) (gd (inb p1 3) ((((F_X9_look n (m_set_told s (upd (m_told s) (Int32.toNatClampNeg p1) (m_figures s))))).bind fun r3 => some (true, r3)))) (some ((F_X9_wrong s).1, (F_X9_wrong s).2)) else some ((F_X9_wrong s).1, (F_X9_wrong s).2))
set_option maxHeartbeats 4000000 in
set_option maxRecDepth 100000 in
theorem c_X9_number (D : va_G) (cA : Nat → ClassId) (am : Nat → Nat) (s : MS) (n : Nat) (p1 : Int32) (p2 : Int32) (p3 : Int32) (r : (Bool × MS)) (h : F_X9_number n s p1 p2 p3 = some r) : RW m_X9_number 2 0 0 D cA [.ref (am 0), .int p1, .int p2, .int p3] (mW cA am s) (exq (some (.int (bI r.1))) (mW cA am r.2)) := by
  refine RW.ofW gy_X9_number.2.2 (Nat.le_of_ble_eq_true rfl) ?_
  intro l p e sM m below meth c A H locs F hr hlk hnm hK hP hD hS hA hAb ls hl
  have hl : lv_has ls 4 [(0, .ref (am 0)), (1, .int p1), (2, .int p2), (3, .int p3)] := hl
  unfold F_X9_number at h
  refine lv_aload_n F.1 F.2.1 (dd D_X9_number 0 rfl) rfl (lv_at hl 0 rfl) ?_
  refine getF F hK hP lf_X9_153 (0) (mp_0 cA am s) rfl (dd D_X9_number 1 rfl) ?_
  refine lv_iconst (v := (2 : Int32)) F.1 F.2.1 (dd D_X9_number 2 rfl) ki_2 ?_
  refine x_icmp_ne (tgt := 23) F.1 F.2.1 (dd D_X9_number 3 rfl) rfl h (fun c1 h => ?_) (fun c1 h => ?_)
  · refine lv_aload_n F.1 F.2.1 (dd D_X9_number 13 rfl) rfl (lv_at hl 0 rfl) ?_
    refine rwe_all (st' := [.int (bI (F_X9_wrong s).1)]) hD hS hA (rV (rest := []) F (c_X9_wrong D cA am s l H.size) lk_X9_176 (Nat.le_of_ble_eq_true rfl) (preRW hK hS hAb hP hD) (rcv_9 hK hP (q0 := (0)) (mp_0 cA am s)) rfl hl rfl (Nat.le_of_ble_eq_true rfl) (dd D_X9_number 14 rfl) ⟨Nat.le_of_ble_eq_true rfl, Nat.le_of_ble_eq_true rfl⟩) rfl (fun H locs hP hD hS => ?_)
    obtain rfl := Option.some.inj h
    exact rw_z (R := rmOf 2 0 0) F hP hD hS hr (bI_nar _) hlk ⟨Nat.le_of_ble_eq_true rfl, Nat.le_of_ble_eq_true rfl⟩ ⟨rfl, rfl⟩ (dd D_X9_number 15 rfl)
  · refine lv_aload_n F.1 F.2.1 (dd D_X9_number 4 rfl) rfl (lv_at hl 0 rfl) ?_
    refine getF F hK hP lf_X9_150 (0) (mp_0 cA am s) rfl (dd D_X9_number 5 rfl) ?_
    refine lv_i2l (v := (Int32.toInt64 (m_figures s))) F.1 F.2.1 (dd D_X9_number 6 rfl) rfl ?_
    refine lv_iload_n F.1 F.2.1 (dd D_X9_number 7 rfl) rfl (lv_at hl 2 rfl) ?_
    refine lv_i2l (v := (Int32.toInt64 p2)) F.1 F.2.1 (dd D_X9_number 8 rfl) rfl ?_
    refine lv_iload_n F.1 F.2.1 (dd D_X9_number 9 rfl) rfl (lv_at hl 3 rfl) ?_
    refine lv_i2l (v := (Int32.toInt64 p3)) F.1 F.2.1 (dd D_X9_number 10 rfl) rfl ?_
    refine ro_go (st' := [.int (bI (F_X9_in (Int32.toInt64 (m_figures s)) (Int32.toInt64 p2) (Int32.toInt64 p3)))]) (rS (rest := []) F (c_X9_in D cA (Int32.toInt64 (m_figures s)) (Int32.toInt64 p2) (Int32.toInt64 p3) l) lk_X9_63 (Nat.le_of_ble_eq_true rfl) (preRO hK hS hAb (emP)) rfl hl rfl (Nat.le_of_ble_eq_true rfl) (dd D_X9_number 11 rfl) ⟨Nat.le_of_ble_eq_true rfl, Nat.le_of_ble_eq_true rfl⟩) rfl ?_
    refine x_bif_ne (tgt := 28) F.1 F.2.1 (dd D_X9_number 12 rfl) rfl h (fun c5 h => ?_) (fun c5 h => ?_)
    · refine lv_aload_n F.1 F.2.1 (dd D_X9_number 16 rfl) rfl (lv_at hl 0 rfl) ?_
      refine getF F hK hP lf_X9_58 (0) (mp_0 cA am s) rfl (dd D_X9_number 17 rfl) ?_
      refine lv_iload_n F.1 F.2.1 (dd D_X9_number 18 rfl) rfl (lv_at hl 1 rfl) ?_
      refine lv_aload_n F.1 F.2.1 (dd D_X9_number 19 rfl) rfl (lv_at hl 0 rfl) ?_
      refine getF F hK hP lf_X9_150 (0) (mp_0 cA am s) rfl (dd D_X9_number 20 rfl) ?_
      refine astI F hK hP hD hS (30) (mp_30 cA am s) h (ws' := (mW cA am (m_set_told s (upd (m_told s) (Int32.toNatClampNeg p1) (m_figures s))))) (ms_30 cA am s (upd (m_told s) (Int32.toNatClampNeg p1) (m_figures s))) (dd D_X9_number 21 rfl) (fun z2 h H locs hP hD hS => ?_)
      refine lv_aload_n F.1 F.2.1 (dd D_X9_number 22 rfl) rfl (lv_at hl 0 rfl) ?_
      obtain ⟨r3, e4, h⟩ := Option.bind_eq_some_iff.mp h
      refine rwe_all (st' := []) hD hS hA (rV (rest := []) F (c_X9_look D cA am (m_set_told s (upd (m_told s) (Int32.toNatClampNeg p1) (m_figures s))) n r3 e4 l H.size) lk_X9_180 (Nat.le_of_ble_eq_true rfl) (preRW hK hS hAb hP hD) (rcv_9 hK hP (q0 := (0)) (mp_0 cA am (m_set_told s (upd (m_told s) (Int32.toNatClampNeg p1) (m_figures s))))) rfl hl rfl (Nat.le_of_ble_eq_true rfl) (dd D_X9_number 23 rfl) ⟨Nat.le_of_ble_eq_true rfl, Nat.le_of_ble_eq_true rfl⟩) rfl (fun H locs hP hD hS => ?_)
      refine lv_iconst (v := (1 : Int32)) F.1 F.2.1 (dd D_X9_number 24 rfl) ki_1 ?_
      obtain rfl := Option.some.inj h
      exact rw_z (R := rmOf 2 0 0) F hP hD hS hr rfl hlk ⟨Nat.le_of_ble_eq_true rfl, Nat.le_of_ble_eq_true rfl⟩ ⟨rfl, rfl⟩ (dd D_X9_number 25 rfl)
    · refine lv_aload_n F.1 F.2.1 (dd D_X9_number 13 rfl) rfl (lv_at hl 0 rfl) ?_
      refine rwe_all (st' := [.int (bI (F_X9_wrong s).1)]) hD hS hA (rV (rest := []) F (c_X9_wrong D cA am s l H.size) lk_X9_176 (Nat.le_of_ble_eq_true rfl) (preRW hK hS hAb hP hD) (rcv_9 hK hP (q0 := (0)) (mp_0 cA am s)) rfl hl rfl (Nat.le_of_ble_eq_true rfl) (dd D_X9_number 14 rfl) ⟨Nat.le_of_ble_eq_true rfl, Nat.le_of_ble_eq_true rfl⟩) rfl (fun H locs hP hD hS => ?_)
      obtain rfl := Option.some.inj h
      exact rw_z (R := rmOf 2 0 0) F hP hD hS hr (bI_nar _) hlk ⟨Nat.le_of_ble_eq_true rfl, Nat.le_of_ble_eq_true rfl⟩ ⟨rfl, rfl⟩ (dd D_X9_number 15 rfl)
def F_X9_tells (n : Nat) (s : MS) (p1 : Int32) : Option (Bool × MS) := (((F_X9_look n s)).bind fun r1 => (((F_X9_number n r1 (0 : Int32) (0 : Int32) p1)).bind fun r3 => some (r3.1, r3.2)))
set_option maxHeartbeats 4000000 in
set_option maxRecDepth 100000 in
theorem c_X9_tells (D : va_G) (cA : Nat → ClassId) (am : Nat → Nat) (s : MS) (n : Nat) (p1 : Int32) (r : (Bool × MS)) (h : F_X9_tells n s p1 = some r) : RW m_X9_tells 3 0 0 D cA [.ref (am 0), .int p1] (mW cA am s) (exq (some (.int (bI r.1))) (mW cA am r.2)) := by
  refine RW.ofW gy_X9_tells.2.2 (Nat.le_of_ble_eq_true rfl) ?_
  intro l p e sM m below meth c A H locs F hr hlk hnm hK hP hD hS hA hAb ls hl
  have hl : lv_has ls 2 [(0, .ref (am 0)), (1, .int p1)] := hl
  unfold F_X9_tells at h
  refine lv_aload_n F.1 F.2.1 (dd D_X9_tells 0 rfl) rfl (lv_at hl 0 rfl) ?_
  obtain ⟨r1, e2, h⟩ := Option.bind_eq_some_iff.mp h
  refine rwe_all (st' := []) hD hS hA (rV (rest := []) F (c_X9_look D cA am s n r1 e2 l H.size) lk_X9_180 (Nat.le_of_ble_eq_true rfl) (preRW hK hS hAb hP hD) (rcv_9 hK hP (q0 := (0)) (mp_0 cA am s)) rfl hl rfl (Nat.le_of_ble_eq_true rfl) (dd D_X9_tells 1 rfl) ⟨Nat.le_of_ble_eq_true rfl, Nat.le_of_ble_eq_true rfl⟩) rfl (fun H locs hP hD hS => ?_)
  refine lv_aload_n F.1 F.2.1 (dd D_X9_tells 2 rfl) rfl (lv_at hl 0 rfl) ?_
  refine lv_iconst (v := (0 : Int32)) F.1 F.2.1 (dd D_X9_tells 3 rfl) ki_0 ?_
  refine lv_iconst (v := (0 : Int32)) F.1 F.2.1 (dd D_X9_tells 4 rfl) ki_0 ?_
  refine lv_iload_n F.1 F.2.1 (dd D_X9_tells 5 rfl) rfl (lv_at hl 1 rfl) ?_
  obtain ⟨r3, e4, h⟩ := Option.bind_eq_some_iff.mp h
  refine rwe_all (st' := [.int (bI r3.1)]) hD hS hA (rV (rest := []) F (c_X9_number D cA am r1 n (0 : Int32) (0 : Int32) p1 r3 e4 l H.size) lk_X9_183 (Nat.le_of_ble_eq_true rfl) (preRW hK hS hAb hP hD) (rcv_9 hK hP (q0 := (0)) (mp_0 cA am r1)) rfl hl rfl (Nat.le_of_ble_eq_true rfl) (dd D_X9_tells 6 rfl) ⟨Nat.le_of_ble_eq_true rfl, Nat.le_of_ble_eq_true rfl⟩) rfl (fun H locs hP hD hS => ?_)
  obtain rfl := Option.some.inj h
  exact rw_z (R := rmOf 3 0 0) F hP hD hS hr (bI_nar _) hlk ⟨Nat.le_of_ble_eq_true rfl, Nat.le_of_ble_eq_true rfl⟩ ⟨rfl, rfl⟩ (dd D_X9_tells 7 rfl)
def F_X9_askedTold (n : Nat) (s : MS) (p1 : Int32) : Option (Bool × MS) := (((F_X9_tells n s (9999 : Int32))).bind fun r1 => bf r1.1 (gd (inb (0 : Int32) 3) (gd (inb p1 4) (some (r1.1, (m_set_asked r1.2 (upd (m_asked r1.2) (Int32.toNatClampNeg p1) ((m_told r1.2) (Int32.toNatClampNeg (0 : Int32))))))))) (gd (inb p1 4) (gd (inb p1 4) (some (r1.1, (m_set_asked r1.2 (upd (m_asked r1.2) (Int32.toNatClampNeg p1) ((m_asked r1.2) (Int32.toNatClampNeg p1)))))))))
set_option maxHeartbeats 4000000 in
set_option maxRecDepth 100000 in
theorem c_X9_askedTold (D : va_G) (cA : Nat → ClassId) (am : Nat → Nat) (s : MS) (n : Nat) (p1 : Int32) (r : (Bool × MS)) (h : F_X9_askedTold n s p1 = some r) : RW m_X9_askedTold 4 0 0 D cA [.ref (am 0), .int p1] (mW cA am s) (exq (some (.int (bI r.1))) (mW cA am r.2)) := by
  refine RW.ofW gy_X9_askedTold.2.2 (Nat.le_of_ble_eq_true rfl) ?_
  intro l p e sM m below meth c A H locs F hr hlk hnm hK hP hD hS hA hAb ls hl
  have hl : lv_has ls 3 [(0, .ref (am 0)), (1, .int p1)] := hl
  unfold F_X9_askedTold at h
  refine lv_aload_n F.1 F.2.1 (dd D_X9_askedTold 0 rfl) rfl (lv_at hl 0 rfl) ?_
  refine lv_sipush (v := (9999 : Int32)) F.1 F.2.1 (dd D_X9_askedTold 1 rfl) ks_9999 ?_
  obtain ⟨r1, e2, h⟩ := Option.bind_eq_some_iff.mp h
  refine rwe_all (st' := [.int (bI r1.1)]) hD hS hA (rV (rest := []) F (c_X9_tells D cA am s n (9999 : Int32) r1 e2 l H.size) lk_X9_187 (Nat.le_of_ble_eq_true rfl) (preRW hK hS hAb hP hD) (rcv_9 hK hP (q0 := (0)) (mp_0 cA am s)) rfl hl rfl (Nat.le_of_ble_eq_true rfl) (dd D_X9_askedTold 2 rfl) ⟨Nat.le_of_ble_eq_true rfl, Nat.le_of_ble_eq_true rfl⟩) rfl (fun H locs hP hD hS => ?_)
  refine lv_istore_n (lv' := [(2, .int (bI r1.1)), (0, .ref (am 0)), (1, .int p1)]) F.1 F.2.1 (dd D_X9_askedTold 3 rfl) rfl hl (Nat.le_of_ble_eq_true rfl) rfl (fun ls hl => ?_)
  refine lv_aload_n F.1 F.2.1 (dd D_X9_askedTold 4 rfl) rfl (lv_at hl 1 rfl) ?_
  refine getF F hK hP lf_X9_40 (0) (mp_0 cA am r1.2) rfl (dd D_X9_askedTold 5 rfl) ?_
  refine lv_iload_n F.1 F.2.1 (dd D_X9_askedTold 6 rfl) rfl (lv_at hl 2 rfl) ?_
  refine lv_iload_n F.1 F.2.1 (dd D_X9_askedTold 7 rfl) rfl (lv_at hl 0 rfl) ?_
  refine x_bif_eq (tgt := 26) F.1 F.2.1 (dd D_X9_askedTold 8 rfl) rfl h (fun c7 h => ?_) (fun c7 h => ?_)
  · refine lv_aload_n F.1 F.2.1 (dd D_X9_askedTold 14 rfl) rfl (lv_at hl 1 rfl) ?_
    refine getF F hK hP lf_X9_40 (0) (mp_0 cA am r1.2) rfl (dd D_X9_askedTold 15 rfl) ?_
    refine lv_iload_n F.1 F.2.1 (dd D_X9_askedTold 16 rfl) rfl (lv_at hl 2 rfl) ?_
    refine aldI F hK hP (18) (mp_18 cA am r1.2) h (dd D_X9_askedTold 17 rfl) (fun z3 h => ?_)
    refine astI F hK hP hD hS (18) (mp_18 cA am r1.2) h (ws' := (mW cA am (m_set_asked r1.2 (upd (m_asked r1.2) (Int32.toNatClampNeg p1) ((m_asked r1.2) (Int32.toNatClampNeg p1)))))) (ms_18 cA am r1.2 (upd (m_asked r1.2) (Int32.toNatClampNeg p1) ((m_asked r1.2) (Int32.toNatClampNeg p1)))) (dd D_X9_askedTold 18 rfl) (fun z4 h H locs hP hD hS => ?_)
    refine lv_iload_n F.1 F.2.1 (dd D_X9_askedTold 19 rfl) rfl (lv_at hl 0 rfl) ?_
    obtain rfl := Option.some.inj h
    exact rw_z (R := rmOf 4 0 0) F hP hD hS hr (bI_nar _) hlk ⟨Nat.le_of_ble_eq_true rfl, Nat.le_of_ble_eq_true rfl⟩ ⟨rfl, rfl⟩ (dd D_X9_askedTold 20 rfl)
  · refine lv_aload_n F.1 F.2.1 (dd D_X9_askedTold 9 rfl) rfl (lv_at hl 1 rfl) ?_
    refine getF F hK hP lf_X9_58 (0) (mp_0 cA am r1.2) rfl (dd D_X9_askedTold 10 rfl) ?_
    refine lv_iconst (v := (0 : Int32)) F.1 F.2.1 (dd D_X9_askedTold 11 rfl) ki_0 ?_
    refine aldI F hK hP (30) (mp_30 cA am r1.2) h (dd D_X9_askedTold 12 rfl) (fun z5 h => ?_)
    refine lv_goto (tgt := 32) F.1 F.2.1 (dd D_X9_askedTold 13 rfl) rfl ?_
    refine astI F hK hP hD hS (18) (mp_18 cA am r1.2) h (ws' := (mW cA am (m_set_asked r1.2 (upd (m_asked r1.2) (Int32.toNatClampNeg p1) ((m_told r1.2) (Int32.toNatClampNeg (0 : Int32))))))) (ms_18 cA am r1.2 (upd (m_asked r1.2) (Int32.toNatClampNeg p1) ((m_told r1.2) (Int32.toNatClampNeg (0 : Int32))))) (dd D_X9_askedTold 18 rfl) (fun z6 h H locs hP hD hS => ?_)
    refine lv_iload_n F.1 F.2.1 (dd D_X9_askedTold 19 rfl) rfl (lv_at hl 0 rfl) ?_
    obtain rfl := Option.some.inj h
    exact rw_z (R := rmOf 4 0 0) F hP hD hS hr (bI_nar _) hlk ⟨Nat.le_of_ble_eq_true rfl, Nat.le_of_ble_eq_true rfl⟩ ⟨rfl, rfl⟩ (dd D_X9_askedTold 20 rfl)
def F_X9_cloudTold (n : Nat) (s : MS) : Option (Bool × MS) := (((F_X9_look n s)).bind fun r1 => (if (m_token r1) = (2 : Int32) then (((F_X9_isCloud n r1 (m_figures r1))).bind fun r9 => bf r9 (some ((F_X9_wrong r1).1, (F_X9_wrong r1).2)) ((((F_X9_number n r1 (0 : Int32) (0 : Int32) (9999 : Int32))).bind fun r11 => bf r11.1 (gd (inb (0 : Int32) 3) (gd (inb (m_clouds r11.2) 8) (some (true, (m_set_cloud (m_set_clouds r11.2 ((m_clouds r11.2) + (1 : Int32))) (upd (m_cloud (m_set_clouds r11.2 ((m_clouds r11.2) + (1 : Int32)))) (Int32.toNatClampNeg (m_clouds r11.2)) ((m_told (m_set_clouds r11.2 ((m_clouds r11.2) + (1 : Int32)))) (Int32.toNatClampNeg (0 : Int32))))))))) (some ((F_X9_wrong r11.2).1, (F_X9_wrong r11.2).2))))) else (((F_X9_number n r1 (0 : Int32) (0 : Int32) (9999 : Int32))).bind fun r4 => bf r4.1 (gd (inb (0 : Int32) 3) (gd (inb (m_clouds r4.2) 8) (some (true, (m_set_cloud (m_set_clouds r4.2 ((m_clouds r4.2) + (1 : Int32))) (upd (m_cloud (m_set_clouds r4.2 ((m_clouds r4.2) + (1 : Int32)))) (Int32.toNatClampNeg (m_clouds r4.2)) ((m_told (m_set_clouds r4.2 ((m_clouds r4.2) + (1 : Int32)))) (Int32.toNatClampNeg (0 : Int32))))))))) (some ((F_X9_wrong r4.2).1, (F_X9_wrong r4.2).2)))))
set_option maxHeartbeats 4000000 in
set_option maxRecDepth 100000 in
theorem c_X9_cloudTold (D : va_G) (cA : Nat → ClassId) (am : Nat → Nat) (s : MS) (n : Nat)  (r : (Bool × MS)) (h : F_X9_cloudTold n s = some r) : RW m_X9_cloudTold 3 0 0 D cA [.ref (am 0)] (mW cA am s) (exq (some (.int (bI r.1))) (mW cA am r.2)) := by
  refine RW.ofW gy_X9_cloudTold.2.2 (Nat.le_of_ble_eq_true rfl) ?_
  intro l p e sM m below meth c A H locs F hr hlk hnm hK hP hD hS hA hAb ls hl
  have hl : lv_has ls 1 [(0, .ref (am 0))] := hl
  unfold F_X9_cloudTold at h
  refine lv_aload_n F.1 F.2.1 (dd D_X9_cloudTold 0 rfl) rfl (lv_at hl 0 rfl) ?_
  obtain ⟨r1, e2, h⟩ := Option.bind_eq_some_iff.mp h
  refine rwe_all (st' := []) hD hS hA (rV (rest := []) F (c_X9_look D cA am s n r1 e2 l H.size) lk_X9_180 (Nat.le_of_ble_eq_true rfl) (preRW hK hS hAb hP hD) (rcv_9 hK hP (q0 := (0)) (mp_0 cA am s)) rfl hl rfl (Nat.le_of_ble_eq_true rfl) (dd D_X9_cloudTold 1 rfl) ⟨Nat.le_of_ble_eq_true rfl, Nat.le_of_ble_eq_true rfl⟩) rfl (fun H locs hP hD hS => ?_)
  refine lv_aload_n F.1 F.2.1 (dd D_X9_cloudTold 2 rfl) rfl (lv_at hl 0 rfl) ?_
  refine getF F hK hP lf_X9_153 (0) (mp_0 cA am r1) rfl (dd D_X9_cloudTold 3 rfl) ?_
  refine lv_iconst (v := (2 : Int32)) F.1 F.2.1 (dd D_X9_cloudTold 4 rfl) ki_2 ?_
  refine x_icmp_ne (tgt := 23) F.1 F.2.1 (dd D_X9_cloudTold 5 rfl) rfl h (fun c3 h => ?_) (fun c3 h => ?_)
  · refine lv_aload_n F.1 F.2.1 (dd D_X9_cloudTold 11 rfl) rfl (lv_at hl 0 rfl) ?_
    refine lv_iconst (v := (0 : Int32)) F.1 F.2.1 (dd D_X9_cloudTold 12 rfl) ki_0 ?_
    refine lv_iconst (v := (0 : Int32)) F.1 F.2.1 (dd D_X9_cloudTold 13 rfl) ki_0 ?_
    refine lv_sipush (v := (9999 : Int32)) F.1 F.2.1 (dd D_X9_cloudTold 14 rfl) ks_9999 ?_
    obtain ⟨r4, e5, h⟩ := Option.bind_eq_some_iff.mp h
    refine rwe_all (st' := [.int (bI r4.1)]) hD hS hA (rV (rest := []) F (c_X9_number D cA am r1 n (0 : Int32) (0 : Int32) (9999 : Int32) r4 e5 l H.size) lk_X9_183 (Nat.le_of_ble_eq_true rfl) (preRW hK hS hAb hP hD) (rcv_9 hK hP (q0 := (0)) (mp_0 cA am r1)) rfl hl rfl (Nat.le_of_ble_eq_true rfl) (dd D_X9_cloudTold 15 rfl) ⟨Nat.le_of_ble_eq_true rfl, Nat.le_of_ble_eq_true rfl⟩) rfl (fun H locs hP hD hS => ?_)
    refine x_bif_ne (tgt := 40) F.1 F.2.1 (dd D_X9_cloudTold 16 rfl) rfl h (fun c8 h => ?_) (fun c8 h => ?_)
    · refine lv_aload_n F.1 F.2.1 (dd D_X9_cloudTold 20 rfl) rfl (lv_at hl 0 rfl) ?_
      refine getF F hK hP lf_X9_51 (0) (mp_0 cA am r4.2) rfl (dd D_X9_cloudTold 21 rfl) ?_
      refine lv_aload_n F.1 F.2.1 (dd D_X9_cloudTold 22 rfl) rfl (lv_at hl 0 rfl) ?_
      refine lv_dup F.1 F.2.1 (dd D_X9_cloudTold 23 rfl) rfl ?_
      refine getF F hK hP lf_X9_130 (0) (mp_0 cA am r4.2) rfl (dd D_X9_cloudTold 24 rfl) ?_
      refine lv_dup_x1 F.1 F.2.1 (dd D_X9_cloudTold 25 rfl) rfl rfl ?_
      refine lv_iconst (v := (1 : Int32)) F.1 F.2.1 (dd D_X9_cloudTold 26 rfl) ki_1 ?_
      refine lv_iadd F.1 F.2.1 (dd D_X9_cloudTold 27 rfl) ?_
      refine putF F hK hP hD hS lp_X9_130 (0) (mp_0 cA am r4.2) (Nat.le_of_ble_eq_true rfl) (nar_int _) (fit_int _) (ws' := (mW cA am (m_set_clouds r4.2 ((m_clouds r4.2) + (1 : Int32))))) (ms_0_15 cA am r4.2 ((m_clouds r4.2) + (1 : Int32))) (dd D_X9_cloudTold 28 rfl) (fun H locs hP hD hS => ?_)
      refine lv_aload_n F.1 F.2.1 (dd D_X9_cloudTold 29 rfl) rfl (lv_at hl 0 rfl) ?_
      refine getF F hK hP lf_X9_58 (0) (mp_0 cA am (m_set_clouds r4.2 ((m_clouds r4.2) + (1 : Int32)))) rfl (dd D_X9_cloudTold 30 rfl) ?_
      refine lv_iconst (v := (0 : Int32)) F.1 F.2.1 (dd D_X9_cloudTold 31 rfl) ki_0 ?_
      refine aldI F hK hP (30) (mp_30 cA am (m_set_clouds r4.2 ((m_clouds r4.2) + (1 : Int32)))) h (dd D_X9_cloudTold 32 rfl) (fun z6 h => ?_)
      refine astI F hK hP hD hS (29) (mp_29 cA am (m_set_clouds r4.2 ((m_clouds r4.2) + (1 : Int32)))) h (ws' := (mW cA am (m_set_cloud (m_set_clouds r4.2 ((m_clouds r4.2) + (1 : Int32))) (upd (m_cloud (m_set_clouds r4.2 ((m_clouds r4.2) + (1 : Int32)))) (Int32.toNatClampNeg (m_clouds r4.2)) ((m_told (m_set_clouds r4.2 ((m_clouds r4.2) + (1 : Int32)))) (Int32.toNatClampNeg (0 : Int32))))))) (ms_29 cA am (m_set_clouds r4.2 ((m_clouds r4.2) + (1 : Int32))) (upd (m_cloud (m_set_clouds r4.2 ((m_clouds r4.2) + (1 : Int32)))) (Int32.toNatClampNeg (m_clouds r4.2)) ((m_told (m_set_clouds r4.2 ((m_clouds r4.2) + (1 : Int32)))) (Int32.toNatClampNeg (0 : Int32))))) (dd D_X9_cloudTold 33 rfl) (fun z7 h H locs hP hD hS => ?_)
      refine lv_iconst (v := (1 : Int32)) F.1 F.2.1 (dd D_X9_cloudTold 34 rfl) ki_1 ?_
      obtain rfl := Option.some.inj h
      exact rw_z (R := rmOf 3 0 0) F hP hD hS hr rfl hlk ⟨Nat.le_of_ble_eq_true rfl, Nat.le_of_ble_eq_true rfl⟩ ⟨rfl, rfl⟩ (dd D_X9_cloudTold 35 rfl)
    · refine lv_aload_n F.1 F.2.1 (dd D_X9_cloudTold 17 rfl) rfl (lv_at hl 0 rfl) ?_
      refine rwe_all (st' := [.int (bI (F_X9_wrong r4.2).1)]) hD hS hA (rV (rest := []) F (c_X9_wrong D cA am r4.2 l H.size) lk_X9_176 (Nat.le_of_ble_eq_true rfl) (preRW hK hS hAb hP hD) (rcv_9 hK hP (q0 := (0)) (mp_0 cA am r4.2)) rfl hl rfl (Nat.le_of_ble_eq_true rfl) (dd D_X9_cloudTold 18 rfl) ⟨Nat.le_of_ble_eq_true rfl, Nat.le_of_ble_eq_true rfl⟩) rfl (fun H locs hP hD hS => ?_)
      obtain rfl := Option.some.inj h
      exact rw_z (R := rmOf 3 0 0) F hP hD hS hr (bI_nar _) hlk ⟨Nat.le_of_ble_eq_true rfl, Nat.le_of_ble_eq_true rfl⟩ ⟨rfl, rfl⟩ (dd D_X9_cloudTold 19 rfl)
  · refine lv_aload_n F.1 F.2.1 (dd D_X9_cloudTold 6 rfl) rfl (lv_at hl 0 rfl) ?_
    refine lv_aload_n F.1 F.2.1 (dd D_X9_cloudTold 7 rfl) rfl (lv_at hl 0 rfl) ?_
    refine getF F hK hP lf_X9_150 (0) (mp_0 cA am r1) rfl (dd D_X9_cloudTold 8 rfl) ?_
    obtain ⟨r9, e10, h⟩ := Option.bind_eq_some_iff.mp h
    refine ro_go (st' := [.int (bI r9)]) (rV (rest := []) F (c_X9_isCloud D cA am r1 n (m_figures r1) r9 e10 l) lk_X9_133 (Nat.le_of_ble_eq_true rfl) (preRO hK hS hAb hP) (rcv_9 hK hP (q0 := (0)) (mp_0 cA am r1)) rfl hl rfl (Nat.le_of_ble_eq_true rfl) (dd D_X9_cloudTold 9 rfl) ⟨Nat.le_of_ble_eq_true rfl, Nat.le_of_ble_eq_true rfl⟩) rfl ?_
    refine x_bif_ne (tgt := 35) F.1 F.2.1 (dd D_X9_cloudTold 10 rfl) rfl h (fun c16 h => ?_) (fun c16 h => ?_)
    · refine lv_aload_n F.1 F.2.1 (dd D_X9_cloudTold 17 rfl) rfl (lv_at hl 0 rfl) ?_
      refine rwe_all (st' := [.int (bI (F_X9_wrong r1).1)]) hD hS hA (rV (rest := []) F (c_X9_wrong D cA am r1 l H.size) lk_X9_176 (Nat.le_of_ble_eq_true rfl) (preRW hK hS hAb hP hD) (rcv_9 hK hP (q0 := (0)) (mp_0 cA am r1)) rfl hl rfl (Nat.le_of_ble_eq_true rfl) (dd D_X9_cloudTold 18 rfl) ⟨Nat.le_of_ble_eq_true rfl, Nat.le_of_ble_eq_true rfl⟩) rfl (fun H locs hP hD hS => ?_)
      obtain rfl := Option.some.inj h
      exact rw_z (R := rmOf 3 0 0) F hP hD hS hr (bI_nar _) hlk ⟨Nat.le_of_ble_eq_true rfl, Nat.le_of_ble_eq_true rfl⟩ ⟨rfl, rfl⟩ (dd D_X9_cloudTold 19 rfl)
    · refine lv_aload_n F.1 F.2.1 (dd D_X9_cloudTold 11 rfl) rfl (lv_at hl 0 rfl) ?_
      refine lv_iconst (v := (0 : Int32)) F.1 F.2.1 (dd D_X9_cloudTold 12 rfl) ki_0 ?_
      refine lv_iconst (v := (0 : Int32)) F.1 F.2.1 (dd D_X9_cloudTold 13 rfl) ki_0 ?_
      refine lv_sipush (v := (9999 : Int32)) F.1 F.2.1 (dd D_X9_cloudTold 14 rfl) ks_9999 ?_
      obtain ⟨r11, e12, h⟩ := Option.bind_eq_some_iff.mp h
      refine rwe_all (st' := [.int (bI r11.1)]) hD hS hA (rV (rest := []) F (c_X9_number D cA am r1 n (0 : Int32) (0 : Int32) (9999 : Int32) r11 e12 l H.size) lk_X9_183 (Nat.le_of_ble_eq_true rfl) (preRW hK hS hAb hP hD) (rcv_9 hK hP (q0 := (0)) (mp_0 cA am r1)) rfl hl rfl (Nat.le_of_ble_eq_true rfl) (dd D_X9_cloudTold 15 rfl) ⟨Nat.le_of_ble_eq_true rfl, Nat.le_of_ble_eq_true rfl⟩) rfl (fun H locs hP hD hS => ?_)
      refine x_bif_ne (tgt := 40) F.1 F.2.1 (dd D_X9_cloudTold 16 rfl) rfl h (fun c15 h => ?_) (fun c15 h => ?_)
      · refine lv_aload_n F.1 F.2.1 (dd D_X9_cloudTold 20 rfl) rfl (lv_at hl 0 rfl) ?_
        refine getF F hK hP lf_X9_51 (0) (mp_0 cA am r11.2) rfl (dd D_X9_cloudTold 21 rfl) ?_
        refine lv_aload_n F.1 F.2.1 (dd D_X9_cloudTold 22 rfl) rfl (lv_at hl 0 rfl) ?_
        refine lv_dup F.1 F.2.1 (dd D_X9_cloudTold 23 rfl) rfl ?_
        refine getF F hK hP lf_X9_130 (0) (mp_0 cA am r11.2) rfl (dd D_X9_cloudTold 24 rfl) ?_
        refine lv_dup_x1 F.1 F.2.1 (dd D_X9_cloudTold 25 rfl) rfl rfl ?_
        refine lv_iconst (v := (1 : Int32)) F.1 F.2.1 (dd D_X9_cloudTold 26 rfl) ki_1 ?_
        refine lv_iadd F.1 F.2.1 (dd D_X9_cloudTold 27 rfl) ?_
        refine putF F hK hP hD hS lp_X9_130 (0) (mp_0 cA am r11.2) (Nat.le_of_ble_eq_true rfl) (nar_int _) (fit_int _) (ws' := (mW cA am (m_set_clouds r11.2 ((m_clouds r11.2) + (1 : Int32))))) (ms_0_15 cA am r11.2 ((m_clouds r11.2) + (1 : Int32))) (dd D_X9_cloudTold 28 rfl) (fun H locs hP hD hS => ?_)
        refine lv_aload_n F.1 F.2.1 (dd D_X9_cloudTold 29 rfl) rfl (lv_at hl 0 rfl) ?_
        refine getF F hK hP lf_X9_58 (0) (mp_0 cA am (m_set_clouds r11.2 ((m_clouds r11.2) + (1 : Int32)))) rfl (dd D_X9_cloudTold 30 rfl) ?_
        refine lv_iconst (v := (0 : Int32)) F.1 F.2.1 (dd D_X9_cloudTold 31 rfl) ki_0 ?_
        refine aldI F hK hP (30) (mp_30 cA am (m_set_clouds r11.2 ((m_clouds r11.2) + (1 : Int32)))) h (dd D_X9_cloudTold 32 rfl) (fun z13 h => ?_)
        refine astI F hK hP hD hS (29) (mp_29 cA am (m_set_clouds r11.2 ((m_clouds r11.2) + (1 : Int32)))) h (ws' := (mW cA am (m_set_cloud (m_set_clouds r11.2 ((m_clouds r11.2) + (1 : Int32))) (upd (m_cloud (m_set_clouds r11.2 ((m_clouds r11.2) + (1 : Int32)))) (Int32.toNatClampNeg (m_clouds r11.2)) ((m_told (m_set_clouds r11.2 ((m_clouds r11.2) + (1 : Int32)))) (Int32.toNatClampNeg (0 : Int32))))))) (ms_29 cA am (m_set_clouds r11.2 ((m_clouds r11.2) + (1 : Int32))) (upd (m_cloud (m_set_clouds r11.2 ((m_clouds r11.2) + (1 : Int32)))) (Int32.toNatClampNeg (m_clouds r11.2)) ((m_told (m_set_clouds r11.2 ((m_clouds r11.2) + (1 : Int32)))) (Int32.toNatClampNeg (0 : Int32))))) (dd D_X9_cloudTold 33 rfl) (fun z14 h H locs hP hD hS => ?_)
        refine lv_iconst (v := (1 : Int32)) F.1 F.2.1 (dd D_X9_cloudTold 34 rfl) ki_1 ?_
        obtain rfl := Option.some.inj h
        exact rw_z (R := rmOf 3 0 0) F hP hD hS hr rfl hlk ⟨Nat.le_of_ble_eq_true rfl, Nat.le_of_ble_eq_true rfl⟩ ⟨rfl, rfl⟩ (dd D_X9_cloudTold 35 rfl)
      · refine lv_aload_n F.1 F.2.1 (dd D_X9_cloudTold 17 rfl) rfl (lv_at hl 0 rfl) ?_
        refine rwe_all (st' := [.int (bI (F_X9_wrong r11.2).1)]) hD hS hA (rV (rest := []) F (c_X9_wrong D cA am r11.2 l H.size) lk_X9_176 (Nat.le_of_ble_eq_true rfl) (preRW hK hS hAb hP hD) (rcv_9 hK hP (q0 := (0)) (mp_0 cA am r11.2)) rfl hl rfl (Nat.le_of_ble_eq_true rfl) (dd D_X9_cloudTold 18 rfl) ⟨Nat.le_of_ble_eq_true rfl, Nat.le_of_ble_eq_true rfl⟩) rfl (fun H locs hP hD hS => ?_)
        obtain rfl := Option.some.inj h
        exact rw_z (R := rmOf 3 0 0) F hP hD hS hr (bI_nar _) hlk ⟨Nat.le_of_ble_eq_true rfl, Nat.le_of_ble_eq_true rfl⟩ ⟨rfl, rfl⟩ (dd D_X9_cloudTold 19 rfl)
def F_X9_statement (n : Nat) (s : MS) : Option (Bool × MS) := (((F_X9_isWord n s ([111, 102, 102]))).bind fun r3 => bf r3 ((((F_X9_askedTold n s (0 : Int32))).bind fun r94 => some (r94.1, r94.2))) ((((F_X9_isWord n s ([110, 111, 100, 101]))).bind fun r7 => bf r7 ((((F_X9_askedTold n s (1 : Int32))).bind fun r91 => some (r91.1, r91.2))) ((((F_X9_isWord n s ([115, 119, 105, 110, 103]))).bind fun r11 => bf r11 ((((F_X9_askedTold n s (2 : Int32))).bind fun r88 => some (r88.1, r88.2))) ((((F_X9_isWord n s ([110, 111, 116, 99, 104]))).bind fun r15 => bf r15 ((if (8 : Int32) ≤ (m_notches s) then (((F_X9_isWord n s ([115, 116, 111, 110, 101]))).bind fun r47 => bf r47 ((if (6 : Int32) ≤ (m_stones s) then (((F_X9_isWord n s ([99, 108, 111, 117, 100]))).bind fun r60 => bf r60 ((if (8 : Int32) ≤ (m_clouds s) then some ((F_X9_wrong s).1, (F_X9_wrong s).2) else (((F_X9_cloudTold n s)).bind fun r63 => some (r63.1, r63.2)))) (some ((F_X9_wrong s).1, (F_X9_wrong s).2))) else (((F_X9_tells n s (179 : Int32))).bind fun r66 => bf r66.1 (gd (inb (0 : Int32) 3) (gd (inb (m_stones r66.2) 6) (some (r66.1, (m_set_stone (m_set_stones r66.2 ((m_stones r66.2) + (1 : Int32))) (upd (m_stone (m_set_stones r66.2 ((m_stones r66.2) + (1 : Int32)))) (Int32.toNatClampNeg (m_stones r66.2)) ((m_told (m_set_stones r66.2 ((m_stones r66.2) + (1 : Int32)))) (Int32.toNatClampNeg (0 : Int32))))))))) (some (r66.1, r66.2))))) ((((F_X9_isWord n s ([99, 108, 111, 117, 100]))).bind fun r51 => bf r51 ((if (8 : Int32) ≤ (m_clouds s) then some ((F_X9_wrong s).1, (F_X9_wrong s).2) else (((F_X9_cloudTold n s)).bind fun r54 => some (r54.1, r54.2)))) (some ((F_X9_wrong s).1, (F_X9_wrong s).2))))) else (((F_X9_tells n s (179 : Int32))).bind fun r72 => bf r72.1 (gd (inb (0 : Int32) 3) ((((F_X9_number n r72.2 (1 : Int32) ((m_told r72.2) (Int32.toNatClampNeg (0 : Int32))) (179 : Int32))).bind fun r75 => bf r75.1 ((((F_X9_number n r75.2 (2 : Int32) (0 : Int32) (30 : Int32))).bind fun r77 => bf r77.1 (gd (inb (0 : Int32) 3) (gd (inb (1 : Int32) 3) (gd (inb (2 : Int32) 3) ((((F_X9_addNotch n r77.2 ((m_told r77.2) (Int32.toNatClampNeg (0 : Int32))) ((m_told r77.2) (Int32.toNatClampNeg (1 : Int32))) ((m_told r77.2) (Int32.toNatClampNeg (2 : Int32))))).bind fun r82 => some (true, r82)))))) (some (false, r77.2)))) (some (false, r75.2))))) (some (false, r72.2))))) ((((F_X9_isWord n s ([115, 116, 111, 110, 101]))).bind fun r19 => bf r19 ((if (6 : Int32) ≤ (m_stones s) then (((F_X9_isWord n s ([99, 108, 111, 117, 100]))).bind fun r32 => bf r32 ((if (8 : Int32) ≤ (m_clouds s) then some ((F_X9_wrong s).1, (F_X9_wrong s).2) else (((F_X9_cloudTold n s)).bind fun r35 => some (r35.1, r35.2)))) (some ((F_X9_wrong s).1, (F_X9_wrong s).2))) else (((F_X9_tells n s (179 : Int32))).bind fun r38 => bf r38.1 (gd (inb (0 : Int32) 3) (gd (inb (m_stones r38.2) 6) (some (r38.1, (m_set_stone (m_set_stones r38.2 ((m_stones r38.2) + (1 : Int32))) (upd (m_stone (m_set_stones r38.2 ((m_stones r38.2) + (1 : Int32)))) (Int32.toNatClampNeg (m_stones r38.2)) ((m_told (m_set_stones r38.2 ((m_stones r38.2) + (1 : Int32)))) (Int32.toNatClampNeg (0 : Int32))))))))) (some (r38.1, r38.2))))) ((((F_X9_isWord n s ([99, 108, 111, 117, 100]))).bind fun r23 => bf r23 ((if (8 : Int32) ≤ (m_clouds s) then some ((F_X9_wrong s).1, (F_X9_wrong s).2) else (((F_X9_cloudTold n s)).bind fun r26 => some (r26.1, r26.2)))) (some ((F_X9_wrong s).1, (F_X9_wrong s).2)))))))))))))
set_option maxHeartbeats 4000000 in
set_option maxRecDepth 100000 in
theorem c_X9_statement (D : va_G) (cA : Nat → ClassId) (am : Nat → Nat) (s : MS) (n : Nat)  (r : (Bool × MS)) (h : F_X9_statement n s = some r) : RW m_X9_statement 6 0 0 D cA [.ref (am 0)] (mW cA am s) (exq (some (.int (bI r.1))) (mW cA am r.2)) := by
  refine RW.ofW gy_X9_statement.2.2 (Nat.le_of_ble_eq_true rfl) ?_
  intro l p e sM m below meth c A H locs F hr hlk hnm hK hP hD hS hA hAb ls hl
  have hl : lv_has ls 2 [(0, .ref (am 0))] := hl
  unfold F_X9_statement at h
  refine lv_aload_n F.1 F.2.1 (dd D_X9_statement 0 rfl) rfl (lv_at hl 0 rfl) ?_
  refine ldcStr F hK site_X9_190 (dd D_X9_statement 1 rfl) (fun q1 hE2 => ?_)
  obtain ⟨r3, e4, h⟩ := Option.bind_eq_some_iff.mp h
  refine ro_go (st' := [.int (bI r3)]) (rV (rest := []) F (c_X9_isWord D cA am s q1 ([111, 102, 102]) (by decide) n r3 e4 l) lk_X9_192 (Nat.le_of_ble_eq_true rfl) (preStr hK hS hAb hP hE2) (rcv_9 hK hP (q0 := (0)) (mp_0 cA am s)) rfl hl rfl (Nat.le_of_ble_eq_true rfl) (dd D_X9_statement 2 rfl) ⟨Nat.le_of_ble_eq_true rfl, Nat.le_of_ble_eq_true rfl⟩) rfl ?_
  refine x_bif_eq (tgt := 15) F.1 F.2.1 (dd D_X9_statement 3 rfl) rfl h (fun c96 h => ?_) (fun c96 h => ?_)
  · refine lv_aload_n F.1 F.2.1 (dd D_X9_statement 8 rfl) rfl (lv_at hl 0 rfl) ?_
    refine ldcStr F hK site_X9_199 (dd D_X9_statement 9 rfl) (fun q5 hE6 => ?_)
    obtain ⟨r7, e8, h⟩ := Option.bind_eq_some_iff.mp h
    refine ro_go (st' := [.int (bI r7)]) (rV (rest := []) F (c_X9_isWord D cA am s q5 ([110, 111, 100, 101]) (by decide) n r7 e8 l) lk_X9_192 (Nat.le_of_ble_eq_true rfl) (preStr hK hS hAb hP hE6) (rcv_9 hK hP (q0 := (0)) (mp_0 cA am s)) rfl hl rfl (Nat.le_of_ble_eq_true rfl) (dd D_X9_statement 10 rfl) ⟨Nat.le_of_ble_eq_true rfl, Nat.le_of_ble_eq_true rfl⟩) rfl ?_
    refine x_bif_eq (tgt := 30) F.1 F.2.1 (dd D_X9_statement 11 rfl) rfl h (fun c93 h => ?_) (fun c93 h => ?_)
    · refine lv_aload_n F.1 F.2.1 (dd D_X9_statement 16 rfl) rfl (lv_at hl 0 rfl) ?_
      refine ldcStr F hK site_X9_201 (dd D_X9_statement 17 rfl) (fun q9 hE10 => ?_)
      obtain ⟨r11, e12, h⟩ := Option.bind_eq_some_iff.mp h
      refine ro_go (st' := [.int (bI r11)]) (rV (rest := []) F (c_X9_isWord D cA am s q9 ([115, 119, 105, 110, 103]) (by decide) n r11 e12 l) lk_X9_192 (Nat.le_of_ble_eq_true rfl) (preStr hK hS hAb hP hE10) (rcv_9 hK hP (q0 := (0)) (mp_0 cA am s)) rfl hl rfl (Nat.le_of_ble_eq_true rfl) (dd D_X9_statement 18 rfl) ⟨Nat.le_of_ble_eq_true rfl, Nat.le_of_ble_eq_true rfl⟩) rfl ?_
      refine x_bif_eq (tgt := 45) F.1 F.2.1 (dd D_X9_statement 19 rfl) rfl h (fun c90 h => ?_) (fun c90 h => ?_)
      · refine lv_aload_n F.1 F.2.1 (dd D_X9_statement 24 rfl) rfl (lv_at hl 0 rfl) ?_
        refine ldcStr F hK site_X9_203 (dd D_X9_statement 25 rfl) (fun q13 hE14 => ?_)
        obtain ⟨r15, e16, h⟩ := Option.bind_eq_some_iff.mp h
        refine ro_go (st' := [.int (bI r15)]) (rV (rest := []) F (c_X9_isWord D cA am s q13 ([110, 111, 116, 99, 104]) (by decide) n r15 e16 l) lk_X9_192 (Nat.le_of_ble_eq_true rfl) (preStr hK hS hAb hP hE14) (rcv_9 hK hP (q0 := (0)) (mp_0 cA am s)) rfl hl rfl (Nat.le_of_ble_eq_true rfl) (dd D_X9_statement 26 rfl) ⟨Nat.le_of_ble_eq_true rfl, Nat.le_of_ble_eq_true rfl⟩) rfl ?_
        refine x_bif_eq (tgt := 127) F.1 F.2.1 (dd D_X9_statement 27 rfl) rfl h (fun c87 h => ?_) (fun c87 h => ?_)
        · refine lv_aload_n F.1 F.2.1 (dd D_X9_statement 69 rfl) rfl (lv_at hl 0 rfl) ?_
          refine ldcStr F hK site_X9_204 (dd D_X9_statement 70 rfl) (fun q17 hE18 => ?_)
          obtain ⟨r19, e20, h⟩ := Option.bind_eq_some_iff.mp h
          refine ro_go (st' := [.int (bI r19)]) (rV (rest := []) F (c_X9_isWord D cA am s q17 ([115, 116, 111, 110, 101]) (by decide) n r19 e20 l) lk_X9_192 (Nat.le_of_ble_eq_true rfl) (preStr hK hS hAb hP hE18) (rcv_9 hK hP (q0 := (0)) (mp_0 cA am s)) rfl hl rfl (Nat.le_of_ble_eq_true rfl) (dd D_X9_statement 71 rfl) ⟨Nat.le_of_ble_eq_true rfl, Nat.le_of_ble_eq_true rfl⟩) rfl ?_
          refine x_bif_eq (tgt := 181) F.1 F.2.1 (dd D_X9_statement 72 rfl) rfl h (fun c43 h => ?_) (fun c43 h => ?_)
          · refine lv_aload_n F.1 F.2.1 (dd D_X9_statement 99 rfl) rfl (lv_at hl 0 rfl) ?_
            refine ldcStr F hK site_X9_205 (dd D_X9_statement 100 rfl) (fun q21 hE22 => ?_)
            obtain ⟨r23, e24, h⟩ := Option.bind_eq_some_iff.mp h
            refine ro_go (st' := [.int (bI r23)]) (rV (rest := []) F (c_X9_isWord D cA am s q21 ([99, 108, 111, 117, 100]) (by decide) n r23 e24 l) lk_X9_192 (Nat.le_of_ble_eq_true rfl) (preStr hK hS hAb hP hE22) (rcv_9 hK hP (q0 := (0)) (mp_0 cA am s)) rfl hl rfl (Nat.le_of_ble_eq_true rfl) (dd D_X9_statement 101 rfl) ⟨Nat.le_of_ble_eq_true rfl, Nat.le_of_ble_eq_true rfl⟩) rfl ?_
            refine x_bif_eq (tgt := 206) F.1 F.2.1 (dd D_X9_statement 102 rfl) rfl h (fun c28 h => ?_) (fun c28 h => ?_)
            · refine lv_aload_n F.1 F.2.1 (dd D_X9_statement 110 rfl) rfl (lv_at hl 0 rfl) ?_
              refine rwe_all (st' := [.int (bI (F_X9_wrong s).1)]) hD hS hA (rV (rest := []) F (c_X9_wrong D cA am s l H.size) lk_X9_176 (Nat.le_of_ble_eq_true rfl) (preRW hK hS hAb hP hD) (rcv_9 hK hP (q0 := (0)) (mp_0 cA am s)) rfl hl rfl (Nat.le_of_ble_eq_true rfl) (dd D_X9_statement 111 rfl) ⟨Nat.le_of_ble_eq_true rfl, Nat.le_of_ble_eq_true rfl⟩) rfl (fun H locs hP hD hS => ?_)
              obtain rfl := Option.some.inj h
              exact rw_z (R := rmOf 6 0 0) F hP hD hS hr (bI_nar _) hlk ⟨Nat.le_of_ble_eq_true rfl, Nat.le_of_ble_eq_true rfl⟩ ⟨rfl, rfl⟩ (dd D_X9_statement 112 rfl)
            · refine lv_aload_n F.1 F.2.1 (dd D_X9_statement 103 rfl) rfl (lv_at hl 0 rfl) ?_
              refine getF F hK hP lf_X9_130 (0) (mp_0 cA am s) rfl (dd D_X9_statement 104 rfl) ?_
              refine lv_bipush (v := (8 : Int32)) F.1 F.2.1 (dd D_X9_statement 105 rfl) kb_8 ?_
              refine x_icmp_ge (tgt := 206) F.1 F.2.1 (dd D_X9_statement 106 rfl) rfl h (fun c25 h => ?_) (fun c25 h => ?_)
              · refine lv_aload_n F.1 F.2.1 (dd D_X9_statement 110 rfl) rfl (lv_at hl 0 rfl) ?_
                refine rwe_all (st' := [.int (bI (F_X9_wrong s).1)]) hD hS hA (rV (rest := []) F (c_X9_wrong D cA am s l H.size) lk_X9_176 (Nat.le_of_ble_eq_true rfl) (preRW hK hS hAb hP hD) (rcv_9 hK hP (q0 := (0)) (mp_0 cA am s)) rfl hl rfl (Nat.le_of_ble_eq_true rfl) (dd D_X9_statement 111 rfl) ⟨Nat.le_of_ble_eq_true rfl, Nat.le_of_ble_eq_true rfl⟩) rfl (fun H locs hP hD hS => ?_)
                obtain rfl := Option.some.inj h
                exact rw_z (R := rmOf 6 0 0) F hP hD hS hr (bI_nar _) hlk ⟨Nat.le_of_ble_eq_true rfl, Nat.le_of_ble_eq_true rfl⟩ ⟨rfl, rfl⟩ (dd D_X9_statement 112 rfl)
              · refine lv_aload_n F.1 F.2.1 (dd D_X9_statement 107 rfl) rfl (lv_at hl 0 rfl) ?_
                obtain ⟨r26, e27, h⟩ := Option.bind_eq_some_iff.mp h
                refine rwe_all (st' := [.int (bI r26.1)]) hD hS hA (rV (rest := []) F (c_X9_cloudTold D cA am s n r26 e27 l H.size) lk_X9_206 (Nat.le_of_ble_eq_true rfl) (preRW hK hS hAb hP hD) (rcv_9 hK hP (q0 := (0)) (mp_0 cA am s)) rfl hl rfl (Nat.le_of_ble_eq_true rfl) (dd D_X9_statement 108 rfl) ⟨Nat.le_of_ble_eq_true rfl, Nat.le_of_ble_eq_true rfl⟩) rfl (fun H locs hP hD hS => ?_)
                refine lv_goto (tgt := 210) F.1 F.2.1 (dd D_X9_statement 109 rfl) rfl ?_
                obtain rfl := Option.some.inj h
                exact rw_z (R := rmOf 6 0 0) F hP hD hS hr (bI_nar _) hlk ⟨Nat.le_of_ble_eq_true rfl, Nat.le_of_ble_eq_true rfl⟩ ⟨rfl, rfl⟩ (dd D_X9_statement 112 rfl)
          · refine lv_aload_n F.1 F.2.1 (dd D_X9_statement 73 rfl) rfl (lv_at hl 0 rfl) ?_
            refine getF F hK hP lf_X9_127 (0) (mp_0 cA am s) rfl (dd D_X9_statement 74 rfl) ?_
            refine lv_bipush (v := (6 : Int32)) F.1 F.2.1 (dd D_X9_statement 75 rfl) kb_6 ?_
            refine x_icmp_ge (tgt := 181) F.1 F.2.1 (dd D_X9_statement 76 rfl) rfl h (fun c29 h => ?_) (fun c29 h => ?_)
            · refine lv_aload_n F.1 F.2.1 (dd D_X9_statement 99 rfl) rfl (lv_at hl 0 rfl) ?_
              refine ldcStr F hK site_X9_205 (dd D_X9_statement 100 rfl) (fun q30 hE31 => ?_)
              obtain ⟨r32, e33, h⟩ := Option.bind_eq_some_iff.mp h
              refine ro_go (st' := [.int (bI r32)]) (rV (rest := []) F (c_X9_isWord D cA am s q30 ([99, 108, 111, 117, 100]) (by decide) n r32 e33 l) lk_X9_192 (Nat.le_of_ble_eq_true rfl) (preStr hK hS hAb hP hE31) (rcv_9 hK hP (q0 := (0)) (mp_0 cA am s)) rfl hl rfl (Nat.le_of_ble_eq_true rfl) (dd D_X9_statement 101 rfl) ⟨Nat.le_of_ble_eq_true rfl, Nat.le_of_ble_eq_true rfl⟩) rfl ?_
              refine x_bif_eq (tgt := 206) F.1 F.2.1 (dd D_X9_statement 102 rfl) rfl h (fun c37 h => ?_) (fun c37 h => ?_)
              · refine lv_aload_n F.1 F.2.1 (dd D_X9_statement 110 rfl) rfl (lv_at hl 0 rfl) ?_
                refine rwe_all (st' := [.int (bI (F_X9_wrong s).1)]) hD hS hA (rV (rest := []) F (c_X9_wrong D cA am s l H.size) lk_X9_176 (Nat.le_of_ble_eq_true rfl) (preRW hK hS hAb hP hD) (rcv_9 hK hP (q0 := (0)) (mp_0 cA am s)) rfl hl rfl (Nat.le_of_ble_eq_true rfl) (dd D_X9_statement 111 rfl) ⟨Nat.le_of_ble_eq_true rfl, Nat.le_of_ble_eq_true rfl⟩) rfl (fun H locs hP hD hS => ?_)
                obtain rfl := Option.some.inj h
                exact rw_z (R := rmOf 6 0 0) F hP hD hS hr (bI_nar _) hlk ⟨Nat.le_of_ble_eq_true rfl, Nat.le_of_ble_eq_true rfl⟩ ⟨rfl, rfl⟩ (dd D_X9_statement 112 rfl)
              · refine lv_aload_n F.1 F.2.1 (dd D_X9_statement 103 rfl) rfl (lv_at hl 0 rfl) ?_
                refine getF F hK hP lf_X9_130 (0) (mp_0 cA am s) rfl (dd D_X9_statement 104 rfl) ?_
                refine lv_bipush (v := (8 : Int32)) F.1 F.2.1 (dd D_X9_statement 105 rfl) kb_8 ?_
                refine x_icmp_ge (tgt := 206) F.1 F.2.1 (dd D_X9_statement 106 rfl) rfl h (fun c34 h => ?_) (fun c34 h => ?_)
                · refine lv_aload_n F.1 F.2.1 (dd D_X9_statement 110 rfl) rfl (lv_at hl 0 rfl) ?_
                  refine rwe_all (st' := [.int (bI (F_X9_wrong s).1)]) hD hS hA (rV (rest := []) F (c_X9_wrong D cA am s l H.size) lk_X9_176 (Nat.le_of_ble_eq_true rfl) (preRW hK hS hAb hP hD) (rcv_9 hK hP (q0 := (0)) (mp_0 cA am s)) rfl hl rfl (Nat.le_of_ble_eq_true rfl) (dd D_X9_statement 111 rfl) ⟨Nat.le_of_ble_eq_true rfl, Nat.le_of_ble_eq_true rfl⟩) rfl (fun H locs hP hD hS => ?_)
                  obtain rfl := Option.some.inj h
                  exact rw_z (R := rmOf 6 0 0) F hP hD hS hr (bI_nar _) hlk ⟨Nat.le_of_ble_eq_true rfl, Nat.le_of_ble_eq_true rfl⟩ ⟨rfl, rfl⟩ (dd D_X9_statement 112 rfl)
                · refine lv_aload_n F.1 F.2.1 (dd D_X9_statement 107 rfl) rfl (lv_at hl 0 rfl) ?_
                  obtain ⟨r35, e36, h⟩ := Option.bind_eq_some_iff.mp h
                  refine rwe_all (st' := [.int (bI r35.1)]) hD hS hA (rV (rest := []) F (c_X9_cloudTold D cA am s n r35 e36 l H.size) lk_X9_206 (Nat.le_of_ble_eq_true rfl) (preRW hK hS hAb hP hD) (rcv_9 hK hP (q0 := (0)) (mp_0 cA am s)) rfl hl rfl (Nat.le_of_ble_eq_true rfl) (dd D_X9_statement 108 rfl) ⟨Nat.le_of_ble_eq_true rfl, Nat.le_of_ble_eq_true rfl⟩) rfl (fun H locs hP hD hS => ?_)
                  refine lv_goto (tgt := 210) F.1 F.2.1 (dd D_X9_statement 109 rfl) rfl ?_
                  obtain rfl := Option.some.inj h
                  exact rw_z (R := rmOf 6 0 0) F hP hD hS hr (bI_nar _) hlk ⟨Nat.le_of_ble_eq_true rfl, Nat.le_of_ble_eq_true rfl⟩ ⟨rfl, rfl⟩ (dd D_X9_statement 112 rfl)
            · refine lv_aload_n F.1 F.2.1 (dd D_X9_statement 77 rfl) rfl (lv_at hl 0 rfl) ?_
              refine lv_sipush (v := (179 : Int32)) F.1 F.2.1 (dd D_X9_statement 78 rfl) ks_179 ?_
              obtain ⟨r38, e39, h⟩ := Option.bind_eq_some_iff.mp h
              refine rwe_all (st' := [.int (bI r38.1)]) hD hS hA (rV (rest := []) F (c_X9_tells D cA am s n (179 : Int32) r38 e39 l H.size) lk_X9_187 (Nat.le_of_ble_eq_true rfl) (preRW hK hS hAb hP hD) (rcv_9 hK hP (q0 := (0)) (mp_0 cA am s)) rfl hl rfl (Nat.le_of_ble_eq_true rfl) (dd D_X9_statement 79 rfl) ⟨Nat.le_of_ble_eq_true rfl, Nat.le_of_ble_eq_true rfl⟩) rfl (fun H locs hP hD hS => ?_)
              refine lv_istore_n (lv' := [(1, .int (bI r38.1)), (0, .ref (am 0))]) F.1 F.2.1 (dd D_X9_statement 80 rfl) rfl hl (Nat.le_of_ble_eq_true rfl) rfl (fun ls hl => ?_)
              refine lv_iload_n F.1 F.2.1 (dd D_X9_statement 81 rfl) rfl (lv_at hl 0 rfl) ?_
              refine x_bif_eq (tgt := 179) F.1 F.2.1 (dd D_X9_statement 82 rfl) rfl h (fun c42 h => ?_) (fun c42 h => ?_)
              · refine lv_iload_n F.1 F.2.1 (dd D_X9_statement 97 rfl) rfl (lv_at hl 0 rfl) ?_
                obtain rfl := Option.some.inj h
                exact rw_z (R := rmOf 6 0 0) F hP hD hS hr (bI_nar _) hlk ⟨Nat.le_of_ble_eq_true rfl, Nat.le_of_ble_eq_true rfl⟩ ⟨rfl, rfl⟩ (dd D_X9_statement 98 rfl)
              · refine lv_aload_n F.1 F.2.1 (dd D_X9_statement 83 rfl) rfl (lv_at hl 1 rfl) ?_
                refine getF F hK hP lf_X9_48 (0) (mp_0 cA am r38.2) rfl (dd D_X9_statement 84 rfl) ?_
                refine lv_aload_n F.1 F.2.1 (dd D_X9_statement 85 rfl) rfl (lv_at hl 1 rfl) ?_
                refine lv_dup F.1 F.2.1 (dd D_X9_statement 86 rfl) rfl ?_
                refine getF F hK hP lf_X9_127 (0) (mp_0 cA am r38.2) rfl (dd D_X9_statement 87 rfl) ?_
                refine lv_dup_x1 F.1 F.2.1 (dd D_X9_statement 88 rfl) rfl rfl ?_
                refine lv_iconst (v := (1 : Int32)) F.1 F.2.1 (dd D_X9_statement 89 rfl) ki_1 ?_
                refine lv_iadd F.1 F.2.1 (dd D_X9_statement 90 rfl) ?_
                refine putF F hK hP hD hS lp_X9_127 (0) (mp_0 cA am r38.2) (Nat.le_of_ble_eq_true rfl) (nar_int _) (fit_int _) (ws' := (mW cA am (m_set_stones r38.2 ((m_stones r38.2) + (1 : Int32))))) (ms_0_13 cA am r38.2 ((m_stones r38.2) + (1 : Int32))) (dd D_X9_statement 91 rfl) (fun H locs hP hD hS => ?_)
                refine lv_aload_n F.1 F.2.1 (dd D_X9_statement 92 rfl) rfl (lv_at hl 1 rfl) ?_
                refine getF F hK hP lf_X9_58 (0) (mp_0 cA am (m_set_stones r38.2 ((m_stones r38.2) + (1 : Int32)))) rfl (dd D_X9_statement 93 rfl) ?_
                refine lv_iconst (v := (0 : Int32)) F.1 F.2.1 (dd D_X9_statement 94 rfl) ki_0 ?_
                refine aldI F hK hP (30) (mp_30 cA am (m_set_stones r38.2 ((m_stones r38.2) + (1 : Int32)))) h (dd D_X9_statement 95 rfl) (fun z40 h => ?_)
                refine astI F hK hP hD hS (28) (mp_28 cA am (m_set_stones r38.2 ((m_stones r38.2) + (1 : Int32)))) h (ws' := (mW cA am (m_set_stone (m_set_stones r38.2 ((m_stones r38.2) + (1 : Int32))) (upd (m_stone (m_set_stones r38.2 ((m_stones r38.2) + (1 : Int32)))) (Int32.toNatClampNeg (m_stones r38.2)) ((m_told (m_set_stones r38.2 ((m_stones r38.2) + (1 : Int32)))) (Int32.toNatClampNeg (0 : Int32))))))) (ms_28 cA am (m_set_stones r38.2 ((m_stones r38.2) + (1 : Int32))) (upd (m_stone (m_set_stones r38.2 ((m_stones r38.2) + (1 : Int32)))) (Int32.toNatClampNeg (m_stones r38.2)) ((m_told (m_set_stones r38.2 ((m_stones r38.2) + (1 : Int32)))) (Int32.toNatClampNeg (0 : Int32))))) (dd D_X9_statement 96 rfl) (fun z41 h H locs hP hD hS => ?_)
                refine lv_iload_n F.1 F.2.1 (dd D_X9_statement 97 rfl) rfl (lv_at hl 0 rfl) ?_
                obtain rfl := Option.some.inj h
                exact rw_z (R := rmOf 6 0 0) F hP hD hS hr (bI_nar _) hlk ⟨Nat.le_of_ble_eq_true rfl, Nat.le_of_ble_eq_true rfl⟩ ⟨rfl, rfl⟩ (dd D_X9_statement 98 rfl)
        · refine lv_aload_n F.1 F.2.1 (dd D_X9_statement 28 rfl) rfl (lv_at hl 0 rfl) ?_
          refine getF F hK hP lf_X9_116 (0) (mp_0 cA am s) rfl (dd D_X9_statement 29 rfl) ?_
          refine lv_bipush (v := (8 : Int32)) F.1 F.2.1 (dd D_X9_statement 30 rfl) kb_8 ?_
          refine x_icmp_ge (tgt := 127) F.1 F.2.1 (dd D_X9_statement 31 rfl) rfl h (fun c44 h => ?_) (fun c44 h => ?_)
          · refine lv_aload_n F.1 F.2.1 (dd D_X9_statement 69 rfl) rfl (lv_at hl 0 rfl) ?_
            refine ldcStr F hK site_X9_204 (dd D_X9_statement 70 rfl) (fun q45 hE46 => ?_)
            obtain ⟨r47, e48, h⟩ := Option.bind_eq_some_iff.mp h
            refine ro_go (st' := [.int (bI r47)]) (rV (rest := []) F (c_X9_isWord D cA am s q45 ([115, 116, 111, 110, 101]) (by decide) n r47 e48 l) lk_X9_192 (Nat.le_of_ble_eq_true rfl) (preStr hK hS hAb hP hE46) (rcv_9 hK hP (q0 := (0)) (mp_0 cA am s)) rfl hl rfl (Nat.le_of_ble_eq_true rfl) (dd D_X9_statement 71 rfl) ⟨Nat.le_of_ble_eq_true rfl, Nat.le_of_ble_eq_true rfl⟩) rfl ?_
            refine x_bif_eq (tgt := 181) F.1 F.2.1 (dd D_X9_statement 72 rfl) rfl h (fun c71 h => ?_) (fun c71 h => ?_)
            · refine lv_aload_n F.1 F.2.1 (dd D_X9_statement 99 rfl) rfl (lv_at hl 0 rfl) ?_
              refine ldcStr F hK site_X9_205 (dd D_X9_statement 100 rfl) (fun q49 hE50 => ?_)
              obtain ⟨r51, e52, h⟩ := Option.bind_eq_some_iff.mp h
              refine ro_go (st' := [.int (bI r51)]) (rV (rest := []) F (c_X9_isWord D cA am s q49 ([99, 108, 111, 117, 100]) (by decide) n r51 e52 l) lk_X9_192 (Nat.le_of_ble_eq_true rfl) (preStr hK hS hAb hP hE50) (rcv_9 hK hP (q0 := (0)) (mp_0 cA am s)) rfl hl rfl (Nat.le_of_ble_eq_true rfl) (dd D_X9_statement 101 rfl) ⟨Nat.le_of_ble_eq_true rfl, Nat.le_of_ble_eq_true rfl⟩) rfl ?_
              refine x_bif_eq (tgt := 206) F.1 F.2.1 (dd D_X9_statement 102 rfl) rfl h (fun c56 h => ?_) (fun c56 h => ?_)
              · refine lv_aload_n F.1 F.2.1 (dd D_X9_statement 110 rfl) rfl (lv_at hl 0 rfl) ?_
                refine rwe_all (st' := [.int (bI (F_X9_wrong s).1)]) hD hS hA (rV (rest := []) F (c_X9_wrong D cA am s l H.size) lk_X9_176 (Nat.le_of_ble_eq_true rfl) (preRW hK hS hAb hP hD) (rcv_9 hK hP (q0 := (0)) (mp_0 cA am s)) rfl hl rfl (Nat.le_of_ble_eq_true rfl) (dd D_X9_statement 111 rfl) ⟨Nat.le_of_ble_eq_true rfl, Nat.le_of_ble_eq_true rfl⟩) rfl (fun H locs hP hD hS => ?_)
                obtain rfl := Option.some.inj h
                exact rw_z (R := rmOf 6 0 0) F hP hD hS hr (bI_nar _) hlk ⟨Nat.le_of_ble_eq_true rfl, Nat.le_of_ble_eq_true rfl⟩ ⟨rfl, rfl⟩ (dd D_X9_statement 112 rfl)
              · refine lv_aload_n F.1 F.2.1 (dd D_X9_statement 103 rfl) rfl (lv_at hl 0 rfl) ?_
                refine getF F hK hP lf_X9_130 (0) (mp_0 cA am s) rfl (dd D_X9_statement 104 rfl) ?_
                refine lv_bipush (v := (8 : Int32)) F.1 F.2.1 (dd D_X9_statement 105 rfl) kb_8 ?_
                refine x_icmp_ge (tgt := 206) F.1 F.2.1 (dd D_X9_statement 106 rfl) rfl h (fun c53 h => ?_) (fun c53 h => ?_)
                · refine lv_aload_n F.1 F.2.1 (dd D_X9_statement 110 rfl) rfl (lv_at hl 0 rfl) ?_
                  refine rwe_all (st' := [.int (bI (F_X9_wrong s).1)]) hD hS hA (rV (rest := []) F (c_X9_wrong D cA am s l H.size) lk_X9_176 (Nat.le_of_ble_eq_true rfl) (preRW hK hS hAb hP hD) (rcv_9 hK hP (q0 := (0)) (mp_0 cA am s)) rfl hl rfl (Nat.le_of_ble_eq_true rfl) (dd D_X9_statement 111 rfl) ⟨Nat.le_of_ble_eq_true rfl, Nat.le_of_ble_eq_true rfl⟩) rfl (fun H locs hP hD hS => ?_)
                  obtain rfl := Option.some.inj h
                  exact rw_z (R := rmOf 6 0 0) F hP hD hS hr (bI_nar _) hlk ⟨Nat.le_of_ble_eq_true rfl, Nat.le_of_ble_eq_true rfl⟩ ⟨rfl, rfl⟩ (dd D_X9_statement 112 rfl)
                · refine lv_aload_n F.1 F.2.1 (dd D_X9_statement 107 rfl) rfl (lv_at hl 0 rfl) ?_
                  obtain ⟨r54, e55, h⟩ := Option.bind_eq_some_iff.mp h
                  refine rwe_all (st' := [.int (bI r54.1)]) hD hS hA (rV (rest := []) F (c_X9_cloudTold D cA am s n r54 e55 l H.size) lk_X9_206 (Nat.le_of_ble_eq_true rfl) (preRW hK hS hAb hP hD) (rcv_9 hK hP (q0 := (0)) (mp_0 cA am s)) rfl hl rfl (Nat.le_of_ble_eq_true rfl) (dd D_X9_statement 108 rfl) ⟨Nat.le_of_ble_eq_true rfl, Nat.le_of_ble_eq_true rfl⟩) rfl (fun H locs hP hD hS => ?_)
                  refine lv_goto (tgt := 210) F.1 F.2.1 (dd D_X9_statement 109 rfl) rfl ?_
                  obtain rfl := Option.some.inj h
                  exact rw_z (R := rmOf 6 0 0) F hP hD hS hr (bI_nar _) hlk ⟨Nat.le_of_ble_eq_true rfl, Nat.le_of_ble_eq_true rfl⟩ ⟨rfl, rfl⟩ (dd D_X9_statement 112 rfl)
            · refine lv_aload_n F.1 F.2.1 (dd D_X9_statement 73 rfl) rfl (lv_at hl 0 rfl) ?_
              refine getF F hK hP lf_X9_127 (0) (mp_0 cA am s) rfl (dd D_X9_statement 74 rfl) ?_
              refine lv_bipush (v := (6 : Int32)) F.1 F.2.1 (dd D_X9_statement 75 rfl) kb_6 ?_
              refine x_icmp_ge (tgt := 181) F.1 F.2.1 (dd D_X9_statement 76 rfl) rfl h (fun c57 h => ?_) (fun c57 h => ?_)
              · refine lv_aload_n F.1 F.2.1 (dd D_X9_statement 99 rfl) rfl (lv_at hl 0 rfl) ?_
                refine ldcStr F hK site_X9_205 (dd D_X9_statement 100 rfl) (fun q58 hE59 => ?_)
                obtain ⟨r60, e61, h⟩ := Option.bind_eq_some_iff.mp h
                refine ro_go (st' := [.int (bI r60)]) (rV (rest := []) F (c_X9_isWord D cA am s q58 ([99, 108, 111, 117, 100]) (by decide) n r60 e61 l) lk_X9_192 (Nat.le_of_ble_eq_true rfl) (preStr hK hS hAb hP hE59) (rcv_9 hK hP (q0 := (0)) (mp_0 cA am s)) rfl hl rfl (Nat.le_of_ble_eq_true rfl) (dd D_X9_statement 101 rfl) ⟨Nat.le_of_ble_eq_true rfl, Nat.le_of_ble_eq_true rfl⟩) rfl ?_
                refine x_bif_eq (tgt := 206) F.1 F.2.1 (dd D_X9_statement 102 rfl) rfl h (fun c65 h => ?_) (fun c65 h => ?_)
                · refine lv_aload_n F.1 F.2.1 (dd D_X9_statement 110 rfl) rfl (lv_at hl 0 rfl) ?_
                  refine rwe_all (st' := [.int (bI (F_X9_wrong s).1)]) hD hS hA (rV (rest := []) F (c_X9_wrong D cA am s l H.size) lk_X9_176 (Nat.le_of_ble_eq_true rfl) (preRW hK hS hAb hP hD) (rcv_9 hK hP (q0 := (0)) (mp_0 cA am s)) rfl hl rfl (Nat.le_of_ble_eq_true rfl) (dd D_X9_statement 111 rfl) ⟨Nat.le_of_ble_eq_true rfl, Nat.le_of_ble_eq_true rfl⟩) rfl (fun H locs hP hD hS => ?_)
                  obtain rfl := Option.some.inj h
                  exact rw_z (R := rmOf 6 0 0) F hP hD hS hr (bI_nar _) hlk ⟨Nat.le_of_ble_eq_true rfl, Nat.le_of_ble_eq_true rfl⟩ ⟨rfl, rfl⟩ (dd D_X9_statement 112 rfl)
                · refine lv_aload_n F.1 F.2.1 (dd D_X9_statement 103 rfl) rfl (lv_at hl 0 rfl) ?_
                  refine getF F hK hP lf_X9_130 (0) (mp_0 cA am s) rfl (dd D_X9_statement 104 rfl) ?_
                  refine lv_bipush (v := (8 : Int32)) F.1 F.2.1 (dd D_X9_statement 105 rfl) kb_8 ?_
                  refine x_icmp_ge (tgt := 206) F.1 F.2.1 (dd D_X9_statement 106 rfl) rfl h (fun c62 h => ?_) (fun c62 h => ?_)
                  · refine lv_aload_n F.1 F.2.1 (dd D_X9_statement 110 rfl) rfl (lv_at hl 0 rfl) ?_
                    refine rwe_all (st' := [.int (bI (F_X9_wrong s).1)]) hD hS hA (rV (rest := []) F (c_X9_wrong D cA am s l H.size) lk_X9_176 (Nat.le_of_ble_eq_true rfl) (preRW hK hS hAb hP hD) (rcv_9 hK hP (q0 := (0)) (mp_0 cA am s)) rfl hl rfl (Nat.le_of_ble_eq_true rfl) (dd D_X9_statement 111 rfl) ⟨Nat.le_of_ble_eq_true rfl, Nat.le_of_ble_eq_true rfl⟩) rfl (fun H locs hP hD hS => ?_)
                    obtain rfl := Option.some.inj h
                    exact rw_z (R := rmOf 6 0 0) F hP hD hS hr (bI_nar _) hlk ⟨Nat.le_of_ble_eq_true rfl, Nat.le_of_ble_eq_true rfl⟩ ⟨rfl, rfl⟩ (dd D_X9_statement 112 rfl)
                  · refine lv_aload_n F.1 F.2.1 (dd D_X9_statement 107 rfl) rfl (lv_at hl 0 rfl) ?_
                    obtain ⟨r63, e64, h⟩ := Option.bind_eq_some_iff.mp h
                    refine rwe_all (st' := [.int (bI r63.1)]) hD hS hA (rV (rest := []) F (c_X9_cloudTold D cA am s n r63 e64 l H.size) lk_X9_206 (Nat.le_of_ble_eq_true rfl) (preRW hK hS hAb hP hD) (rcv_9 hK hP (q0 := (0)) (mp_0 cA am s)) rfl hl rfl (Nat.le_of_ble_eq_true rfl) (dd D_X9_statement 108 rfl) ⟨Nat.le_of_ble_eq_true rfl, Nat.le_of_ble_eq_true rfl⟩) rfl (fun H locs hP hD hS => ?_)
                    refine lv_goto (tgt := 210) F.1 F.2.1 (dd D_X9_statement 109 rfl) rfl ?_
                    obtain rfl := Option.some.inj h
                    exact rw_z (R := rmOf 6 0 0) F hP hD hS hr (bI_nar _) hlk ⟨Nat.le_of_ble_eq_true rfl, Nat.le_of_ble_eq_true rfl⟩ ⟨rfl, rfl⟩ (dd D_X9_statement 112 rfl)
              · refine lv_aload_n F.1 F.2.1 (dd D_X9_statement 77 rfl) rfl (lv_at hl 0 rfl) ?_
                refine lv_sipush (v := (179 : Int32)) F.1 F.2.1 (dd D_X9_statement 78 rfl) ks_179 ?_
                obtain ⟨r66, e67, h⟩ := Option.bind_eq_some_iff.mp h
                refine rwe_all (st' := [.int (bI r66.1)]) hD hS hA (rV (rest := []) F (c_X9_tells D cA am s n (179 : Int32) r66 e67 l H.size) lk_X9_187 (Nat.le_of_ble_eq_true rfl) (preRW hK hS hAb hP hD) (rcv_9 hK hP (q0 := (0)) (mp_0 cA am s)) rfl hl rfl (Nat.le_of_ble_eq_true rfl) (dd D_X9_statement 79 rfl) ⟨Nat.le_of_ble_eq_true rfl, Nat.le_of_ble_eq_true rfl⟩) rfl (fun H locs hP hD hS => ?_)
                refine lv_istore_n (lv' := [(1, .int (bI r66.1)), (0, .ref (am 0))]) F.1 F.2.1 (dd D_X9_statement 80 rfl) rfl hl (Nat.le_of_ble_eq_true rfl) rfl (fun ls hl => ?_)
                refine lv_iload_n F.1 F.2.1 (dd D_X9_statement 81 rfl) rfl (lv_at hl 0 rfl) ?_
                refine x_bif_eq (tgt := 179) F.1 F.2.1 (dd D_X9_statement 82 rfl) rfl h (fun c70 h => ?_) (fun c70 h => ?_)
                · refine lv_iload_n F.1 F.2.1 (dd D_X9_statement 97 rfl) rfl (lv_at hl 0 rfl) ?_
                  obtain rfl := Option.some.inj h
                  exact rw_z (R := rmOf 6 0 0) F hP hD hS hr (bI_nar _) hlk ⟨Nat.le_of_ble_eq_true rfl, Nat.le_of_ble_eq_true rfl⟩ ⟨rfl, rfl⟩ (dd D_X9_statement 98 rfl)
                · refine lv_aload_n F.1 F.2.1 (dd D_X9_statement 83 rfl) rfl (lv_at hl 1 rfl) ?_
                  refine getF F hK hP lf_X9_48 (0) (mp_0 cA am r66.2) rfl (dd D_X9_statement 84 rfl) ?_
                  refine lv_aload_n F.1 F.2.1 (dd D_X9_statement 85 rfl) rfl (lv_at hl 1 rfl) ?_
                  refine lv_dup F.1 F.2.1 (dd D_X9_statement 86 rfl) rfl ?_
                  refine getF F hK hP lf_X9_127 (0) (mp_0 cA am r66.2) rfl (dd D_X9_statement 87 rfl) ?_
                  refine lv_dup_x1 F.1 F.2.1 (dd D_X9_statement 88 rfl) rfl rfl ?_
                  refine lv_iconst (v := (1 : Int32)) F.1 F.2.1 (dd D_X9_statement 89 rfl) ki_1 ?_
                  refine lv_iadd F.1 F.2.1 (dd D_X9_statement 90 rfl) ?_
                  refine putF F hK hP hD hS lp_X9_127 (0) (mp_0 cA am r66.2) (Nat.le_of_ble_eq_true rfl) (nar_int _) (fit_int _) (ws' := (mW cA am (m_set_stones r66.2 ((m_stones r66.2) + (1 : Int32))))) (ms_0_13 cA am r66.2 ((m_stones r66.2) + (1 : Int32))) (dd D_X9_statement 91 rfl) (fun H locs hP hD hS => ?_)
                  refine lv_aload_n F.1 F.2.1 (dd D_X9_statement 92 rfl) rfl (lv_at hl 1 rfl) ?_
                  refine getF F hK hP lf_X9_58 (0) (mp_0 cA am (m_set_stones r66.2 ((m_stones r66.2) + (1 : Int32)))) rfl (dd D_X9_statement 93 rfl) ?_
                  refine lv_iconst (v := (0 : Int32)) F.1 F.2.1 (dd D_X9_statement 94 rfl) ki_0 ?_
                  refine aldI F hK hP (30) (mp_30 cA am (m_set_stones r66.2 ((m_stones r66.2) + (1 : Int32)))) h (dd D_X9_statement 95 rfl) (fun z68 h => ?_)
                  refine astI F hK hP hD hS (28) (mp_28 cA am (m_set_stones r66.2 ((m_stones r66.2) + (1 : Int32)))) h (ws' := (mW cA am (m_set_stone (m_set_stones r66.2 ((m_stones r66.2) + (1 : Int32))) (upd (m_stone (m_set_stones r66.2 ((m_stones r66.2) + (1 : Int32)))) (Int32.toNatClampNeg (m_stones r66.2)) ((m_told (m_set_stones r66.2 ((m_stones r66.2) + (1 : Int32)))) (Int32.toNatClampNeg (0 : Int32))))))) (ms_28 cA am (m_set_stones r66.2 ((m_stones r66.2) + (1 : Int32))) (upd (m_stone (m_set_stones r66.2 ((m_stones r66.2) + (1 : Int32)))) (Int32.toNatClampNeg (m_stones r66.2)) ((m_told (m_set_stones r66.2 ((m_stones r66.2) + (1 : Int32)))) (Int32.toNatClampNeg (0 : Int32))))) (dd D_X9_statement 96 rfl) (fun z69 h H locs hP hD hS => ?_)
                  refine lv_iload_n F.1 F.2.1 (dd D_X9_statement 97 rfl) rfl (lv_at hl 0 rfl) ?_
                  obtain rfl := Option.some.inj h
                  exact rw_z (R := rmOf 6 0 0) F hP hD hS hr (bI_nar _) hlk ⟨Nat.le_of_ble_eq_true rfl, Nat.le_of_ble_eq_true rfl⟩ ⟨rfl, rfl⟩ (dd D_X9_statement 98 rfl)
          · refine lv_aload_n F.1 F.2.1 (dd D_X9_statement 32 rfl) rfl (lv_at hl 0 rfl) ?_
            refine lv_sipush (v := (179 : Int32)) F.1 F.2.1 (dd D_X9_statement 33 rfl) ks_179 ?_
            obtain ⟨r72, e73, h⟩ := Option.bind_eq_some_iff.mp h
            refine rwe_all (st' := [.int (bI r72.1)]) hD hS hA (rV (rest := []) F (c_X9_tells D cA am s n (179 : Int32) r72 e73 l H.size) lk_X9_187 (Nat.le_of_ble_eq_true rfl) (preRW hK hS hAb hP hD) (rcv_9 hK hP (q0 := (0)) (mp_0 cA am s)) rfl hl rfl (Nat.le_of_ble_eq_true rfl) (dd D_X9_statement 34 rfl) ⟨Nat.le_of_ble_eq_true rfl, Nat.le_of_ble_eq_true rfl⟩) rfl (fun H locs hP hD hS => ?_)
            refine x_bif_eq (tgt := 101) F.1 F.2.1 (dd D_X9_statement 35 rfl) rfl h (fun c86 h => ?_) (fun c86 h => ?_)
            · refine lv_iconst (v := (0 : Int32)) F.1 F.2.1 (dd D_X9_statement 51 rfl) ki_0 ?_
              obtain rfl := Option.some.inj h
              exact rw_z (R := rmOf 6 0 0) F hP hD hS hr rfl hlk ⟨Nat.le_of_ble_eq_true rfl, Nat.le_of_ble_eq_true rfl⟩ ⟨rfl, rfl⟩ (dd D_X9_statement 52 rfl)
            · refine lv_aload_n F.1 F.2.1 (dd D_X9_statement 36 rfl) rfl (lv_at hl 0 rfl) ?_
              refine lv_iconst (v := (1 : Int32)) F.1 F.2.1 (dd D_X9_statement 37 rfl) ki_1 ?_
              refine lv_aload_n F.1 F.2.1 (dd D_X9_statement 38 rfl) rfl (lv_at hl 0 rfl) ?_
              refine getF F hK hP lf_X9_58 (0) (mp_0 cA am r72.2) rfl (dd D_X9_statement 39 rfl) ?_
              refine lv_iconst (v := (0 : Int32)) F.1 F.2.1 (dd D_X9_statement 40 rfl) ki_0 ?_
              refine aldI F hK hP (30) (mp_30 cA am r72.2) h (dd D_X9_statement 41 rfl) (fun z74 h => ?_)
              refine lv_sipush (v := (179 : Int32)) F.1 F.2.1 (dd D_X9_statement 42 rfl) ks_179 ?_
              obtain ⟨r75, e76, h⟩ := Option.bind_eq_some_iff.mp h
              refine rwe_all (st' := [.int (bI r75.1)]) hD hS hA (rV (rest := []) F (c_X9_number D cA am r72.2 n (1 : Int32) ((m_told r72.2) (Int32.toNatClampNeg (0 : Int32))) (179 : Int32) r75 e76 l H.size) lk_X9_183 (Nat.le_of_ble_eq_true rfl) (preRW hK hS hAb hP hD) (rcv_9 hK hP (q0 := (0)) (mp_0 cA am r72.2)) rfl hl rfl (Nat.le_of_ble_eq_true rfl) (dd D_X9_statement 43 rfl) ⟨Nat.le_of_ble_eq_true rfl, Nat.le_of_ble_eq_true rfl⟩) rfl (fun H locs hP hD hS => ?_)
              refine x_bif_eq (tgt := 101) F.1 F.2.1 (dd D_X9_statement 44 rfl) rfl h (fun c85 h => ?_) (fun c85 h => ?_)
              · refine lv_iconst (v := (0 : Int32)) F.1 F.2.1 (dd D_X9_statement 51 rfl) ki_0 ?_
                obtain rfl := Option.some.inj h
                exact rw_z (R := rmOf 6 0 0) F hP hD hS hr rfl hlk ⟨Nat.le_of_ble_eq_true rfl, Nat.le_of_ble_eq_true rfl⟩ ⟨rfl, rfl⟩ (dd D_X9_statement 52 rfl)
              · refine lv_aload_n F.1 F.2.1 (dd D_X9_statement 45 rfl) rfl (lv_at hl 0 rfl) ?_
                refine lv_iconst (v := (2 : Int32)) F.1 F.2.1 (dd D_X9_statement 46 rfl) ki_2 ?_
                refine lv_iconst (v := (0 : Int32)) F.1 F.2.1 (dd D_X9_statement 47 rfl) ki_0 ?_
                refine lv_bipush (v := (30 : Int32)) F.1 F.2.1 (dd D_X9_statement 48 rfl) kb_30 ?_
                obtain ⟨r77, e78, h⟩ := Option.bind_eq_some_iff.mp h
                refine rwe_all (st' := [.int (bI r77.1)]) hD hS hA (rV (rest := []) F (c_X9_number D cA am r75.2 n (2 : Int32) (0 : Int32) (30 : Int32) r77 e78 l H.size) lk_X9_183 (Nat.le_of_ble_eq_true rfl) (preRW hK hS hAb hP hD) (rcv_9 hK hP (q0 := (0)) (mp_0 cA am r75.2)) rfl hl rfl (Nat.le_of_ble_eq_true rfl) (dd D_X9_statement 49 rfl) ⟨Nat.le_of_ble_eq_true rfl, Nat.le_of_ble_eq_true rfl⟩) rfl (fun H locs hP hD hS => ?_)
                refine x_bif_ne (tgt := 103) F.1 F.2.1 (dd D_X9_statement 50 rfl) rfl h (fun c84 h => ?_) (fun c84 h => ?_)
                · refine lv_aload_n F.1 F.2.1 (dd D_X9_statement 53 rfl) rfl (lv_at hl 0 rfl) ?_
                  refine lv_aload_n F.1 F.2.1 (dd D_X9_statement 54 rfl) rfl (lv_at hl 0 rfl) ?_
                  refine getF F hK hP lf_X9_58 (0) (mp_0 cA am r77.2) rfl (dd D_X9_statement 55 rfl) ?_
                  refine lv_iconst (v := (0 : Int32)) F.1 F.2.1 (dd D_X9_statement 56 rfl) ki_0 ?_
                  refine aldI F hK hP (30) (mp_30 cA am r77.2) h (dd D_X9_statement 57 rfl) (fun z79 h => ?_)
                  refine lv_aload_n F.1 F.2.1 (dd D_X9_statement 58 rfl) rfl (lv_at hl 0 rfl) ?_
                  refine getF F hK hP lf_X9_58 (0) (mp_0 cA am r77.2) rfl (dd D_X9_statement 59 rfl) ?_
                  refine lv_iconst (v := (1 : Int32)) F.1 F.2.1 (dd D_X9_statement 60 rfl) ki_1 ?_
                  refine aldI F hK hP (30) (mp_30 cA am r77.2) h (dd D_X9_statement 61 rfl) (fun z80 h => ?_)
                  refine lv_aload_n F.1 F.2.1 (dd D_X9_statement 62 rfl) rfl (lv_at hl 0 rfl) ?_
                  refine getF F hK hP lf_X9_58 (0) (mp_0 cA am r77.2) rfl (dd D_X9_statement 63 rfl) ?_
                  refine lv_iconst (v := (2 : Int32)) F.1 F.2.1 (dd D_X9_statement 64 rfl) ki_2 ?_
                  refine aldI F hK hP (30) (mp_30 cA am r77.2) h (dd D_X9_statement 65 rfl) (fun z81 h => ?_)
                  obtain ⟨r82, e83, h⟩ := Option.bind_eq_some_iff.mp h
                  refine rwe_all (st' := []) hD hS hA (rV (rest := []) F (c_X9_addNotch D cA am r77.2 n ((m_told r77.2) (Int32.toNatClampNeg (0 : Int32))) ((m_told r77.2) (Int32.toNatClampNeg (1 : Int32))) ((m_told r77.2) (Int32.toNatClampNeg (2 : Int32))) r82 e83 l H.size) lk_X9_123 (Nat.le_of_ble_eq_true rfl) (preRW hK hS hAb hP hD) (rcv_9 hK hP (q0 := (0)) (mp_0 cA am r77.2)) rfl hl rfl (Nat.le_of_ble_eq_true rfl) (dd D_X9_statement 66 rfl) ⟨Nat.le_of_ble_eq_true rfl, Nat.le_of_ble_eq_true rfl⟩) rfl (fun H locs hP hD hS => ?_)
                  refine lv_iconst (v := (1 : Int32)) F.1 F.2.1 (dd D_X9_statement 67 rfl) ki_1 ?_
                  obtain rfl := Option.some.inj h
                  exact rw_z (R := rmOf 6 0 0) F hP hD hS hr rfl hlk ⟨Nat.le_of_ble_eq_true rfl, Nat.le_of_ble_eq_true rfl⟩ ⟨rfl, rfl⟩ (dd D_X9_statement 68 rfl)
                · refine lv_iconst (v := (0 : Int32)) F.1 F.2.1 (dd D_X9_statement 51 rfl) ki_0 ?_
                  obtain rfl := Option.some.inj h
                  exact rw_z (R := rmOf 6 0 0) F hP hD hS hr rfl hlk ⟨Nat.le_of_ble_eq_true rfl, Nat.le_of_ble_eq_true rfl⟩ ⟨rfl, rfl⟩ (dd D_X9_statement 52 rfl)
      · refine lv_aload_n F.1 F.2.1 (dd D_X9_statement 20 rfl) rfl (lv_at hl 0 rfl) ?_
        refine lv_iconst (v := (2 : Int32)) F.1 F.2.1 (dd D_X9_statement 21 rfl) ki_2 ?_
        obtain ⟨r88, e89, h⟩ := Option.bind_eq_some_iff.mp h
        refine rwe_all (st' := [.int (bI r88.1)]) hD hS hA (rV (rest := []) F (c_X9_askedTold D cA am s n (2 : Int32) r88 e89 l H.size) lk_X9_196 (Nat.le_of_ble_eq_true rfl) (preRW hK hS hAb hP hD) (rcv_9 hK hP (q0 := (0)) (mp_0 cA am s)) rfl hl rfl (Nat.le_of_ble_eq_true rfl) (dd D_X9_statement 22 rfl) ⟨Nat.le_of_ble_eq_true rfl, Nat.le_of_ble_eq_true rfl⟩) rfl (fun H locs hP hD hS => ?_)
        obtain rfl := Option.some.inj h
        exact rw_z (R := rmOf 6 0 0) F hP hD hS hr (bI_nar _) hlk ⟨Nat.le_of_ble_eq_true rfl, Nat.le_of_ble_eq_true rfl⟩ ⟨rfl, rfl⟩ (dd D_X9_statement 23 rfl)
    · refine lv_aload_n F.1 F.2.1 (dd D_X9_statement 12 rfl) rfl (lv_at hl 0 rfl) ?_
      refine lv_iconst (v := (1 : Int32)) F.1 F.2.1 (dd D_X9_statement 13 rfl) ki_1 ?_
      obtain ⟨r91, e92, h⟩ := Option.bind_eq_some_iff.mp h
      refine rwe_all (st' := [.int (bI r91.1)]) hD hS hA (rV (rest := []) F (c_X9_askedTold D cA am s n (1 : Int32) r91 e92 l H.size) lk_X9_196 (Nat.le_of_ble_eq_true rfl) (preRW hK hS hAb hP hD) (rcv_9 hK hP (q0 := (0)) (mp_0 cA am s)) rfl hl rfl (Nat.le_of_ble_eq_true rfl) (dd D_X9_statement 14 rfl) ⟨Nat.le_of_ble_eq_true rfl, Nat.le_of_ble_eq_true rfl⟩) rfl (fun H locs hP hD hS => ?_)
      obtain rfl := Option.some.inj h
      exact rw_z (R := rmOf 6 0 0) F hP hD hS hr (bI_nar _) hlk ⟨Nat.le_of_ble_eq_true rfl, Nat.le_of_ble_eq_true rfl⟩ ⟨rfl, rfl⟩ (dd D_X9_statement 15 rfl)
  · refine lv_aload_n F.1 F.2.1 (dd D_X9_statement 4 rfl) rfl (lv_at hl 0 rfl) ?_
    refine lv_iconst (v := (0 : Int32)) F.1 F.2.1 (dd D_X9_statement 5 rfl) ki_0 ?_
    obtain ⟨r94, e95, h⟩ := Option.bind_eq_some_iff.mp h
    refine rwe_all (st' := [.int (bI r94.1)]) hD hS hA (rV (rest := []) F (c_X9_askedTold D cA am s n (0 : Int32) r94 e95 l H.size) lk_X9_196 (Nat.le_of_ble_eq_true rfl) (preRW hK hS hAb hP hD) (rcv_9 hK hP (q0 := (0)) (mp_0 cA am s)) rfl hl rfl (Nat.le_of_ble_eq_true rfl) (dd D_X9_statement 6 rfl) ⟨Nat.le_of_ble_eq_true rfl, Nat.le_of_ble_eq_true rfl⟩) rfl (fun H locs hP hD hS => ?_)
    obtain rfl := Option.some.inj h
    exact rw_z (R := rmOf 6 0 0) F hP hD hS hr (bI_nar _) hlk ⟨Nat.le_of_ble_eq_true rfl, Nat.le_of_ble_eq_true rfl⟩ ⟨rfl, rfl⟩ (dd D_X9_statement 7 rfl)
def F_X9_readAll_L23 (n : Nat)  : Nat → MS → Option (Bool × MS)
  | 0, _ => none
  | kf + 1, u0 => (if (m_token u0) = 0 then some (true, u0) else (if (m_token u0) = (3 : Int32) then (((F_X9_look n u0)).bind fun r7 => (((F_X9_statement n r7)).bind fun r9 => bf r9.1 (F_X9_readAll_L23 n kf (m_set_statements r9.2 ((m_statements r9.2) + (1 : Int32)))) (some (false, r9.2)))) else some ((F_X9_wrong u0).1, (F_X9_wrong u0).2)))
def F_X9_readAll (n : Nat) (s : MS) : Option (Bool × MS) := (((F_X9_look n (m_set_atp (m_set_statements s (1 : Int32)) (0 : Int32)))).bind fun r1 => (((F_X9_statement n r1)).bind fun r3 => bf r3.1 (F_X9_readAll_L23 n n r3.2) (some (false, r3.2))))
set_option maxHeartbeats 4000000 in
set_option maxRecDepth 100000 in
theorem c_X9_readAll (D : va_G) (cA : Nat → ClassId) (am : Nat → Nat) (s : MS) (n : Nat)  (r : (Bool × MS)) (h : F_X9_readAll n s = some r) : RW m_X9_readAll 7 0 0 D cA [.ref (am 0)] (mW cA am s) (exq (some (.int (bI r.1))) (mW cA am r.2)) := by
  refine RW.ofW gy_X9_readAll.2.2 (Nat.le_of_ble_eq_true rfl) ?_
  intro l p e sM m below meth c A H locs F hr hlk hnm hK hP hD hS hA hAb ls hl
  have hl : lv_has ls 1 [(0, .ref (am 0))] := hl
  unfold F_X9_readAll at h
  refine lv_aload_n F.1 F.2.1 (dd D_X9_readAll 0 rfl) rfl (lv_at hl 0 rfl) ?_
  refine lv_iconst (v := (1 : Int32)) F.1 F.2.1 (dd D_X9_readAll 1 rfl) ki_1 ?_
  refine putF F hK hP hD hS lp_X9_209 (0) (mp_0 cA am s) (Nat.le_of_ble_eq_true rfl) (nar_int _) (fit_int _) (ws' := (mW cA am (m_set_statements s (1 : Int32)))) (ms_0_28 cA am s (1 : Int32)) (dd D_X9_readAll 2 rfl) (fun H locs hP hD hS => ?_)
  refine lv_aload_n F.1 F.2.1 (dd D_X9_readAll 3 rfl) rfl (lv_at hl 0 rfl) ?_
  refine lv_iconst (v := (0 : Int32)) F.1 F.2.1 (dd D_X9_readAll 4 rfl) ki_0 ?_
  refine putF F hK hP hD hS lp_X9_144 (0) (mp_0 cA am (m_set_statements s (1 : Int32))) (Nat.le_of_ble_eq_true rfl) (nar_int _) (fit_int _) (ws' := (mW cA am (m_set_atp (m_set_statements s (1 : Int32)) (0 : Int32)))) (ms_0_22 cA am (m_set_statements s (1 : Int32)) (0 : Int32)) (dd D_X9_readAll 5 rfl) (fun H locs hP hD hS => ?_)
  refine lv_aload_n F.1 F.2.1 (dd D_X9_readAll 6 rfl) rfl (lv_at hl 0 rfl) ?_
  obtain ⟨r1, e2, h⟩ := Option.bind_eq_some_iff.mp h
  refine rwe_all (st' := []) hD hS hA (rV (rest := []) F (c_X9_look D cA am (m_set_atp (m_set_statements s (1 : Int32)) (0 : Int32)) n r1 e2 l H.size) lk_X9_180 (Nat.le_of_ble_eq_true rfl) (preRW hK hS hAb hP hD) (rcv_9 hK hP (q0 := (0)) (mp_0 cA am (m_set_atp (m_set_statements s (1 : Int32)) (0 : Int32)))) rfl hl rfl (Nat.le_of_ble_eq_true rfl) (dd D_X9_readAll 7 rfl) ⟨Nat.le_of_ble_eq_true rfl, Nat.le_of_ble_eq_true rfl⟩) rfl (fun H locs hP hD hS => ?_)
  refine lv_aload_n F.1 F.2.1 (dd D_X9_readAll 8 rfl) rfl (lv_at hl 0 rfl) ?_
  obtain ⟨r3, e4, h⟩ := Option.bind_eq_some_iff.mp h
  refine rwe_all (st' := [.int (bI r3.1)]) hD hS hA (rV (rest := []) F (c_X9_statement D cA am r1 n r3 e4 l H.size) lk_X9_212 (Nat.le_of_ble_eq_true rfl) (preRW hK hS hAb hP hD) (rcv_9 hK hP (q0 := (0)) (mp_0 cA am r1)) rfl hl rfl (Nat.le_of_ble_eq_true rfl) (dd D_X9_readAll 9 rfl) ⟨Nat.le_of_ble_eq_true rfl, Nat.le_of_ble_eq_true rfl⟩) rfl (fun H locs hP hD hS => ?_)
  refine x_bif_ne (tgt := 23) F.1 F.2.1 (dd D_X9_readAll 10 rfl) rfl h (fun c20 h => ?_) (fun c20 h => ?_)
  · have L12 : ∀ (kf : Nat) (u0_L12 : MS) (H : Heap) (locs : List Loc) (ls : Array Slot), va_P D vwCl (mW cA am u0_L12) H → va_D A (mW cA am u0_L12) → va_S A sM.heap H locs → lv_has ls 1 [(0, .ref (am 0))] → F_X9_readAll_L23 n kf u0_L12 = some r → Wrw 7 0 0 D A (exq (some (.int (bI r.1))) (mW cA am r.2)) p l e sM m ([.ref (am 0)] : List Value).toArray below meth c H locs 0 0 23 ls [] := by
      intro kf
      induction kf with
      | zero =>
        intro u0_L12 H locs ls hP hD hS hl h
        cases (show none = some r from h)
      | succ k_L12 ih_L12 =>
        intro u0_L12 H locs ls hP hD hS hl h
        unfold F_X9_readAll_L23 at h
        refine lv_aload_n F.1 F.2.1 (dd D_X9_readAll 13 rfl) rfl (lv_at hl 0 rfl) ?_
        refine getF F hK hP lf_X9_153 (0) (mp_0 cA am u0_L12) rfl (dd D_X9_readAll 14 rfl) ?_
        refine x_if_eq (tgt := 69) F.1 F.2.1 (dd D_X9_readAll 15 rfl) rfl h (fun c13 h => ?_) (fun c13 h => ?_)
        · refine lv_iconst (v := (1 : Int32)) F.1 F.2.1 (dd D_X9_readAll 37 rfl) ki_1 ?_
          obtain rfl := Option.some.inj h
          exact rw_z (R := rmOf 7 0 0) F hP hD hS hr rfl hlk ⟨Nat.le_of_ble_eq_true rfl, Nat.le_of_ble_eq_true rfl⟩ ⟨rfl, rfl⟩ (dd D_X9_readAll 38 rfl)
        · refine lv_aload_n F.1 F.2.1 (dd D_X9_readAll 16 rfl) rfl (lv_at hl 0 rfl) ?_
          refine getF F hK hP lf_X9_153 (0) (mp_0 cA am u0_L12) rfl (dd D_X9_readAll 17 rfl) ?_
          refine lv_iconst (v := (3 : Int32)) F.1 F.2.1 (dd D_X9_readAll 18 rfl) ki_3 ?_
          refine x_icmp_eq (tgt := 43) F.1 F.2.1 (dd D_X9_readAll 19 rfl) rfl h (fun c14 h => ?_) (fun c14 h => ?_)
          · refine lv_aload_n F.1 F.2.1 (dd D_X9_readAll 23 rfl) rfl (lv_at hl 0 rfl) ?_
            obtain ⟨r15, e16, h⟩ := Option.bind_eq_some_iff.mp h
            refine rwe_all (st' := []) hD hS hA (rV (rest := []) F (c_X9_look D cA am u0_L12 n r15 e16 l H.size) lk_X9_180 (Nat.le_of_ble_eq_true rfl) (preRW hK hS hAb hP hD) (rcv_9 hK hP (q0 := (0)) (mp_0 cA am u0_L12)) rfl hl rfl (Nat.le_of_ble_eq_true rfl) (dd D_X9_readAll 24 rfl) ⟨Nat.le_of_ble_eq_true rfl, Nat.le_of_ble_eq_true rfl⟩) rfl (fun H locs hP hD hS => ?_)
            refine lv_aload_n F.1 F.2.1 (dd D_X9_readAll 25 rfl) rfl (lv_at hl 0 rfl) ?_
            obtain ⟨r17, e18, h⟩ := Option.bind_eq_some_iff.mp h
            refine rwe_all (st' := [.int (bI r17.1)]) hD hS hA (rV (rest := []) F (c_X9_statement D cA am r15 n r17 e18 l H.size) lk_X9_212 (Nat.le_of_ble_eq_true rfl) (preRW hK hS hAb hP hD) (rcv_9 hK hP (q0 := (0)) (mp_0 cA am r15)) rfl hl rfl (Nat.le_of_ble_eq_true rfl) (dd D_X9_readAll 26 rfl) ⟨Nat.le_of_ble_eq_true rfl, Nat.le_of_ble_eq_true rfl⟩) rfl (fun H locs hP hD hS => ?_)
            refine x_bif_ne (tgt := 56) F.1 F.2.1 (dd D_X9_readAll 27 rfl) rfl h (fun c19 h => ?_) (fun c19 h => ?_)
            · refine lv_aload_n F.1 F.2.1 (dd D_X9_readAll 30 rfl) rfl (lv_at hl 0 rfl) ?_
              refine lv_dup F.1 F.2.1 (dd D_X9_readAll 31 rfl) rfl ?_
              refine getF F hK hP lf_X9_209 (0) (mp_0 cA am r17.2) rfl (dd D_X9_readAll 32 rfl) ?_
              refine lv_iconst (v := (1 : Int32)) F.1 F.2.1 (dd D_X9_readAll 33 rfl) ki_1 ?_
              refine lv_iadd F.1 F.2.1 (dd D_X9_readAll 34 rfl) ?_
              refine putF F hK hP hD hS lp_X9_209 (0) (mp_0 cA am r17.2) (Nat.le_of_ble_eq_true rfl) (nar_int _) (fit_int _) (ws' := (mW cA am (m_set_statements r17.2 ((m_statements r17.2) + (1 : Int32))))) (ms_0_28 cA am r17.2 ((m_statements r17.2) + (1 : Int32))) (dd D_X9_readAll 35 rfl) (fun H locs hP hD hS => ?_)
              refine lv_goto (tgt := 23) F.1 F.2.1 (dd D_X9_readAll 36 rfl) rfl ?_
              exact ih_L12 (m_set_statements r17.2 ((m_statements r17.2) + (1 : Int32))) _ _ ls hP hD hS (lv_sub hl [0] rfl) h
            · refine lv_iconst (v := (0 : Int32)) F.1 F.2.1 (dd D_X9_readAll 28 rfl) ki_0 ?_
              obtain rfl := Option.some.inj h
              exact rw_z (R := rmOf 7 0 0) F hP hD hS hr rfl hlk ⟨Nat.le_of_ble_eq_true rfl, Nat.le_of_ble_eq_true rfl⟩ ⟨rfl, rfl⟩ (dd D_X9_readAll 29 rfl)
          · refine lv_aload_n F.1 F.2.1 (dd D_X9_readAll 20 rfl) rfl (lv_at hl 0 rfl) ?_
            refine rwe_all (st' := [.int (bI (F_X9_wrong u0_L12).1)]) hD hS hA (rV (rest := []) F (c_X9_wrong D cA am u0_L12 l H.size) lk_X9_176 (Nat.le_of_ble_eq_true rfl) (preRW hK hS hAb hP hD) (rcv_9 hK hP (q0 := (0)) (mp_0 cA am u0_L12)) rfl hl rfl (Nat.le_of_ble_eq_true rfl) (dd D_X9_readAll 21 rfl) ⟨Nat.le_of_ble_eq_true rfl, Nat.le_of_ble_eq_true rfl⟩) rfl (fun H locs hP hD hS => ?_)
            obtain rfl := Option.some.inj h
            exact rw_z (R := rmOf 7 0 0) F hP hD hS hr (bI_nar _) hlk ⟨Nat.le_of_ble_eq_true rfl, Nat.le_of_ble_eq_true rfl⟩ ⟨rfl, rfl⟩ (dd D_X9_readAll 22 rfl)
    exact L12 n r3.2 _ _ ls hP hD hS (lv_sub hl [0] rfl) h
  · refine lv_iconst (v := (0 : Int32)) F.1 F.2.1 (dd D_X9_readAll 11 rfl) ki_0 ?_
    obtain rfl := Option.some.inj h
    exact rw_z (R := rmOf 7 0 0) F hP hD hS hr rfl hlk ⟨Nat.le_of_ble_eq_true rfl, Nat.le_of_ble_eq_true rfl⟩ ⟨rfl, rfl⟩ (dd D_X9_readAll 12 rfl)
def F_X9_copyAll_L2 (n : Nat) (n1 : Nat) (u0 : (Nat → Int32)) (n2 : Nat)  : Nat → Int32 → (Nat → Int32) → Option (Nat → Int32)
  | 0, _, _ => none
  | kf + 1, w2, u1 => (if (Int32.ofNat n1) ≤ w2 then some u1 else gd (inb w2 n1) (gd (inb w2 n2) (F_X9_copyAll_L2 n n1 u0 n2 kf (w2 + (1 : Int32)) (upd u1 (Int32.toNatClampNeg w2) (u0 (Int32.toNatClampNeg w2))))))
def F_X9_copyAll (n : Nat) (n1 : Nat) (f : Nat → Int32) (n2 : Nat) (g : Nat → Int32) : Option (Nat → Int32) := F_X9_copyAll_L2 n n1 f n2 n (0 : Int32) g
set_option maxHeartbeats 4000000 in
set_option maxRecDepth 100000 in
theorem c_X9_copyAll (D : va_G) (cA : Nat → ClassId) (n1 : Nat) (a : Nat) (f : Nat → Int32) (n2 : Nat) (b : Nat) (g : Nat → Int32) (n : Nat)  (r : (Nat → Int32)) (h : F_X9_copyAll n n1 f n2 g = some r) : RW m_X9_copyAll 0 0 0 D cA [.ref (a), .ref (b)] ([(a, .inl (cA 0, n1, .inl f))] ++ [(b, .inl (cA 0, n2, .inl g))]) (exq (none) ([(a, .inl (cA 0, n1, .inl f))] ++ [(b, .inl (cA 0, n2, .inl r))])) := by
  refine RW.ofW gy_X9_copyAll.2.2 (Nat.le_of_ble_eq_true rfl) ?_
  intro l p e sM m below meth c A H locs F hr hlk hnm hK hP hD hS hA hAb ls hl
  have hl : lv_has ls 3 [(0, .ref (a)), (1, .ref (b))] := hl
  unfold F_X9_copyAll at h
  refine lv_iconst (v := (0 : Int32)) F.1 F.2.1 (dd D_X9_copyAll 0 rfl) ki_0 ?_
  refine lv_istore_n (lv' := [(2, .int (0 : Int32)), (0, .ref (a)), (1, .ref (b))]) F.1 F.2.1 (dd D_X9_copyAll 1 rfl) rfl hl (Nat.le_of_ble_eq_true rfl) rfl (fun ls hl => ?_)
  have L4 : ∀ (kf : Nat) (w2_L4 : Int32) (u1_L4 : (Nat → Int32)) (H : Heap) (locs : List Loc) (ls : Array Slot), va_P D vwCl ([(a, .inl (cA 0, n1, .inl f))] ++ [(b, .inl (cA 0, n2, .inl u1_L4))]) H → va_D A ([(a, .inl (cA 0, n1, .inl f))] ++ [(b, .inl (cA 0, n2, .inl u1_L4))]) → va_S A sM.heap H locs → lv_has ls 3 [(0, .ref (a)), (1, .ref (b)), (2, .int w2_L4)] → F_X9_copyAll_L2 n n1 f n2 kf w2_L4 u1_L4 = some r → Wrw 0 0 0 D A (exq (none) ([(a, .inl (cA 0, n1, .inl f))] ++ [(b, .inl (cA 0, n2, .inl r))])) p l e sM m ([.ref (a), .ref (b)] : List Value).toArray below meth c H locs 0 0 2 ls [] := by
    intro kf
    induction kf with
    | zero =>
      intro w2_L4 u1_L4 H locs ls hP hD hS hl h
      cases (show none = some r from h)
    | succ k_L4 ih_L4 =>
      intro w2_L4 u1_L4 H locs ls hP hD hS hl h
      unfold F_X9_copyAll_L2 at h
      refine lv_iload_n F.1 F.2.1 (dd D_X9_copyAll 2 rfl) rfl (lv_at hl 2 rfl) ?_
      refine lv_aload_n F.1 F.2.1 (dd D_X9_copyAll 3 rfl) rfl (lv_at hl 0 rfl) ?_
      refine alen F hK hP (0) 0 rfl rfl (v := (Int32.ofNat n1)) rfl (dd D_X9_copyAll 4 rfl) ?_
      refine x_icmp_ge (tgt := 20) F.1 F.2.1 (dd D_X9_copyAll 5 rfl) rfl h (fun c5 h => ?_) (fun c5 h => ?_)
      · obtain rfl := Option.some.inj h
        exact rw_v (R := rmOf 0 0 0) F hP hD hS hr hlk ⟨Nat.le_of_ble_eq_true rfl, Nat.le_of_ble_eq_true rfl⟩ ⟨rfl, rfl⟩ (dd D_X9_copyAll 14 rfl)
      · refine lv_aload_n F.1 F.2.1 (dd D_X9_copyAll 6 rfl) rfl (lv_at hl 1 rfl) ?_
        refine lv_iload_n F.1 F.2.1 (dd D_X9_copyAll 7 rfl) rfl (lv_at hl 2 rfl) ?_
        refine lv_aload_n F.1 F.2.1 (dd D_X9_copyAll 8 rfl) rfl (lv_at hl 0 rfl) ?_
        refine lv_iload_n F.1 F.2.1 (dd D_X9_copyAll 9 rfl) rfl (lv_at hl 2 rfl) ?_
        refine aldI F hK hP (0) rfl h (dd D_X9_copyAll 10 rfl) (fun z6 h => ?_)
        refine astI F hK hP hD hS (1) rfl h (ws' := ([(a, .inl (cA 0, n1, .inl f))] ++ [(b, .inl (cA 0, n2, .inl (upd u1_L4 (Int32.toNatClampNeg w2_L4) (f (Int32.toNatClampNeg w2_L4)))))])) rfl (dd D_X9_copyAll 11 rfl) (fun z7 h H locs hP hD hS => ?_)
        refine lv_iinc (v := (w2_L4 + (1 : Int32))) (lv' := [(2, .int (w2_L4 + (1 : Int32))), (0, .ref (a)), (1, .ref (b))]) F.1 F.2.1 (dd D_X9_copyAll 12 rfl) hl (k := 2) rfl (congrArg (fun z => w2_L4 + z) ki_1) (Nat.le_of_ble_eq_true rfl) rfl (fun ls hl => ?_)
        refine lv_goto (tgt := 2) F.1 F.2.1 (dd D_X9_copyAll 13 rfl) rfl ?_
        exact ih_L4 (w2_L4 + (1 : Int32)) (upd u1_L4 (Int32.toNatClampNeg w2_L4) (f (Int32.toNatClampNeg w2_L4))) _ _ ls hP hD hS (lv_sub hl [1, 2, 0] rfl) h
  exact L4 n (0 : Int32) g _ _ ls hP hD hS (lv_sub hl [1, 2, 0] rfl) h
def F_X9_takeFrom_L21 (n : Nat) (u1 : MS)  : Nat → Int32 → MS → Option MS
  | 0, _, _ => none
  | kf + 1, w2, u0 => (if (8 : Int32) ≤ w2 then (((F_X9_copyAll n 6 (m_stone u1) 6 (m_stone (m_set_stones u0 (m_stones u1))))).bind fun r4 => (((F_X9_copyAll n 8 (m_cloud u1) 8 (m_cloud (m_set_clouds (m_set_stone (m_set_stones u0 (m_stones u1)) r4) (m_clouds u1))))).bind fun r6 => some (m_set_seed (m_set_looks (m_set_today (m_set_cloud (m_set_clouds (m_set_stone (m_set_stones u0 (m_stones u1)) r4) (m_clouds u1)) r6) (m_today u1)) (m_looks u1)) (m_seed u1)))) else gd (inb w2 8) (gd (inb w2 8) ((((F_X9_copyAll n 3 (m_notch u1 (Int32.toNatClampNeg w2)) 3 (m_notch u0 (Int32.toNatClampNeg w2)))).bind fun r12 => F_X9_takeFrom_L21 n u1 kf (w2 + (1 : Int32)) (m_set_notch u0 (va_up (m_notch u0) (Int32.toNatClampNeg w2) r12))))))
def F_X9_takeFrom (n : Nat) (s : MS) (t : MS) : Option MS := (((F_X9_copyAll n 4 (m_asked t) 4 (m_asked s))).bind fun r1 => F_X9_takeFrom_L21 n t n (0 : Int32) (m_set_notches (m_set_asked s r1) (m_notches t)))
set_option maxHeartbeats 4000000 in
set_option maxRecDepth 100000 in
theorem c_X9_takeFrom (D : va_G) (cA : Nat → ClassId) (am : Nat → Nat) (s : MS) (bm : Nat → Nat) (t : MS) (n : Nat)  (r : MS) (h : F_X9_takeFrom n s t = some r) : RW m_X9_takeFrom 1 0 0 D cA [.ref (am 0), .ref (bm 0)] ((mW cA am s) ++ (mW cA bm t)) (exq (none) ((mW cA am r) ++ (mW cA bm t))) := by
  refine RW.ofW gy_X9_takeFrom.2.2 (Nat.le_of_ble_eq_true rfl) ?_
  intro l p e sM m below meth c A H locs F hr hlk hnm hK hP hD hS hA hAb ls hl
  have hl : lv_has ls 3 [(0, .ref (am 0)), (1, .ref (bm 0))] := hl
  unfold F_X9_takeFrom at h
  refine lv_aload_n F.1 F.2.1 (dd D_X9_takeFrom 0 rfl) rfl (lv_at hl 1 rfl) ?_
  refine getF F hK hP lf_X9_40 (31+(0)) (gR (mp_len cA am s) (mp_0 cA bm t)) rfl (dd D_X9_takeFrom 1 rfl) ?_
  refine lv_aload_n F.1 F.2.1 (dd D_X9_takeFrom 2 rfl) rfl (lv_at hl 0 rfl) ?_
  refine getF F hK hP lf_X9_40 (0) (gL (mp_0 cA am s)) rfl (dd D_X9_takeFrom 3 rfl) ?_
  obtain ⟨r1, e2, h⟩ := Option.bind_eq_some_iff.mp h
  refine rwe (V := none) (wc := ([((bm 18), .inl (cA 0, 4, .inl (m_asked t)))] ++ [((am 18), .inl (cA 0, 4, .inl (m_asked s)))])) (wc' := ([((bm 18), .inl (cA 0, 4, .inl (m_asked t)))] ++ [((am 18), .inl (cA 0, 4, .inl r1))])) (st' := []) (W' := ((mW cA am (m_set_asked s r1)) ++ (mW cA bm t))) hP hD hS hA [(31+(18)), (18)] (jc2 (gR (mp_len cA am s) (mp_18 cA bm t)) (gL (mp_18 cA am s))) (nd2 (by decide)) rfl (rS (rest := []) F (c_X9_copyAll D cA 4 (bm 18) (m_asked t) 4 (am 18) (m_asked s) n r1 e2 l H.size) lk_X9_345 (Nat.le_of_ble_eq_true rfl) (preRW hK hS hAb (selP (is := [(31+(18)), (18)]) hP (jc2 (gR (mp_len cA am s) (mp_18 cA bm t)) (gL (mp_18 cA am s)))) (selD (is := [(31+(18)), (18)]) hD (nd2 (by decide)) (jc2 (gR (mp_len cA am s) (mp_18 cA bm t)) (gL (mp_18 cA am s))))) rfl hl rfl (Nat.le_of_ble_eq_true rfl) (dd D_X9_takeFrom 4 rfl) ⟨Nat.le_of_ble_eq_true rfl, Nat.le_of_ble_eq_true rfl⟩) (js2 (gR (mp_len cA am s) (mp_18 cA bm t)) (sL (Nat.le_of_ble_eq_true rfl) (ms_18 cA am s r1))) rfl (fun H locs hP hD hS => ?_)
  refine lv_aload_n F.1 F.2.1 (dd D_X9_takeFrom 5 rfl) rfl (lv_at hl 0 rfl) ?_
  refine lv_aload_n F.1 F.2.1 (dd D_X9_takeFrom 6 rfl) rfl (lv_at hl 1 rfl) ?_
  refine getF F hK hP lf_X9_116 (31+(0)) (gR (mp_len cA am (m_set_asked s r1)) (mp_0 cA bm t)) rfl (dd D_X9_takeFrom 7 rfl) ?_
  refine putF F hK hP hD hS lp_X9_116 (0) (gL (mp_0 cA am (m_set_asked s r1))) (Nat.le_of_ble_eq_true rfl) (nar_int _) (fit_int _) (ws' := ((mW cA am (m_set_notches (m_set_asked s r1) (m_notches t))) ++ (mW cA bm t))) (sL (Nat.le_of_ble_eq_true rfl) (ms_0_11 cA am (m_set_asked s r1) (m_notches t))) (dd D_X9_takeFrom 8 rfl) (fun H locs hP hD hS => ?_)
  refine lv_iconst (v := (0 : Int32)) F.1 F.2.1 (dd D_X9_takeFrom 9 rfl) ki_0 ?_
  refine lv_istore_n (lv' := [(2, .int (0 : Int32)), (0, .ref (am 0)), (1, .ref (bm 0))]) F.1 F.2.1 (dd D_X9_takeFrom 10 rfl) rfl hl (Nat.le_of_ble_eq_true rfl) rfl (fun ls hl => ?_)
  have L14 : ∀ (kf : Nat) (w2_L14 : Int32) (u0_L14 : MS) (H : Heap) (locs : List Loc) (ls : Array Slot), va_P D vwCl ((mW cA am u0_L14) ++ (mW cA bm t)) H → va_D A ((mW cA am u0_L14) ++ (mW cA bm t)) → va_S A sM.heap H locs → lv_has ls 3 [(0, .ref (am 0)), (1, .ref (bm 0)), (2, .int w2_L14)] → F_X9_takeFrom_L21 n t kf w2_L14 u0_L14 = some r → Wrw 1 0 0 D A (exq (none) ((mW cA am r) ++ (mW cA bm t))) p l e sM m ([.ref (am 0), .ref (bm 0)] : List Value).toArray below meth c H locs 0 0 21 ls [] := by
    intro kf
    induction kf with
    | zero =>
      intro w2_L14 u0_L14 H locs ls hP hD hS hl h
      cases (show none = some r from h)
    | succ k_L14 ih_L14 =>
      intro w2_L14 u0_L14 H locs ls hP hD hS hl h
      unfold F_X9_takeFrom_L21 at h
      refine lv_iload_n F.1 F.2.1 (dd D_X9_takeFrom 11 rfl) rfl (lv_at hl 2 rfl) ?_
      refine lv_bipush (v := (8 : Int32)) F.1 F.2.1 (dd D_X9_takeFrom 12 rfl) kb_8 ?_
      refine x_icmp_ge (tgt := 48) F.1 F.2.1 (dd D_X9_takeFrom 13 rfl) rfl h (fun c15 h => ?_) (fun c15 h => ?_)
      · refine lv_aload_n F.1 F.2.1 (dd D_X9_takeFrom 25 rfl) rfl (lv_at hl 0 rfl) ?_
        refine lv_aload_n F.1 F.2.1 (dd D_X9_takeFrom 26 rfl) rfl (lv_at hl 1 rfl) ?_
        refine getF F hK hP lf_X9_127 (31+(0)) (gR (mp_len cA am u0_L14) (mp_0 cA bm t)) rfl (dd D_X9_takeFrom 27 rfl) ?_
        refine putF F hK hP hD hS lp_X9_127 (0) (gL (mp_0 cA am u0_L14)) (Nat.le_of_ble_eq_true rfl) (nar_int _) (fit_int _) (ws' := ((mW cA am (m_set_stones u0_L14 (m_stones t))) ++ (mW cA bm t))) (sL (Nat.le_of_ble_eq_true rfl) (ms_0_13 cA am u0_L14 (m_stones t))) (dd D_X9_takeFrom 28 rfl) (fun H locs hP hD hS => ?_)
        refine lv_aload_n F.1 F.2.1 (dd D_X9_takeFrom 29 rfl) rfl (lv_at hl 1 rfl) ?_
        refine getF F hK hP lf_X9_48 (31+(0)) (gR (mp_len cA am (m_set_stones u0_L14 (m_stones t))) (mp_0 cA bm t)) rfl (dd D_X9_takeFrom 30 rfl) ?_
        refine lv_aload_n F.1 F.2.1 (dd D_X9_takeFrom 31 rfl) rfl (lv_at hl 0 rfl) ?_
        refine getF F hK hP lf_X9_48 (0) (gL (mp_0 cA am (m_set_stones u0_L14 (m_stones t)))) rfl (dd D_X9_takeFrom 32 rfl) ?_
        obtain ⟨r16, e17, h⟩ := Option.bind_eq_some_iff.mp h
        refine rwe (V := none) (wc := ([((bm 28), .inl (cA 0, 6, .inl (m_stone t)))] ++ [((am 28), .inl (cA 0, 6, .inl (m_stone (m_set_stones u0_L14 (m_stones t)))))])) (wc' := ([((bm 28), .inl (cA 0, 6, .inl (m_stone t)))] ++ [((am 28), .inl (cA 0, 6, .inl r16))])) (st' := []) (W' := ((mW cA am (m_set_stone (m_set_stones u0_L14 (m_stones t)) r16)) ++ (mW cA bm t))) hP hD hS hA [(31+(28)), (28)] (jc2 (gR (mp_len cA am (m_set_stones u0_L14 (m_stones t))) (mp_28 cA bm t)) (gL (mp_28 cA am (m_set_stones u0_L14 (m_stones t))))) (nd2 (by decide)) rfl (rS (rest := []) F (c_X9_copyAll D cA 6 (bm 28) (m_stone t) 6 (am 28) (m_stone (m_set_stones u0_L14 (m_stones t))) n r16 e17 l H.size) lk_X9_345 (Nat.le_of_ble_eq_true rfl) (preRW hK hS hAb (selP (is := [(31+(28)), (28)]) hP (jc2 (gR (mp_len cA am (m_set_stones u0_L14 (m_stones t))) (mp_28 cA bm t)) (gL (mp_28 cA am (m_set_stones u0_L14 (m_stones t)))))) (selD (is := [(31+(28)), (28)]) hD (nd2 (by decide)) (jc2 (gR (mp_len cA am (m_set_stones u0_L14 (m_stones t))) (mp_28 cA bm t)) (gL (mp_28 cA am (m_set_stones u0_L14 (m_stones t))))))) rfl hl rfl (Nat.le_of_ble_eq_true rfl) (dd D_X9_takeFrom 33 rfl) ⟨Nat.le_of_ble_eq_true rfl, Nat.le_of_ble_eq_true rfl⟩) (js2 (gR (mp_len cA am (m_set_stones u0_L14 (m_stones t))) (mp_28 cA bm t)) (sL (Nat.le_of_ble_eq_true rfl) (ms_28 cA am (m_set_stones u0_L14 (m_stones t)) r16))) rfl (fun H locs hP hD hS => ?_)
        refine lv_aload_n F.1 F.2.1 (dd D_X9_takeFrom 34 rfl) rfl (lv_at hl 0 rfl) ?_
        refine lv_aload_n F.1 F.2.1 (dd D_X9_takeFrom 35 rfl) rfl (lv_at hl 1 rfl) ?_
        refine getF F hK hP lf_X9_130 (31+(0)) (gR (mp_len cA am (m_set_stone (m_set_stones u0_L14 (m_stones t)) r16)) (mp_0 cA bm t)) rfl (dd D_X9_takeFrom 36 rfl) ?_
        refine putF F hK hP hD hS lp_X9_130 (0) (gL (mp_0 cA am (m_set_stone (m_set_stones u0_L14 (m_stones t)) r16))) (Nat.le_of_ble_eq_true rfl) (nar_int _) (fit_int _) (ws' := ((mW cA am (m_set_clouds (m_set_stone (m_set_stones u0_L14 (m_stones t)) r16) (m_clouds t))) ++ (mW cA bm t))) (sL (Nat.le_of_ble_eq_true rfl) (ms_0_15 cA am (m_set_stone (m_set_stones u0_L14 (m_stones t)) r16) (m_clouds t))) (dd D_X9_takeFrom 37 rfl) (fun H locs hP hD hS => ?_)
        refine lv_aload_n F.1 F.2.1 (dd D_X9_takeFrom 38 rfl) rfl (lv_at hl 1 rfl) ?_
        refine getF F hK hP lf_X9_51 (31+(0)) (gR (mp_len cA am (m_set_clouds (m_set_stone (m_set_stones u0_L14 (m_stones t)) r16) (m_clouds t))) (mp_0 cA bm t)) rfl (dd D_X9_takeFrom 39 rfl) ?_
        refine lv_aload_n F.1 F.2.1 (dd D_X9_takeFrom 40 rfl) rfl (lv_at hl 0 rfl) ?_
        refine getF F hK hP lf_X9_51 (0) (gL (mp_0 cA am (m_set_clouds (m_set_stone (m_set_stones u0_L14 (m_stones t)) r16) (m_clouds t)))) rfl (dd D_X9_takeFrom 41 rfl) ?_
        obtain ⟨r18, e19, h⟩ := Option.bind_eq_some_iff.mp h
        refine rwe (V := none) (wc := ([((bm 29), .inl (cA 0, 8, .inl (m_cloud t)))] ++ [((am 29), .inl (cA 0, 8, .inl (m_cloud (m_set_clouds (m_set_stone (m_set_stones u0_L14 (m_stones t)) r16) (m_clouds t)))))])) (wc' := ([((bm 29), .inl (cA 0, 8, .inl (m_cloud t)))] ++ [((am 29), .inl (cA 0, 8, .inl r18))])) (st' := []) (W' := ((mW cA am (m_set_cloud (m_set_clouds (m_set_stone (m_set_stones u0_L14 (m_stones t)) r16) (m_clouds t)) r18)) ++ (mW cA bm t))) hP hD hS hA [(31+(29)), (29)] (jc2 (gR (mp_len cA am (m_set_clouds (m_set_stone (m_set_stones u0_L14 (m_stones t)) r16) (m_clouds t))) (mp_29 cA bm t)) (gL (mp_29 cA am (m_set_clouds (m_set_stone (m_set_stones u0_L14 (m_stones t)) r16) (m_clouds t))))) (nd2 (by decide)) rfl (rS (rest := []) F (c_X9_copyAll D cA 8 (bm 29) (m_cloud t) 8 (am 29) (m_cloud (m_set_clouds (m_set_stone (m_set_stones u0_L14 (m_stones t)) r16) (m_clouds t))) n r18 e19 l H.size) lk_X9_345 (Nat.le_of_ble_eq_true rfl) (preRW hK hS hAb (selP (is := [(31+(29)), (29)]) hP (jc2 (gR (mp_len cA am (m_set_clouds (m_set_stone (m_set_stones u0_L14 (m_stones t)) r16) (m_clouds t))) (mp_29 cA bm t)) (gL (mp_29 cA am (m_set_clouds (m_set_stone (m_set_stones u0_L14 (m_stones t)) r16) (m_clouds t)))))) (selD (is := [(31+(29)), (29)]) hD (nd2 (by decide)) (jc2 (gR (mp_len cA am (m_set_clouds (m_set_stone (m_set_stones u0_L14 (m_stones t)) r16) (m_clouds t))) (mp_29 cA bm t)) (gL (mp_29 cA am (m_set_clouds (m_set_stone (m_set_stones u0_L14 (m_stones t)) r16) (m_clouds t))))))) rfl hl rfl (Nat.le_of_ble_eq_true rfl) (dd D_X9_takeFrom 42 rfl) ⟨Nat.le_of_ble_eq_true rfl, Nat.le_of_ble_eq_true rfl⟩) (js2 (gR (mp_len cA am (m_set_clouds (m_set_stone (m_set_stones u0_L14 (m_stones t)) r16) (m_clouds t))) (mp_29 cA bm t)) (sL (Nat.le_of_ble_eq_true rfl) (ms_29 cA am (m_set_clouds (m_set_stone (m_set_stones u0_L14 (m_stones t)) r16) (m_clouds t)) r18))) rfl (fun H locs hP hD hS => ?_)
        refine lv_aload_n F.1 F.2.1 (dd D_X9_takeFrom 43 rfl) rfl (lv_at hl 0 rfl) ?_
        refine lv_aload_n F.1 F.2.1 (dd D_X9_takeFrom 44 rfl) rfl (lv_at hl 1 rfl) ?_
        refine getF F hK hP lf_X9_339 (31+(0)) (gR (mp_len cA am (m_set_cloud (m_set_clouds (m_set_stone (m_set_stones u0_L14 (m_stones t)) r16) (m_clouds t)) r18)) (mp_0 cA bm t)) rfl (dd D_X9_takeFrom 45 rfl) ?_
        refine putF F hK hP hD hS lp_X9_339 (0) (gL (mp_0 cA am (m_set_cloud (m_set_clouds (m_set_stone (m_set_stones u0_L14 (m_stones t)) r16) (m_clouds t)) r18))) (Nat.le_of_ble_eq_true rfl) (nar_int _) (fit_int _) (ws' := ((mW cA am (m_set_today (m_set_cloud (m_set_clouds (m_set_stone (m_set_stones u0_L14 (m_stones t)) r16) (m_clouds t)) r18) (m_today t))) ++ (mW cA bm t))) (sL (Nat.le_of_ble_eq_true rfl) (ms_0_17 cA am (m_set_cloud (m_set_clouds (m_set_stone (m_set_stones u0_L14 (m_stones t)) r16) (m_clouds t)) r18) (m_today t))) (dd D_X9_takeFrom 46 rfl) (fun H locs hP hD hS => ?_)
        refine lv_aload_n F.1 F.2.1 (dd D_X9_takeFrom 47 rfl) rfl (lv_at hl 0 rfl) ?_
        refine lv_aload_n F.1 F.2.1 (dd D_X9_takeFrom 48 rfl) rfl (lv_at hl 1 rfl) ?_
        refine getF F hK hP lf_X9_336 (31+(0)) (gR (mp_len cA am (m_set_today (m_set_cloud (m_set_clouds (m_set_stone (m_set_stones u0_L14 (m_stones t)) r16) (m_clouds t)) r18) (m_today t))) (mp_0 cA bm t)) rfl (dd D_X9_takeFrom 49 rfl) ?_
        refine putF F hK hP hD hS lp_X9_336 (0) (gL (mp_0 cA am (m_set_today (m_set_cloud (m_set_clouds (m_set_stone (m_set_stones u0_L14 (m_stones t)) r16) (m_clouds t)) r18) (m_today t)))) (Nat.le_of_ble_eq_true rfl) (nar_int _) (fit_int _) (ws' := ((mW cA am (m_set_looks (m_set_today (m_set_cloud (m_set_clouds (m_set_stone (m_set_stones u0_L14 (m_stones t)) r16) (m_clouds t)) r18) (m_today t)) (m_looks t))) ++ (mW cA bm t))) (sL (Nat.le_of_ble_eq_true rfl) (ms_0_18 cA am (m_set_today (m_set_cloud (m_set_clouds (m_set_stone (m_set_stones u0_L14 (m_stones t)) r16) (m_clouds t)) r18) (m_today t)) (m_looks t))) (dd D_X9_takeFrom 50 rfl) (fun H locs hP hD hS => ?_)
        refine lv_aload_n F.1 F.2.1 (dd D_X9_takeFrom 51 rfl) rfl (lv_at hl 0 rfl) ?_
        refine lv_aload_n F.1 F.2.1 (dd D_X9_takeFrom 52 rfl) rfl (lv_at hl 1 rfl) ?_
        refine getF F hK hP lf_X9_54 (31+(0)) (gR (mp_len cA am (m_set_looks (m_set_today (m_set_cloud (m_set_clouds (m_set_stone (m_set_stones u0_L14 (m_stones t)) r16) (m_clouds t)) r18) (m_today t)) (m_looks t))) (mp_0 cA bm t)) rfl (dd D_X9_takeFrom 53 rfl) ?_
        refine putF F hK hP hD hS lp_X9_54 (0) (gL (mp_0 cA am (m_set_looks (m_set_today (m_set_cloud (m_set_clouds (m_set_stone (m_set_stones u0_L14 (m_stones t)) r16) (m_clouds t)) r18) (m_today t)) (m_looks t)))) (Nat.le_of_ble_eq_true rfl) (nar_int _) (fit_int _) (ws' := ((mW cA am (m_set_seed (m_set_looks (m_set_today (m_set_cloud (m_set_clouds (m_set_stone (m_set_stones u0_L14 (m_stones t)) r16) (m_clouds t)) r18) (m_today t)) (m_looks t)) (m_seed t))) ++ (mW cA bm t))) (sL (Nat.le_of_ble_eq_true rfl) (ms_0_19 cA am (m_set_looks (m_set_today (m_set_cloud (m_set_clouds (m_set_stone (m_set_stones u0_L14 (m_stones t)) r16) (m_clouds t)) r18) (m_today t)) (m_looks t)) (m_seed t))) (dd D_X9_takeFrom 54 rfl) (fun H locs hP hD hS => ?_)
        obtain rfl := Option.some.inj h
        exact rw_v (R := rmOf 1 0 0) F hP hD hS hr hlk ⟨Nat.le_of_ble_eq_true rfl, Nat.le_of_ble_eq_true rfl⟩ ⟨rfl, rfl⟩ (dd D_X9_takeFrom 55 rfl)
      · refine lv_aload_n F.1 F.2.1 (dd D_X9_takeFrom 14 rfl) rfl (lv_at hl 1 rfl) ?_
        refine getF F hK hP lf_X9_45 (31+(0)) (gR (mp_len cA am u0_L14) (mp_0 cA bm t)) rfl (dd D_X9_takeFrom 15 rfl) ?_
        refine lv_iload_n F.1 F.2.1 (dd D_X9_takeFrom 16 rfl) rfl (lv_at hl 2 rfl) ?_
        refine aldA (g := fun j => bm (20+j)) F hK hP (31+(19)) (gR (mp_len cA am u0_L14) (mp_19 cA bm t)) 4 rfl (fun _ => rfl) h (dd D_X9_takeFrom 17 rfl) (fun z20 h => ?_)
        have hk21 : (Int32.toNatClampNeg w2_L14) < 8 := inb_lt z20
        refine lv_aload_n F.1 F.2.1 (dd D_X9_takeFrom 18 rfl) rfl (lv_at hl 0 rfl) ?_
        refine getF F hK hP lf_X9_45 (0) (gL (mp_0 cA am u0_L14)) rfl (dd D_X9_takeFrom 19 rfl) ?_
        refine lv_iload_n F.1 F.2.1 (dd D_X9_takeFrom 20 rfl) rfl (lv_at hl 2 rfl) ?_
        refine aldA (g := fun j => am (20+j)) F hK hP (19) (gL (mp_19 cA am u0_L14)) 4 rfl (fun _ => rfl) h (dd D_X9_takeFrom 21 rfl) (fun z22 h => ?_)
        have hk23 : (Int32.toNatClampNeg w2_L14) < 8 := inb_lt z22
        obtain ⟨r24, e25, h⟩ := Option.bind_eq_some_iff.mp h
        refine rwe (V := none) (wc := ([((bm (20+(Int32.toNatClampNeg w2_L14))), .inl (cA 0, 3, .inl (m_notch t (Int32.toNatClampNeg w2_L14))))] ++ [((am (20+(Int32.toNatClampNeg w2_L14))), .inl (cA 0, 3, .inl (m_notch u0_L14 (Int32.toNatClampNeg w2_L14))))])) (wc' := ([((bm (20+(Int32.toNatClampNeg w2_L14))), .inl (cA 0, 3, .inl (m_notch t (Int32.toNatClampNeg w2_L14))))] ++ [((am (20+(Int32.toNatClampNeg w2_L14))), .inl (cA 0, 3, .inl r24))])) (st' := []) (W' := ((mW cA am (m_set_notch u0_L14 (va_up (m_notch u0_L14) (Int32.toNatClampNeg w2_L14) r24))) ++ (mW cA bm t))) hP hD hS hA [(31+(20+(Int32.toNatClampNeg w2_L14))), (20+(Int32.toNatClampNeg w2_L14))] (jc2 (gR (mp_len cA am u0_L14) (mp_notch cA bm t (Int32.toNatClampNeg w2_L14) hk23)) (gL (mp_notch cA am u0_L14 (Int32.toNatClampNeg w2_L14) hk23))) (nd2 (by omega)) rfl (rS (rest := []) F (c_X9_copyAll D cA 3 (bm (20+(Int32.toNatClampNeg w2_L14))) (m_notch t (Int32.toNatClampNeg w2_L14)) 3 (am (20+(Int32.toNatClampNeg w2_L14))) (m_notch u0_L14 (Int32.toNatClampNeg w2_L14)) n r24 e25 l H.size) lk_X9_345 (Nat.le_of_ble_eq_true rfl) (preRW hK hS hAb (selP (is := [(31+(20+(Int32.toNatClampNeg w2_L14))), (20+(Int32.toNatClampNeg w2_L14))]) hP (jc2 (gR (mp_len cA am u0_L14) (mp_notch cA bm t (Int32.toNatClampNeg w2_L14) hk23)) (gL (mp_notch cA am u0_L14 (Int32.toNatClampNeg w2_L14) hk23)))) (selD (is := [(31+(20+(Int32.toNatClampNeg w2_L14))), (20+(Int32.toNatClampNeg w2_L14))]) hD (nd2 (by omega)) (jc2 (gR (mp_len cA am u0_L14) (mp_notch cA bm t (Int32.toNatClampNeg w2_L14) hk23)) (gL (mp_notch cA am u0_L14 (Int32.toNatClampNeg w2_L14) hk23))))) rfl hl rfl (Nat.le_of_ble_eq_true rfl) (dd D_X9_takeFrom 22 rfl) ⟨Nat.le_of_ble_eq_true rfl, Nat.le_of_ble_eq_true rfl⟩) (js2 (gR (mp_len cA am u0_L14) (mp_notch cA bm t (Int32.toNatClampNeg w2_L14) hk23)) (sL (by rw [mp_len]; omega) (ms_notch cA am u0_L14 r24 (Int32.toNatClampNeg w2_L14) hk23))) rfl (fun H locs hP hD hS => ?_)
        refine lv_iinc (v := (w2_L14 + (1 : Int32))) (lv' := [(2, .int (w2_L14 + (1 : Int32))), (0, .ref (am 0)), (1, .ref (bm 0))]) F.1 F.2.1 (dd D_X9_takeFrom 23 rfl) hl (k := 2) rfl (congrArg (fun z => w2_L14 + z) ki_1) (Nat.le_of_ble_eq_true rfl) rfl (fun ls hl => ?_)
        refine lv_goto (tgt := 21) F.1 F.2.1 (dd D_X9_takeFrom 24 rfl) rfl ?_
        exact ih_L14 (w2_L14 + (1 : Int32)) (m_set_notch u0_L14 (va_up (m_notch u0_L14) (Int32.toNatClampNeg w2_L14) r24)) _ _ ls hP hD hS (lv_sub hl [1, 2, 0] rfl) h
  exact L14 n (0 : Int32) (m_set_notches (m_set_asked s r1) (m_notches t)) _ _ ls hP hD hS (lv_sub hl [1, 2, 0] rfl) h
