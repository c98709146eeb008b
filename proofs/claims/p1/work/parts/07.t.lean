def F_X2_ageOf (s : XS) (p1 : Int32) : Int32 := ((jrem (((100 : Int32) * p1) + (st_off (x_now s))) (2953 : Int32)))
set_option maxHeartbeats 4000000 in
set_option maxRecDepth 100000 in
theorem c_X2_ageOf (D : va_G) (cA : Nat → ClassId) (ax : Nat → Nat) (s : XS) (p1 : Int32) : RO m_X2_ageOf 0 D cA [.ref (ax 40), .int p1] (xW cA ax s) (some (.int (F_X2_ageOf s p1))) := by
  obtain ⟨r, h⟩ : ∃ r, F_X2_ageOf s p1 = r := ⟨_, rfl⟩
  rw [h]
  refine RO.ofW gy_X2_ageOf.2.2 (Nat.le_of_ble_eq_true rfl) ?_
  intro l p e sM m below meth c F hr hlk hK hP ls hl
  have hl : lv_has ls 2 [(0, .ref (ax 40)), (1, .int p1)] := hl
  unfold F_X2_ageOf at h
  refine lv_bipush (v := (100 : Int32)) F.1 F.2.1 (dd D_X2_ageOf 0 rfl) kb_100 ?_
  refine lv_iload_n F.1 F.2.1 (dd D_X2_ageOf 1 rfl) rfl (lv_at hl 1 rfl) ?_
  refine lv_imul F.1 F.2.1 (dd D_X2_ageOf 2 rfl) ?_
  refine lv_aload_n F.1 F.2.1 (dd D_X2_ageOf 3 rfl) rfl (lv_at hl 0 rfl) ?_
  refine getF F hK hP lf_X2_9 (40) (xp_40 cA ax s) rfl (dd D_X2_ageOf 4 rfl) ?_
  refine getF F hK hP lf_X2_21 (1) (xp_1 cA ax s) rfl (dd D_X2_ageOf 5 rfl) ?_
  refine lv_iadd F.1 F.2.1 (dd D_X2_ageOf 6 rfl) ?_
  refine lv_sipush (v := (2953 : Int32)) F.1 F.2.1 (dd D_X2_ageOf 7 rfl) ks_2953 ?_
  refine x_irem F.1 F.2.1 (dd D_X2_ageOf 8 rfl) kd_2953 ?_
  exact ro_i (R := rmOf 0 0 0) F hr hlk (congrArg (fun z => some (Value.int z)) h) (dd D_X2_ageOf 9 rfl)
def F_X2_litOf (s : XS) (p1 : Int32) : Int32 := (if (1476 : Int32) < (F_X2_ageOf s p1) then ((((100 : Int32) * ((2953 : Int32) - (F_X2_ageOf s p1))) / (1477 : Int32))) else ((((100 : Int32) * (F_X2_ageOf s p1)) / (1476 : Int32))))
set_option maxHeartbeats 4000000 in
set_option maxRecDepth 100000 in
theorem c_X2_litOf (D : va_G) (cA : Nat → ClassId) (ax : Nat → Nat) (s : XS) (p1 : Int32) : RO m_X2_litOf 1 D cA [.ref (ax 40), .int p1] (xW cA ax s) (some (.int (F_X2_litOf s p1))) := by
  obtain ⟨r, h⟩ : ∃ r, F_X2_litOf s p1 = r := ⟨_, rfl⟩
  rw [h]
  refine RO.ofW gy_X2_litOf.2.2 (Nat.le_of_ble_eq_true rfl) ?_
  intro l p e sM m below meth c F hr hlk hK hP ls hl
  have hl : lv_has ls 3 [(0, .ref (ax 40)), (1, .int p1)] := hl
  unfold F_X2_litOf at h
  refine lv_aload_n F.1 F.2.1 (dd D_X2_litOf 0 rfl) rfl (lv_at hl 0 rfl) ?_
  refine lv_iload_n F.1 F.2.1 (dd D_X2_litOf 1 rfl) rfl (lv_at hl 1 rfl) ?_
  refine ro_go (st' := [.int (F_X2_ageOf s p1)]) (rV (rest := []) F (c_X2_ageOf D cA ax s p1 l) lk_X2_27 (Nat.le_of_ble_eq_true rfl) (preRO hK hP) (rcv hK hP (q0 := (40)) (xp_40 cA ax s) rfl) rfl hl rfl (Nat.le_of_ble_eq_true rfl) (dd D_X2_litOf 2 rfl) ⟨Nat.le_of_ble_eq_true rfl, Nat.le_of_ble_eq_true rfl⟩) rfl ?_
  refine lv_istore_n (lv' := [(2, .int (F_X2_ageOf s p1)), (0, .ref (ax 40)), (1, .int p1)]) F.1 F.2.1 (dd D_X2_litOf 3 rfl) rfl hl (Nat.le_of_ble_eq_true rfl) rfl (fun ls hl => ?_)
  refine lv_iload_n F.1 F.2.1 (dd D_X2_litOf 4 rfl) rfl (lv_at hl 0 rfl) ?_
  refine lv_sipush (v := (1476 : Int32)) F.1 F.2.1 (dd D_X2_litOf 5 rfl) ks_1476 ?_
  refine x_icmp_gt (tgt := 24) F.1 F.2.1 (dd D_X2_litOf 6 rfl) rfl h (fun c1 h => ?_) (fun c1 h => ?_)
  · refine lv_bipush (v := (100 : Int32)) F.1 F.2.1 (dd D_X2_litOf 13 rfl) kb_100 ?_
    refine lv_sipush (v := (2953 : Int32)) F.1 F.2.1 (dd D_X2_litOf 14 rfl) ks_2953 ?_
    refine lv_iload_n F.1 F.2.1 (dd D_X2_litOf 15 rfl) rfl (lv_at hl 0 rfl) ?_
    refine lv_isub F.1 F.2.1 (dd D_X2_litOf 16 rfl) ?_
    refine lv_imul F.1 F.2.1 (dd D_X2_litOf 17 rfl) ?_
    refine lv_sipush (v := (1477 : Int32)) F.1 F.2.1 (dd D_X2_litOf 18 rfl) ks_1477 ?_
    refine lv_idiv F.1 F.2.1 (dd D_X2_litOf 19 rfl) kd_1477 ?_
    exact ro_i (R := rmOf 1 0 0) F hr hlk (congrArg (fun z => some (Value.int z)) h) (dd D_X2_litOf 20 rfl)
  · refine lv_bipush (v := (100 : Int32)) F.1 F.2.1 (dd D_X2_litOf 7 rfl) kb_100 ?_
    refine lv_iload_n F.1 F.2.1 (dd D_X2_litOf 8 rfl) rfl (lv_at hl 0 rfl) ?_
    refine lv_imul F.1 F.2.1 (dd D_X2_litOf 9 rfl) ?_
    refine lv_sipush (v := (1476 : Int32)) F.1 F.2.1 (dd D_X2_litOf 10 rfl) ks_1476 ?_
    refine lv_idiv F.1 F.2.1 (dd D_X2_litOf 11 rfl) kd_1476 ?_
    refine lv_goto (tgt := 36) F.1 F.2.1 (dd D_X2_litOf 12 rfl) rfl ?_
    exact ro_i (R := rmOf 1 0 0) F hr hlk (congrArg (fun z => some (Value.int z)) h) (dd D_X2_litOf 20 rfl)
def F_X0_at (n : Nat) (rm : Nat) (s : FW) (p1 : Int32) : Option Int32 := (if p1 < 0 then some ((-1 : Int32)) else (if (fw_n s) ≤ p1 then some ((-1 : Int32)) else (if (Int32.ofNat rm) ≤ p1 then some ((-1 : Int32)) else gd (inb p1 rm) (some (((fw_it s) (Int32.toNatClampNeg p1)))))))
set_option maxHeartbeats 4000000 in
set_option maxRecDepth 100000 in
theorem c_X0_at (D : va_G) (cA : Nat → ClassId) (rm : Nat) (a : Nat → Nat) (s : FW) (n : Nat) (p1 : Int32) (r : Int32) (h : F_X0_at n rm s p1 = some r) : RO m_X0_at 0 D cA [.ref (a 0), .int p1] (fewW cA rm a s) (some (.int r)) := by
  refine RO.ofW gy_X0_at.2.2 (Nat.le_of_ble_eq_true rfl) ?_
  intro l p e sM m below meth c F hr hlk hK hP ls hl
  have hl : lv_has ls 2 [(0, .ref (a 0)), (1, .int p1)] := hl
  unfold F_X0_at at h
  refine lv_iload_n F.1 F.2.1 (dd D_X0_at 0 rfl) rfl (lv_at hl 1 rfl) ?_
  refine x_if_lt (tgt := 30) F.1 F.2.1 (dd D_X0_at 1 rfl) rfl h (fun c1 h => ?_) (fun c1 h => ?_)
  · refine lv_iconst (v := (-1 : Int32)) F.1 F.2.1 (dd D_X0_at 16 rfl) ki_m1 ?_
    exact ro_i (R := rmOf 0 0 0) F hr hlk (congrArg (Option.map Value.int) h) (dd D_X0_at 17 rfl)
  · refine lv_iload_n F.1 F.2.1 (dd D_X0_at 2 rfl) rfl (lv_at hl 1 rfl) ?_
    refine lv_aload_n F.1 F.2.1 (dd D_X0_at 3 rfl) rfl (lv_at hl 0 rfl) ?_
    refine getF F hK hP lf_X0_21 (0) rfl rfl (dd D_X0_at 4 rfl) ?_
    refine x_icmp_ge (tgt := 30) F.1 F.2.1 (dd D_X0_at 5 rfl) rfl h (fun c2 h => ?_) (fun c2 h => ?_)
    · refine lv_iconst (v := (-1 : Int32)) F.1 F.2.1 (dd D_X0_at 16 rfl) ki_m1 ?_
      exact ro_i (R := rmOf 0 0 0) F hr hlk (congrArg (Option.map Value.int) h) (dd D_X0_at 17 rfl)
    · refine lv_iload_n F.1 F.2.1 (dd D_X0_at 6 rfl) rfl (lv_at hl 1 rfl) ?_
      refine lv_aload_n F.1 F.2.1 (dd D_X0_at 7 rfl) rfl (lv_at hl 0 rfl) ?_
      refine getF F hK hP lf_X0_15 (0) rfl rfl (dd D_X0_at 8 rfl) ?_
      refine alen F hK hP (1) 0 rfl rfl (v := (Int32.ofNat rm)) rfl (dd D_X0_at 9 rfl) ?_
      refine x_icmp_ge (tgt := 30) F.1 F.2.1 (dd D_X0_at 10 rfl) rfl h (fun c3 h => ?_) (fun c3 h => ?_)
      · refine lv_iconst (v := (-1 : Int32)) F.1 F.2.1 (dd D_X0_at 16 rfl) ki_m1 ?_
        exact ro_i (R := rmOf 0 0 0) F hr hlk (congrArg (Option.map Value.int) h) (dd D_X0_at 17 rfl)
      · refine lv_aload_n F.1 F.2.1 (dd D_X0_at 11 rfl) rfl (lv_at hl 0 rfl) ?_
        refine getF F hK hP lf_X0_15 (0) rfl rfl (dd D_X0_at 12 rfl) ?_
        refine lv_iload_n F.1 F.2.1 (dd D_X0_at 13 rfl) rfl (lv_at hl 1 rfl) ?_
        refine aldI F hK hP (1) rfl h (dd D_X0_at 14 rfl) (fun z4 h => ?_)
        refine lv_goto (tgt := 31) F.1 F.2.1 (dd D_X0_at 15 rfl) rfl ?_
        exact ro_i (R := rmOf 0 0 0) F hr hlk (congrArg (Option.map Value.int) h) (dd D_X0_at 17 rfl)
def F_X0_contains_L2 (n : Nat) (rm : Nat) (u0 : FW) (v1 : Int32) : Nat → Int32 → Option Bool
  | 0, _ => none
  | k + 1, w2 => (if (fw_n u0) ≤ w2 then some (false) else (((F_X0_at n rm u0 w2)).bind fun r2 => (if r2 = v1 then some (true) else F_X0_contains_L2 n rm u0 v1 k (w2 + (1 : Int32)))))
def F_X0_contains (n : Nat) (rm : Nat) (s : FW) (p1 : Int32) : Option Bool := F_X0_contains_L2 n rm s p1 n (0 : Int32)
set_option maxHeartbeats 4000000 in
set_option maxRecDepth 100000 in
theorem c_X0_contains (D : va_G) (cA : Nat → ClassId) (rm : Nat) (a : Nat → Nat) (s : FW) (n : Nat) (p1 : Int32) (r : Bool) (h : F_X0_contains n rm s p1 = some r) : RO m_X0_contains 1 D cA [.ref (a 0), .int p1] (fewW cA rm a s) (some (.int (bI r))) := by
  refine RO.ofW gy_X0_contains.2.2 (Nat.le_of_ble_eq_true rfl) ?_
  intro l p e sM m below meth c F hr hlk hK hP ls hl
  have hl : lv_has ls 3 [(0, .ref (a 0)), (1, .int p1)] := hl
  unfold F_X0_contains at h
  refine lv_iconst (v := (0 : Int32)) F.1 F.2.1 (dd D_X0_contains 0 rfl) ki_0 ?_
  refine lv_istore_n (lv' := [(2, .int (0 : Int32)), (0, .ref (a 0)), (1, .int p1)]) F.1 F.2.1 (dd D_X0_contains 1 rfl) rfl hl (Nat.le_of_ble_eq_true rfl) rfl (fun ls hl => ?_)
  have L5 : ∀ (k : Nat) (w2_L5 : Int32) (ls : Array Slot), lv_has ls 3 [(0, .ref (a 0)), (1, .int p1), (2, .int w2_L5)] → F_X0_contains_L2 n rm s p1 k w2_L5 = some r → Wro 1 (some (.int (bI r))) p l e sM m ([.ref (a 0), .int p1] : List Value).toArray below meth c 2 ls [] := by
    intro k
    induction k with
    | zero =>
      intro w2_L5 ls hl h
      cases (show none = some r from h)
    | succ k_L5 ih_L5 =>
      intro w2_L5 ls hl h
      unfold F_X0_contains_L2 at h
      refine lv_iload_n F.1 F.2.1 (dd D_X0_contains 2 rfl) rfl (lv_at hl 2 rfl) ?_
      refine lv_aload_n F.1 F.2.1 (dd D_X0_contains 3 rfl) rfl (lv_at hl 0 rfl) ?_
      refine getF F hK hP lf_X0_21 (0) rfl rfl (dd D_X0_contains 4 rfl) ?_
      refine x_icmp_ge (tgt := 27) F.1 F.2.1 (dd D_X0_contains 5 rfl) rfl h (fun c6 h => ?_) (fun c6 h => ?_)
      · refine lv_iconst (v := (0 : Int32)) F.1 F.2.1 (dd D_X0_contains 15 rfl) ki_0 ?_
        exact ro_z (R := rmOf 1 0 0) F hr rfl hlk (congrArg (Option.map fun z => Value.int (bI z)) h) (dd D_X0_contains 16 rfl)
      · refine lv_aload_n F.1 F.2.1 (dd D_X0_contains 6 rfl) rfl (lv_at hl 0 rfl) ?_
        refine lv_iload_n F.1 F.2.1 (dd D_X0_contains 7 rfl) rfl (lv_at hl 2 rfl) ?_
        obtain ⟨r7, e8, h⟩ := Option.bind_eq_some_iff.mp h
        refine ro_go (st' := [.int r7]) (rV (rest := []) F (c_X0_at D cA rm a s n w2_L5 r7 e8 l) lk_X0_25 (Nat.le_of_ble_eq_true rfl) (preRO hK hP) (rcv hK hP (q0 := (0)) rfl rfl) rfl hl rfl (Nat.le_of_ble_eq_true rfl) (dd D_X0_contains 8 rfl) ⟨Nat.le_of_ble_eq_true rfl, Nat.le_of_ble_eq_true rfl⟩) rfl ?_
        refine lv_iload_n F.1 F.2.1 (dd D_X0_contains 9 rfl) rfl (lv_at hl 1 rfl) ?_
        refine x_icmp_ne (tgt := 21) F.1 F.2.1 (dd D_X0_contains 10 rfl) rfl h (fun c9 h => ?_) (fun c9 h => ?_)
        · refine lv_iinc (v := (w2_L5 + (1 : Int32))) (lv' := [(2, .int (w2_L5 + (1 : Int32))), (0, .ref (a 0)), (1, .int p1)]) F.1 F.2.1 (dd D_X0_contains 13 rfl) hl (k := 2) rfl (congrArg (fun z => w2_L5 + z) ki_1) (Nat.le_of_ble_eq_true rfl) rfl (fun ls hl => ?_)
          refine lv_goto (tgt := 2) F.1 F.2.1 (dd D_X0_contains 14 rfl) rfl ?_
          exact ih_L5 (w2_L5 + (1 : Int32)) ls (lv_sub hl [1, 2, 0] rfl) h
        · refine lv_iconst (v := (1 : Int32)) F.1 F.2.1 (dd D_X0_contains 11 rfl) ki_1 ?_
          exact ro_z (R := rmOf 1 0 0) F hr rfl hlk (congrArg (Option.map fun z => Value.int (bI z)) h) (dd D_X0_contains 12 rfl)
  exact L5 n (0 : Int32) ls (lv_sub hl [1, 2, 0] rfl) h
def F_X1_lineAt (n : Nat) (s : HL) (p1 : Int32) : Option Int32 := (if p1 < 0 then some ((0 : Int32)) else (if (180 : Int32) ≤ p1 then some ((0 : Int32)) else gd (inb p1 180) (some (((hl_ln s) (Int32.toNatClampNeg p1))))))
set_option maxHeartbeats 4000000 in
set_option maxRecDepth 100000 in
theorem c_X1_lineAt (D : va_G) (cA : Nat → ClassId) (a : Nat → Nat) (s : HL) (n : Nat) (p1 : Int32) (r : Int32) (h : F_X1_lineAt n s p1 = some r) : RO m_X1_lineAt 0 D cA [.ref (a 0), .int p1] (hillW cA a s) (some (.int r)) := by
  refine RO.ofW gy_X1_lineAt.2.2 (Nat.le_of_ble_eq_true rfl) ?_
  intro l p e sM m below meth c F hr hlk hK hP ls hl
  have hl : lv_has ls 2 [(0, .ref (a 0)), (1, .int p1)] := hl
  unfold F_X1_lineAt at h
  refine lv_iload_n F.1 F.2.1 (dd D_X1_lineAt 0 rfl) rfl (lv_at hl 1 rfl) ?_
  refine x_if_lt (tgt := 22) F.1 F.2.1 (dd D_X1_lineAt 1 rfl) rfl h (fun c1 h => ?_) (fun c1 h => ?_)
  · refine lv_iconst (v := (0 : Int32)) F.1 F.2.1 (dd D_X1_lineAt 12 rfl) ki_0 ?_
    exact ro_i (R := rmOf 0 0 0) F hr hlk (congrArg (Option.map Value.int) h) (dd D_X1_lineAt 13 rfl)
  · refine lv_iload_n F.1 F.2.1 (dd D_X1_lineAt 2 rfl) rfl (lv_at hl 1 rfl) ?_
    refine lv_aload_n F.1 F.2.1 (dd D_X1_lineAt 3 rfl) rfl (lv_at hl 0 rfl) ?_
    refine getF F hK hP lf_X1_26 (0) rfl rfl (dd D_X1_lineAt 4 rfl) ?_
    refine alen F hK hP (7) 0 rfl rfl (v := (180 : Int32)) kn_180 (dd D_X1_lineAt 5 rfl) ?_
    refine x_icmp_ge (tgt := 22) F.1 F.2.1 (dd D_X1_lineAt 6 rfl) rfl h (fun c2 h => ?_) (fun c2 h => ?_)
    · refine lv_iconst (v := (0 : Int32)) F.1 F.2.1 (dd D_X1_lineAt 12 rfl) ki_0 ?_
      exact ro_i (R := rmOf 0 0 0) F hr hlk (congrArg (Option.map Value.int) h) (dd D_X1_lineAt 13 rfl)
    · refine lv_aload_n F.1 F.2.1 (dd D_X1_lineAt 7 rfl) rfl (lv_at hl 0 rfl) ?_
      refine getF F hK hP lf_X1_26 (0) rfl rfl (dd D_X1_lineAt 8 rfl) ?_
      refine lv_iload_n F.1 F.2.1 (dd D_X1_lineAt 9 rfl) rfl (lv_at hl 1 rfl) ?_
      refine aldI F hK hP (7) rfl h (dd D_X1_lineAt 10 rfl) (fun z3 h => ?_)
      refine lv_goto (tgt := 23) F.1 F.2.1 (dd D_X1_lineAt 11 rfl) rfl ?_
      exact ro_i (R := rmOf 0 0 0) F hr hlk (congrArg (Option.map Value.int) h) (dd D_X1_lineAt 13 rfl)
def F_J9_max_7cf53 (p0 : Int32) (p1 : Int32) : Int32 := (if p0 < p1 then (p1) else (p0))
set_option maxHeartbeats 4000000 in
set_option maxRecDepth 100000 in
theorem c_J9_max_7cf53 (D : va_G) (cA : Nat → ClassId)  (p0 : Int32) (p1 : Int32) : RO m_J9_max_7cf53 0 D cA [.int p0, .int p1] [] (some (.int (F_J9_max_7cf53 p0 p1))) := by
  obtain ⟨r, h⟩ : ∃ r, F_J9_max_7cf53 p0 p1 = r := ⟨_, rfl⟩
  rw [h]
  refine RO.ofW gy_J9_max_7cf53.2.2 (Nat.le_of_ble_eq_true rfl) ?_
  intro l p e sM m below meth c F hr hlk hK hP ls hl
  have hl : lv_has ls 2 [(0, .int p0), (1, .int p1)] := hl
  unfold F_J9_max_7cf53 at h
  refine lv_iload_n F.1 F.2.1 (dd D_J9_max_7cf53 0 rfl) rfl (lv_at hl 0 rfl) ?_
  refine lv_iload_n F.1 F.2.1 (dd D_J9_max_7cf53 1 rfl) rfl (lv_at hl 1 rfl) ?_
  refine x_icmp_lt (tgt := 9) F.1 F.2.1 (dd D_J9_max_7cf53 2 rfl) rfl h (fun c1 h => ?_) (fun c1 h => ?_)
  · refine lv_iload_n F.1 F.2.1 (dd D_J9_max_7cf53 5 rfl) rfl (lv_at hl 1 rfl) ?_
    exact ro_i (R := rmOf 0 0 0) F hr hlk (congrArg (fun z => some (Value.int z)) h) (dd D_J9_max_7cf53 6 rfl)
  · refine lv_iload_n F.1 F.2.1 (dd D_J9_max_7cf53 3 rfl) rfl (lv_at hl 0 rfl) ?_
    refine lv_goto (tgt := 10) F.1 F.2.1 (dd D_J9_max_7cf53 4 rfl) rfl ?_
    exact ro_i (R := rmOf 0 0 0) F hr hlk (congrArg (fun z => some (Value.int z)) h) (dd D_J9_max_7cf53 6 rfl)
def F_X1_overFrom_L6 (n : Nat) (u0 : HL) (v1 : Int32) (v2 : Int32) : Nat → Int32 → Option Int32
  | 0, _ => none
  | k + 1, w3 => (if v2 < w3 then some (v2) else (((F_X1_lineAt n u0 (v1 + (w3 / (4 : Int32))))).bind fun r2 => (if (w3 + (4 : Int32)) ≤ (F_J9_max_7cf53 w3 ((5 : Int32) * r2)) then F_X1_overFrom_L6 n u0 v1 v2 k (w3 + (4 : Int32)) else some ((F_J9_max_7cf53 w3 ((5 : Int32) * r2))))))
def F_X1_overFrom (n : Nat) (s : HL) (p1 : Int32) : Option Int32 := F_X1_overFrom_L6 n s p1 (150 : Int32) n (0 : Int32)
set_option maxHeartbeats 4000000 in
set_option maxRecDepth 100000 in
theorem c_X1_overFrom (D : va_G) (cA : Nat → ClassId) (a : Nat → Nat) (s : HL) (n : Nat) (p1 : Int32) (r : Int32) (h : F_X1_overFrom n s p1 = some r) : RO m_X1_overFrom 1 D cA [.ref (a 0), .int p1] (hillW cA a s) (some (.int r)) := by
  refine RO.ofW gy_X1_overFrom.2.2 (Nat.le_of_ble_eq_true rfl) ?_
  intro l p e sM m below meth c F hr hlk hK hP ls hl
  have hl : lv_has ls 5 [(0, .ref (a 0)), (1, .int p1)] := hl
  unfold F_X1_overFrom at h
  refine lv_sipush (v := (150 : Int32)) F.1 F.2.1 (dd D_X1_overFrom 0 rfl) ks_150 ?_
  refine lv_istore_n (lv' := [(2, .int (150 : Int32)), (0, .ref (a 0)), (1, .int p1)]) F.1 F.2.1 (dd D_X1_overFrom 1 rfl) rfl hl (Nat.le_of_ble_eq_true rfl) rfl (fun ls hl => ?_)
  refine lv_iconst (v := (0 : Int32)) F.1 F.2.1 (dd D_X1_overFrom 2 rfl) ki_0 ?_
  refine lv_istore_n (lv' := [(3, .int (0 : Int32)), (2, .int (150 : Int32)), (0, .ref (a 0)), (1, .int p1)]) F.1 F.2.1 (dd D_X1_overFrom 3 rfl) rfl hl (Nat.le_of_ble_eq_true rfl) rfl (fun ls hl => ?_)
  have L5 : ∀ (k : Nat) (w3_L5 : Int32) (ls : Array Slot), lv_has ls 5 [(0, .ref (a 0)), (1, .int p1), (2, .int (150 : Int32)), (3, .int w3_L5)] → F_X1_overFrom_L6 n s p1 (150 : Int32) k w3_L5 = some r → Wro 1 (some (.int r)) p l e sM m ([.ref (a 0), .int p1] : List Value).toArray below meth c 6 ls [] := by
    intro k
    induction k with
    | zero =>
      intro w3_L5 ls hl h
      cases (show none = some r from h)
    | succ k_L5 ih_L5 =>
      intro w3_L5 ls hl h
      unfold F_X1_overFrom_L6 at h
      refine lv_iload_n F.1 F.2.1 (dd D_X1_overFrom 4 rfl) rfl (lv_at hl 3 rfl) ?_
      refine lv_iload_n F.1 F.2.1 (dd D_X1_overFrom 5 rfl) rfl (lv_at hl 2 rfl) ?_
      refine x_icmp_gt (tgt := 45) F.1 F.2.1 (dd D_X1_overFrom 6 rfl) rfl h (fun c6 h => ?_) (fun c6 h => ?_)
      · refine lv_iload_n F.1 F.2.1 (dd D_X1_overFrom 28 rfl) rfl (lv_at hl 2 rfl) ?_
        exact ro_i (R := rmOf 1 0 0) F hr hlk (congrArg (Option.map Value.int) h) (dd D_X1_overFrom 29 rfl)
      · refine lv_iload_n F.1 F.2.1 (dd D_X1_overFrom 7 rfl) rfl (lv_at hl 3 rfl) ?_
        refine lv_iconst (v := (5 : Int32)) F.1 F.2.1 (dd D_X1_overFrom 8 rfl) ki_5 ?_
        refine lv_aload_n F.1 F.2.1 (dd D_X1_overFrom 9 rfl) rfl (lv_at hl 0 rfl) ?_
        refine lv_iload_n F.1 F.2.1 (dd D_X1_overFrom 10 rfl) rfl (lv_at hl 1 rfl) ?_
        refine lv_iload_n F.1 F.2.1 (dd D_X1_overFrom 11 rfl) rfl (lv_at hl 3 rfl) ?_
        refine lv_iconst (v := (4 : Int32)) F.1 F.2.1 (dd D_X1_overFrom 12 rfl) ki_4 ?_
        refine lv_idiv F.1 F.2.1 (dd D_X1_overFrom 13 rfl) kd_4 ?_
        refine lv_iadd F.1 F.2.1 (dd D_X1_overFrom 14 rfl) ?_
        obtain ⟨r7, e8, h⟩ := Option.bind_eq_some_iff.mp h
        refine ro_go (st' := [.int r7, .int (5 : Int32), .int w3_L5]) (rV (rest := [.int (5 : Int32), .int w3_L5]) F (c_X1_lineAt D cA a s n (p1 + (w3_L5 / (4 : Int32))) r7 e8 l) lk_X1_51 (Nat.le_of_ble_eq_true rfl) (preRO hK hP) (rcv hK hP (q0 := (0)) rfl rfl) rfl hl rfl (Nat.le_of_ble_eq_true rfl) (dd D_X1_overFrom 15 rfl) ⟨Nat.le_of_ble_eq_true rfl, Nat.le_of_ble_eq_true rfl⟩) rfl ?_
        refine lv_imul F.1 F.2.1 (dd D_X1_overFrom 16 rfl) ?_
        refine ro_go (st' := [.int (F_J9_max_7cf53 w3_L5 ((5 : Int32) * r7))]) (rS (rest := []) F (c_J9_max_7cf53 D cA w3_L5 ((5 : Int32) * r7) l) lk_X1_41 (Nat.le_of_ble_eq_true rfl) (preRO hK (emP)) rfl hl rfl (Nat.le_of_ble_eq_true rfl) (dd D_X1_overFrom 17 rfl) ⟨Nat.le_of_ble_eq_true rfl, Nat.le_of_ble_eq_true rfl⟩) rfl ?_
        refine lv_istore (lv' := [(4, .int (F_J9_max_7cf53 w3_L5 ((5 : Int32) * r7))), (0, .ref (a 0)), (1, .int p1), (2, .int (150 : Int32)), (3, .int w3_L5)]) F.1 F.2.1 (dd D_X1_overFrom 18 rfl) hl (Nat.le_of_ble_eq_true rfl) rfl (fun ls hl => ?_)
        refine lv_iload F.1 F.2.1 (dd D_X1_overFrom 19 rfl) (lv_at hl 0 rfl) ?_
        refine lv_iload_n F.1 F.2.1 (dd D_X1_overFrom 20 rfl) rfl (lv_at hl 4 rfl) ?_
        refine lv_iconst (v := (4 : Int32)) F.1 F.2.1 (dd D_X1_overFrom 21 rfl) ki_4 ?_
        refine lv_iadd F.1 F.2.1 (dd D_X1_overFrom 22 rfl) ?_
        refine x_icmp_ge (tgt := 39) F.1 F.2.1 (dd D_X1_overFrom 23 rfl) rfl h (fun c9 h => ?_) (fun c9 h => ?_)
        · refine lv_iinc (v := (w3_L5 + (4 : Int32))) (lv' := [(3, .int (w3_L5 + (4 : Int32))), (4, .int (F_J9_max_7cf53 w3_L5 ((5 : Int32) * r7))), (0, .ref (a 0)), (1, .int p1), (2, .int (150 : Int32))]) F.1 F.2.1 (dd D_X1_overFrom 26 rfl) hl (k := 4) rfl (congrArg (fun z => w3_L5 + z) ki_4) (Nat.le_of_ble_eq_true rfl) rfl (fun ls hl => ?_)
          refine lv_goto (tgt := 6) F.1 F.2.1 (dd D_X1_overFrom 27 rfl) rfl ?_
          exact ih_L5 (w3_L5 + (4 : Int32)) ls (lv_sub hl [2, 3, 4, 0] rfl) h
        · refine lv_iload F.1 F.2.1 (dd D_X1_overFrom 24 rfl) (lv_at hl 0 rfl) ?_
          exact ro_i (R := rmOf 1 0 0) F hr hlk (congrArg (Option.map Value.int) h) (dd D_X1_overFrom 25 rfl)
  exact L5 n (0 : Int32) ls (lv_sub hl [2, 3, 1, 0] rfl) h
def F_X9_in (p0 : Int64) (p1 : Int64) (p2 : Int64) : Bool := (if (lg_cmp p0 p1) < 0 then (false) else (if 0 < (lg_cmp p0 p2) then (false) else (true)))
set_option maxHeartbeats 4000000 in
set_option maxRecDepth 100000 in
theorem c_X9_in (D : va_G) (cA : Nat → ClassId)  (p0 : Int64) (p1 : Int64) (p2 : Int64) : RO m_X9_in 0 D cA [.long p0, .long p1, .long p2] [] (some (.int (bI (F_X9_in p0 p1 p2)))) := by
  obtain ⟨r, h⟩ : ∃ r, F_X9_in p0 p1 p2 = r := ⟨_, rfl⟩
  rw [h]
  refine RO.ofW gy_X9_in.2.2 (Nat.le_of_ble_eq_true rfl) ?_
  intro l p e sM m below meth c F hr hlk hK hP ls hl
  have hl : lv_has ls 6 [(0, .long p0), (2, .long p1), (4, .long p2)] := hl
  unfold F_X9_in at h
  refine lv_lload_n F.1 F.2.1 (dd D_X9_in 0 rfl) rfl (lv_at hl 0 rfl) ?_
  refine lv_lload_n F.1 F.2.1 (dd D_X9_in 1 rfl) rfl (lv_at hl 1 rfl) ?_
  refine W.lcmp F.1 F.2.1 (dd D_X9_in 2 rfl) ?_
  refine x_if_lt (tgt := 17) F.1 F.2.1 (dd D_X9_in 3 rfl) rfl h (fun c1 h => ?_) (fun c1 h => ?_)
  · refine lv_iconst (v := (0 : Int32)) F.1 F.2.1 (dd D_X9_in 10 rfl) ki_0 ?_
    exact ro_z (R := rmOf 0 0 0) F hr rfl hlk (congrArg (fun z => some (Value.int (bI z))) h) (dd D_X9_in 11 rfl)
  · refine lv_lload_n F.1 F.2.1 (dd D_X9_in 4 rfl) rfl (lv_at hl 0 rfl) ?_
    refine lv_lload F.1 F.2.1 (dd D_X9_in 5 rfl) (lv_at hl 2 rfl) ?_
    refine W.lcmp F.1 F.2.1 (dd D_X9_in 6 rfl) ?_
    refine x_if_gt (tgt := 17) F.1 F.2.1 (dd D_X9_in 7 rfl) rfl h (fun c2 h => ?_) (fun c2 h => ?_)
    · refine lv_iconst (v := (0 : Int32)) F.1 F.2.1 (dd D_X9_in 10 rfl) ki_0 ?_
      exact ro_z (R := rmOf 0 0 0) F hr rfl hlk (congrArg (fun z => some (Value.int (bI z))) h) (dd D_X9_in 11 rfl)
    · refine lv_iconst (v := (1 : Int32)) F.1 F.2.1 (dd D_X9_in 8 rfl) ki_1 ?_
      refine lv_goto (tgt := 18) F.1 F.2.1 (dd D_X9_in 9 rfl) rfl ?_
      exact ro_z (R := rmOf 0 0 0) F hr rfl hlk (congrArg (fun z => some (Value.int (bI z))) h) (dd D_X9_in 11 rfl)
def F_X9_lineAt_L4 (n : Nat) (u0 : MS) (v1 : Int32) : Nat → Int32 → Int32 → Option Int32
  | 0, _, _ => none
  | k + 1, w2, w3 => (if (m_notches u0) ≤ w3 then some (w2) else gd (inb w3 8) (gd (inb (0 : Int32) 3) (gd (inb w3 8) (gd (inb (1 : Int32) 3) (bf (F_X9_in (Int32.toInt64 v1) (Int32.toInt64 ((m_notch u0 (Int32.toNatClampNeg w3)) (Int32.toNatClampNeg (0 : Int32)))) (Int32.toInt64 ((m_notch u0 (Int32.toNatClampNeg w3)) (Int32.toNatClampNeg (1 : Int32))))) (gd (inb w3 8) (gd (inb (2 : Int32) 3) ((if ((m_notch u0 (Int32.toNatClampNeg w3)) (Int32.toNatClampNeg (2 : Int32))) ≤ w2 then F_X9_lineAt_L4 n u0 v1 k w2 (w3 + (1 : Int32)) else gd (inb w3 8) (gd (inb (2 : Int32) 3) (F_X9_lineAt_L4 n u0 v1 k ((m_notch u0 (Int32.toNatClampNeg w3)) (Int32.toNatClampNeg (2 : Int32))) (w3 + (1 : Int32)))))))) (F_X9_lineAt_L4 n u0 v1 k w2 (w3 + (1 : Int32))))))))
def F_X9_lineAt (n : Nat) (s : MS) (p1 : Int32) : Option Int32 := F_X9_lineAt_L4 n s p1 n (0 : Int32) (0 : Int32)
set_option maxHeartbeats 4000000 in
set_option maxRecDepth 100000 in
theorem c_X9_lineAt (D : va_G) (cA : Nat → ClassId) (am : Nat → Nat) (s : MS) (n : Nat) (p1 : Int32) (r : Int32) (h : F_X9_lineAt n s p1 = some r) : RO m_X9_lineAt 1 D cA [.ref (am 0), .int p1] (mW cA am s) (some (.int r)) := by
  refine RO.ofW gy_X9_lineAt.2.2 (Nat.le_of_ble_eq_true rfl) ?_
  intro l p e sM m below meth c F hr hlk hK hP ls hl
  have hl : lv_has ls 5 [(0, .ref (am 0)), (1, .int p1)] := hl
  unfold F_X9_lineAt at h
  refine lv_iconst (v := (0 : Int32)) F.1 F.2.1 (dd D_X9_lineAt 0 rfl) ki_0 ?_
  refine lv_istore_n (lv' := [(2, .int (0 : Int32)), (0, .ref (am 0)), (1, .int p1)]) F.1 F.2.1 (dd D_X9_lineAt 1 rfl) rfl hl (Nat.le_of_ble_eq_true rfl) rfl (fun ls hl => ?_)
  refine lv_iconst (v := (0 : Int32)) F.1 F.2.1 (dd D_X9_lineAt 2 rfl) ki_0 ?_
  refine lv_istore_n (lv' := [(3, .int (0 : Int32)), (2, .int (0 : Int32)), (0, .ref (am 0)), (1, .int p1)]) F.1 F.2.1 (dd D_X9_lineAt 3 rfl) rfl hl (Nat.le_of_ble_eq_true rfl) rfl (fun ls hl => ?_)
  have L16 : ∀ (k : Nat) (w2_L16 : Int32) (w3_L16 : Int32) (ls : Array Slot), lv_has ls 5 [(0, .ref (am 0)), (1, .int p1), (2, .int w2_L16), (3, .int w3_L16)] → F_X9_lineAt_L4 n s p1 k w2_L16 w3_L16 = some r → Wro 1 (some (.int r)) p l e sM m ([.ref (am 0), .int p1] : List Value).toArray below meth c 4 ls [] := by
    intro k
    induction k with
    | zero =>
      intro w2_L16 w3_L16 ls hl h
      cases (show none = some r from h)
    | succ k_L16 ih_L16 =>
      intro w2_L16 w3_L16 ls hl h
      unfold F_X9_lineAt_L4 at h
      refine lv_iload_n F.1 F.2.1 (dd D_X9_lineAt 4 rfl) rfl (lv_at hl 3 rfl) ?_
      refine lv_aload_n F.1 F.2.1 (dd D_X9_lineAt 5 rfl) rfl (lv_at hl 0 rfl) ?_
      refine getF F hK hP lf_X9_116 (0) (mp_0 cA am s) rfl (dd D_X9_lineAt 6 rfl) ?_
      refine x_icmp_ge (tgt := 73) F.1 F.2.1 (dd D_X9_lineAt 7 rfl) rfl h (fun c17 h => ?_) (fun c17 h => ?_)
      · refine lv_iload_n F.1 F.2.1 (dd D_X9_lineAt 47 rfl) rfl (lv_at hl 2 rfl) ?_
        exact ro_i (R := rmOf 1 0 0) F hr hlk (congrArg (Option.map Value.int) h) (dd D_X9_lineAt 48 rfl)
      · refine lv_iload_n F.1 F.2.1 (dd D_X9_lineAt 8 rfl) rfl (lv_at hl 1 rfl) ?_
        refine lv_i2l (v := (Int32.toInt64 p1)) F.1 F.2.1 (dd D_X9_lineAt 9 rfl) rfl ?_
        refine lv_aload_n F.1 F.2.1 (dd D_X9_lineAt 10 rfl) rfl (lv_at hl 0 rfl) ?_
        refine getF F hK hP lf_X9_45 (0) (mp_0 cA am s) rfl (dd D_X9_lineAt 11 rfl) ?_
        refine lv_iload_n F.1 F.2.1 (dd D_X9_lineAt 12 rfl) rfl (lv_at hl 3 rfl) ?_
        refine aldA (g := fun j => am (20+j)) F hK hP (19) (mp_19 cA am s) 4 rfl (fun _ => rfl) h (dd D_X9_lineAt 13 rfl) (fun z18 h => ?_)
        have hk19 : (Int32.toNatClampNeg w3_L16) < 8 := inb_lt z18
        refine lv_iconst (v := (0 : Int32)) F.1 F.2.1 (dd D_X9_lineAt 14 rfl) ki_0 ?_
        refine aldI F hK hP (20+(Int32.toNatClampNeg w3_L16)) (mp_notch cA am s (Int32.toNatClampNeg w3_L16) hk19) h (dd D_X9_lineAt 15 rfl) (fun z20 h => ?_)
        refine lv_i2l (v := (Int32.toInt64 ((m_notch s (Int32.toNatClampNeg w3_L16)) (Int32.toNatClampNeg (0 : Int32))))) F.1 F.2.1 (dd D_X9_lineAt 16 rfl) rfl ?_
        refine lv_aload_n F.1 F.2.1 (dd D_X9_lineAt 17 rfl) rfl (lv_at hl 0 rfl) ?_
        refine getF F hK hP lf_X9_45 (0) (mp_0 cA am s) rfl (dd D_X9_lineAt 18 rfl) ?_
        refine lv_iload_n F.1 F.2.1 (dd D_X9_lineAt 19 rfl) rfl (lv_at hl 3 rfl) ?_
        refine aldA (g := fun j => am (20+j)) F hK hP (19) (mp_19 cA am s) 4 rfl (fun _ => rfl) h (dd D_X9_lineAt 20 rfl) (fun z21 h => ?_)
        have hk22 : (Int32.toNatClampNeg w3_L16) < 8 := inb_lt z21
        refine lv_iconst (v := (1 : Int32)) F.1 F.2.1 (dd D_X9_lineAt 21 rfl) ki_1 ?_
        refine aldI F hK hP (20+(Int32.toNatClampNeg w3_L16)) (mp_notch cA am s (Int32.toNatClampNeg w3_L16) hk22) h (dd D_X9_lineAt 22 rfl) (fun z23 h => ?_)
        refine lv_i2l (v := (Int32.toInt64 ((m_notch s (Int32.toNatClampNeg w3_L16)) (Int32.toNatClampNeg (1 : Int32))))) F.1 F.2.1 (dd D_X9_lineAt 23 rfl) rfl ?_
        refine ro_go (st' := [.int (bI (F_X9_in (Int32.toInt64 p1) (Int32.toInt64 ((m_notch s (Int32.toNatClampNeg w3_L16)) (Int32.toNatClampNeg (0 : Int32)))) (Int32.toInt64 ((m_notch s (Int32.toNatClampNeg w3_L16)) (Int32.toNatClampNeg (1 : Int32))))))]) (rS (rest := []) F (c_X9_in D cA (Int32.toInt64 p1) (Int32.toInt64 ((m_notch s (Int32.toNatClampNeg w3_L16)) (Int32.toNatClampNeg (0 : Int32)))) (Int32.toInt64 ((m_notch s (Int32.toNatClampNeg w3_L16)) (Int32.toNatClampNeg (1 : Int32)))) l) lk_X9_63 (Nat.le_of_ble_eq_true rfl) (preRO hK (emP)) rfl hl rfl (Nat.le_of_ble_eq_true rfl) (dd D_X9_lineAt 24 rfl) ⟨Nat.le_of_ble_eq_true rfl, Nat.le_of_ble_eq_true rfl⟩) rfl ?_
        refine lv_istore (lv' := [(4, .int (bI (F_X9_in (Int32.toInt64 p1) (Int32.toInt64 ((m_notch s (Int32.toNatClampNeg w3_L16)) (Int32.toNatClampNeg (0 : Int32)))) (Int32.toInt64 ((m_notch s (Int32.toNatClampNeg w3_L16)) (Int32.toNatClampNeg (1 : Int32))))))), (0, .ref (am 0)), (1, .int p1), (2, .int w2_L16), (3, .int w3_L16)]) F.1 F.2.1 (dd D_X9_lineAt 25 rfl) hl (Nat.le_of_ble_eq_true rfl) rfl (fun ls hl => ?_)
        refine lv_iload F.1 F.2.1 (dd D_X9_lineAt 26 rfl) (lv_at hl 0 rfl) ?_
        refine x_bif_eq (tgt := 65) F.1 F.2.1 (dd D_X9_lineAt 27 rfl) rfl h (fun c31 h => ?_) (fun c31 h => ?_)
        · refine lv_iload_n F.1 F.2.1 (dd D_X9_lineAt 43 rfl) rfl (lv_at hl 3 rfl) ?_
          refine lv_istore_n (lv' := [(2, .int w2_L16), (4, .int (bI (F_X9_in (Int32.toInt64 p1) (Int32.toInt64 ((m_notch s (Int32.toNatClampNeg w3_L16)) (Int32.toNatClampNeg (0 : Int32)))) (Int32.toInt64 ((m_notch s (Int32.toNatClampNeg w3_L16)) (Int32.toNatClampNeg (1 : Int32))))))), (0, .ref (am 0)), (1, .int p1), (3, .int w3_L16)]) F.1 F.2.1 (dd D_X9_lineAt 44 rfl) rfl hl (Nat.le_of_ble_eq_true rfl) rfl (fun ls hl => ?_)
          refine lv_iinc (v := (w3_L16 + (1 : Int32))) (lv' := [(3, .int (w3_L16 + (1 : Int32))), (2, .int w2_L16), (4, .int (bI (F_X9_in (Int32.toInt64 p1) (Int32.toInt64 ((m_notch s (Int32.toNatClampNeg w3_L16)) (Int32.toNatClampNeg (0 : Int32)))) (Int32.toInt64 ((m_notch s (Int32.toNatClampNeg w3_L16)) (Int32.toNatClampNeg (1 : Int32))))))), (0, .ref (am 0)), (1, .int p1)]) F.1 F.2.1 (dd D_X9_lineAt 45 rfl) hl (k := 4) rfl (congrArg (fun z => w3_L16 + z) ki_1) (Nat.le_of_ble_eq_true rfl) rfl (fun ls hl => ?_)
          refine lv_goto (tgt := 4) F.1 F.2.1 (dd D_X9_lineAt 46 rfl) rfl ?_
          exact ih_L16 w2_L16 (w3_L16 + (1 : Int32)) ls (lv_sub hl [3, 4, 1, 0] rfl) h
        · refine lv_aload_n F.1 F.2.1 (dd D_X9_lineAt 28 rfl) rfl (lv_at hl 1 rfl) ?_
          refine getF F hK hP lf_X9_45 (0) (mp_0 cA am s) rfl (dd D_X9_lineAt 29 rfl) ?_
          refine lv_iload_n F.1 F.2.1 (dd D_X9_lineAt 30 rfl) rfl (lv_at hl 4 rfl) ?_
          refine aldA (g := fun j => am (20+j)) F hK hP (19) (mp_19 cA am s) 4 rfl (fun _ => rfl) h (dd D_X9_lineAt 31 rfl) (fun z24 h => ?_)
          have hk25 : (Int32.toNatClampNeg w3_L16) < 8 := inb_lt z24
          refine lv_iconst (v := (2 : Int32)) F.1 F.2.1 (dd D_X9_lineAt 32 rfl) ki_2 ?_
          refine aldI F hK hP (20+(Int32.toNatClampNeg w3_L16)) (mp_notch cA am s (Int32.toNatClampNeg w3_L16) hk25) h (dd D_X9_lineAt 33 rfl) (fun z26 h => ?_)
          refine lv_iload_n F.1 F.2.1 (dd D_X9_lineAt 34 rfl) rfl (lv_at hl 3 rfl) ?_
          refine x_icmp_le (tgt := 65) F.1 F.2.1 (dd D_X9_lineAt 35 rfl) rfl h (fun c27 h => ?_) (fun c27 h => ?_)
          · refine lv_iload_n F.1 F.2.1 (dd D_X9_lineAt 43 rfl) rfl (lv_at hl 3 rfl) ?_
            refine lv_istore_n (lv' := [(2, .int w2_L16), (4, .int (bI (F_X9_in (Int32.toInt64 p1) (Int32.toInt64 ((m_notch s (Int32.toNatClampNeg w3_L16)) (Int32.toNatClampNeg (0 : Int32)))) (Int32.toInt64 ((m_notch s (Int32.toNatClampNeg w3_L16)) (Int32.toNatClampNeg (1 : Int32))))))), (0, .ref (am 0)), (1, .int p1), (3, .int w3_L16)]) F.1 F.2.1 (dd D_X9_lineAt 44 rfl) rfl hl (Nat.le_of_ble_eq_true rfl) rfl (fun ls hl => ?_)
            refine lv_iinc (v := (w3_L16 + (1 : Int32))) (lv' := [(3, .int (w3_L16 + (1 : Int32))), (2, .int w2_L16), (4, .int (bI (F_X9_in (Int32.toInt64 p1) (Int32.toInt64 ((m_notch s (Int32.toNatClampNeg w3_L16)) (Int32.toNatClampNeg (0 : Int32)))) (Int32.toInt64 ((m_notch s (Int32.toNatClampNeg w3_L16)) (Int32.toNatClampNeg (1 : Int32))))))), (0, .ref (am 0)), (1, .int p1)]) F.1 F.2.1 (dd D_X9_lineAt 45 rfl) hl (k := 4) rfl (congrArg (fun z => w3_L16 + z) ki_1) (Nat.le_of_ble_eq_true rfl) rfl (fun ls hl => ?_)
            refine lv_goto (tgt := 4) F.1 F.2.1 (dd D_X9_lineAt 46 rfl) rfl ?_
            exact ih_L16 w2_L16 (w3_L16 + (1 : Int32)) ls (lv_sub hl [3, 4, 1, 0] rfl) h
          · refine lv_aload_n F.1 F.2.1 (dd D_X9_lineAt 36 rfl) rfl (lv_at hl 1 rfl) ?_
            refine getF F hK hP lf_X9_45 (0) (mp_0 cA am s) rfl (dd D_X9_lineAt 37 rfl) ?_
            refine lv_iload_n F.1 F.2.1 (dd D_X9_lineAt 38 rfl) rfl (lv_at hl 4 rfl) ?_
            refine aldA (g := fun j => am (20+j)) F hK hP (19) (mp_19 cA am s) 4 rfl (fun _ => rfl) h (dd D_X9_lineAt 39 rfl) (fun z28 h => ?_)
            have hk29 : (Int32.toNatClampNeg w3_L16) < 8 := inb_lt z28
            refine lv_iconst (v := (2 : Int32)) F.1 F.2.1 (dd D_X9_lineAt 40 rfl) ki_2 ?_
            refine aldI F hK hP (20+(Int32.toNatClampNeg w3_L16)) (mp_notch cA am s (Int32.toNatClampNeg w3_L16) hk29) h (dd D_X9_lineAt 41 rfl) (fun z30 h => ?_)
            refine lv_goto (tgt := 66) F.1 F.2.1 (dd D_X9_lineAt 42 rfl) rfl ?_
            refine lv_istore_n (lv' := [(2, .int ((m_notch s (Int32.toNatClampNeg w3_L16)) (Int32.toNatClampNeg (2 : Int32)))), (4, .int (bI (F_X9_in (Int32.toInt64 p1) (Int32.toInt64 ((m_notch s (Int32.toNatClampNeg w3_L16)) (Int32.toNatClampNeg (0 : Int32)))) (Int32.toInt64 ((m_notch s (Int32.toNatClampNeg w3_L16)) (Int32.toNatClampNeg (1 : Int32))))))), (0, .ref (am 0)), (1, .int p1), (3, .int w3_L16)]) F.1 F.2.1 (dd D_X9_lineAt 44 rfl) rfl hl (Nat.le_of_ble_eq_true rfl) rfl (fun ls hl => ?_)
            refine lv_iinc (v := (w3_L16 + (1 : Int32))) (lv' := [(3, .int (w3_L16 + (1 : Int32))), (2, .int ((m_notch s (Int32.toNatClampNeg w3_L16)) (Int32.toNatClampNeg (2 : Int32)))), (4, .int (bI (F_X9_in (Int32.toInt64 p1) (Int32.toInt64 ((m_notch s (Int32.toNatClampNeg w3_L16)) (Int32.toNatClampNeg (0 : Int32)))) (Int32.toInt64 ((m_notch s (Int32.toNatClampNeg w3_L16)) (Int32.toNatClampNeg (1 : Int32))))))), (0, .ref (am 0)), (1, .int p1)]) F.1 F.2.1 (dd D_X9_lineAt 45 rfl) hl (k := 4) rfl (congrArg (fun z => w3_L16 + z) ki_1) (Nat.le_of_ble_eq_true rfl) rfl (fun ls hl => ?_)
            refine lv_goto (tgt := 4) F.1 F.2.1 (dd D_X9_lineAt 46 rfl) rfl ?_
            exact ih_L16 ((m_notch s (Int32.toNatClampNeg w3_L16)) (Int32.toNatClampNeg (2 : Int32))) (w3_L16 + (1 : Int32)) ls (lv_sub hl [3, 4, 1, 0] rfl) h
  exact L16 n (0 : Int32) (0 : Int32) ls (lv_sub hl [2, 3, 1, 0] rfl) h
def F_X8_refuse (n : Nat) (s : XS) (p1 : Int32) : Option (Int32 × XS) := (if ((-2 : Int32) - p1) < 0 then some (p1, s) else (if (5 : Int32) ≤ ((-2 : Int32) - p1) then some (p1, s) else gd (inb ((-2 : Int32) - p1) 5) (gd (inb ((-2 : Int32) - p1) 5) (some (p1, (x_set_ref s (upd (x_ref s) (Int32.toNatClampNeg ((-2 : Int32) - p1)) (((x_ref s) (Int32.toNatClampNeg ((-2 : Int32) - p1))) + (1 : Int32)))))))))
set_option maxHeartbeats 4000000 in
set_option maxRecDepth 100000 in
theorem c_X8_refuse (D : va_G) (cA : Nat → ClassId) (ax : Nat → Nat) (s : XS) (n : Nat) (p1 : Int32) (r : (Int32 × XS)) (h : F_X8_refuse n s p1 = some r) : RW m_X8_refuse 0 0 0 D cA [.ref (ax 0), .int p1] (xW cA ax s) (exq (some (.int r.1)) (xW cA ax r.2)) := by
  refine RW.ofW gy_X8_refuse.2.2 (Nat.le_of_ble_eq_true rfl) ?_
  intro l p e sM m below meth c A H locs F hr hlk hnm hK hP hD hS hA ls hl
  have hl : lv_has ls 3 [(0, .ref (ax 0)), (1, .int p1)] := hl
  unfold F_X8_refuse at h
  refine lv_bipush (v := (-2 : Int32)) F.1 F.2.1 (dd D_X8_refuse 0 rfl) kb_m2 ?_
  refine lv_iload_n F.1 F.2.1 (dd D_X8_refuse 1 rfl) rfl (lv_at hl 1 rfl) ?_
  refine lv_isub F.1 F.2.1 (dd D_X8_refuse 2 rfl) ?_
  refine lv_istore_n (lv' := [(2, .int ((-2 : Int32) - p1)), (0, .ref (ax 0)), (1, .int p1)]) F.1 F.2.1 (dd D_X8_refuse 3 rfl) rfl hl (Nat.le_of_ble_eq_true rfl) rfl (fun ls hl => ?_)
  refine lv_iload_n F.1 F.2.1 (dd D_X8_refuse 4 rfl) rfl (lv_at hl 0 rfl) ?_
  refine x_if_lt (tgt := 28) F.1 F.2.1 (dd D_X8_refuse 5 rfl) rfl h (fun c1 h => ?_) (fun c1 h => ?_)
  · refine lv_iload_n F.1 F.2.1 (dd D_X8_refuse 19 rfl) rfl (lv_at hl 2 rfl) ?_
    obtain rfl := Option.some.inj h
    exact rw_i (R := rmOf 0 0 0) F hP hD hS hr hlk ⟨Nat.le_of_ble_eq_true rfl, Nat.le_of_ble_eq_true rfl⟩ ⟨rfl, rfl⟩ (dd D_X8_refuse 20 rfl)
  · refine lv_iload_n F.1 F.2.1 (dd D_X8_refuse 6 rfl) rfl (lv_at hl 0 rfl) ?_
    refine lv_aload_n F.1 F.2.1 (dd D_X8_refuse 7 rfl) rfl (lv_at hl 1 rfl) ?_
    refine getF F hK hP lf_X8_51 (0) (xp_0 cA ax s) rfl (dd D_X8_refuse 8 rfl) ?_
    refine alen F hK hP (62) 0 (xp_62 cA ax s) rfl (v := (5 : Int32)) kn_5 (dd D_X8_refuse 9 rfl) ?_
    refine x_icmp_ge (tgt := 28) F.1 F.2.1 (dd D_X8_refuse 10 rfl) rfl h (fun c2 h => ?_) (fun c2 h => ?_)
    · refine lv_iload_n F.1 F.2.1 (dd D_X8_refuse 19 rfl) rfl (lv_at hl 2 rfl) ?_
      obtain rfl := Option.some.inj h
      exact rw_i (R := rmOf 0 0 0) F hP hD hS hr hlk ⟨Nat.le_of_ble_eq_true rfl, Nat.le_of_ble_eq_true rfl⟩ ⟨rfl, rfl⟩ (dd D_X8_refuse 20 rfl)
    · refine lv_aload_n F.1 F.2.1 (dd D_X8_refuse 11 rfl) rfl (lv_at hl 1 rfl) ?_
      refine getF F hK hP lf_X8_51 (0) (xp_0 cA ax s) rfl (dd D_X8_refuse 12 rfl) ?_
      refine lv_iload_n F.1 F.2.1 (dd D_X8_refuse 13 rfl) rfl (lv_at hl 0 rfl) ?_
      refine lv_dup2_11 F.1 F.2.1 (dd D_X8_refuse 14 rfl) rfl rfl ?_
      refine aldI F hK hP (62) (xp_62 cA ax s) h (dd D_X8_refuse 15 rfl) (fun z3 h => ?_)
      refine lv_iconst (v := (1 : Int32)) F.1 F.2.1 (dd D_X8_refuse 16 rfl) ki_1 ?_
      refine lv_iadd F.1 F.2.1 (dd D_X8_refuse 17 rfl) ?_
      refine astI F hK hP hD hS (62) (xp_62 cA ax s) h (ws' := (xW cA ax (x_set_ref s (upd (x_ref s) (Int32.toNatClampNeg ((-2 : Int32) - p1)) (((x_ref s) (Int32.toNatClampNeg ((-2 : Int32) - p1))) + (1 : Int32)))))) (xs_62 cA ax s (upd (x_ref s) (Int32.toNatClampNeg ((-2 : Int32) - p1)) (((x_ref s) (Int32.toNatClampNeg ((-2 : Int32) - p1))) + (1 : Int32)))) (dd D_X8_refuse 18 rfl) (fun z4 h H locs hP hD hS => ?_)
      refine lv_iload_n F.1 F.2.1 (dd D_X8_refuse 19 rfl) rfl (lv_at hl 2 rfl) ?_
      obtain rfl := Option.some.inj h
      exact rw_i (R := rmOf 0 0 0) F hP hD hS hr hlk ⟨Nat.le_of_ble_eq_true rfl, Nat.le_of_ble_eq_true rfl⟩ ⟨rfl, rfl⟩ (dd D_X8_refuse 20 rfl)
def F_X0_add (n : Nat) (rm : Nat) (s : FW) (p1 : Int32) : Option FW := (if (fw_n s) < 0 then some s else (if (Int32.ofNat rm) ≤ (fw_n s) then some s else gd (inb (fw_n s) rm) (some (fw_set_n (fw_set_it s (upd (fw_it s) (Int32.toNatClampNeg (fw_n s)) p1)) ((fw_n (fw_set_it s (upd (fw_it s) (Int32.toNatClampNeg (fw_n s)) p1))) + (1 : Int32))))))
set_option maxHeartbeats 4000000 in
set_option maxRecDepth 100000 in
theorem c_X0_add (D : va_G) (cA : Nat → ClassId) (rm : Nat) (a : Nat → Nat) (s : FW) (n : Nat) (p1 : Int32) (r : FW) (h : F_X0_add n rm s p1 = some r) : RW m_X0_add 0 0 0 D cA [.ref (a 0), .int p1] (fewW cA rm a s) (exq (none) (fewW cA rm a r)) := by
  refine RW.ofW gy_X0_add.2.2 (Nat.le_of_ble_eq_true rfl) ?_
  intro l p e sM m below meth c A H locs F hr hlk hnm hK hP hD hS hA ls hl
  have hl : lv_has ls 2 [(0, .ref (a 0)), (1, .int p1)] := hl
  unfold F_X0_add at h
  refine lv_aload_n F.1 F.2.1 (dd D_X0_add 0 rfl) rfl (lv_at hl 0 rfl) ?_
  refine getF F hK hP lf_X0_21 (0) rfl rfl (dd D_X0_add 1 rfl) ?_
  refine x_if_lt (tgt := 39) F.1 F.2.1 (dd D_X0_add 2 rfl) rfl h (fun c1 h => ?_) (fun c1 h => ?_)
  · obtain rfl := Option.some.inj h
    exact rw_v (R := rmOf 0 0 0) F hP hD hS hr hlk ⟨Nat.le_of_ble_eq_true rfl, Nat.le_of_ble_eq_true rfl⟩ ⟨rfl, rfl⟩ (dd D_X0_add 21 rfl)
  · refine lv_aload_n F.1 F.2.1 (dd D_X0_add 3 rfl) rfl (lv_at hl 0 rfl) ?_
    refine getF F hK hP lf_X0_21 (0) rfl rfl (dd D_X0_add 4 rfl) ?_
    refine lv_aload_n F.1 F.2.1 (dd D_X0_add 5 rfl) rfl (lv_at hl 0 rfl) ?_
    refine getF F hK hP lf_X0_15 (0) rfl rfl (dd D_X0_add 6 rfl) ?_
    refine alen F hK hP (1) 0 rfl rfl (v := (Int32.ofNat rm)) rfl (dd D_X0_add 7 rfl) ?_
    refine x_icmp_ge (tgt := 39) F.1 F.2.1 (dd D_X0_add 8 rfl) rfl h (fun c2 h => ?_) (fun c2 h => ?_)
    · obtain rfl := Option.some.inj h
      exact rw_v (R := rmOf 0 0 0) F hP hD hS hr hlk ⟨Nat.le_of_ble_eq_true rfl, Nat.le_of_ble_eq_true rfl⟩ ⟨rfl, rfl⟩ (dd D_X0_add 21 rfl)
    · refine lv_aload_n F.1 F.2.1 (dd D_X0_add 9 rfl) rfl (lv_at hl 0 rfl) ?_
      refine getF F hK hP lf_X0_15 (0) rfl rfl (dd D_X0_add 10 rfl) ?_
      refine lv_aload_n F.1 F.2.1 (dd D_X0_add 11 rfl) rfl (lv_at hl 0 rfl) ?_
      refine getF F hK hP lf_X0_21 (0) rfl rfl (dd D_X0_add 12 rfl) ?_
      refine lv_iload_n F.1 F.2.1 (dd D_X0_add 13 rfl) rfl (lv_at hl 1 rfl) ?_
      refine astI F hK hP hD hS (1) rfl h (ws' := (fewW cA rm a (fw_set_it s (upd (fw_it s) (Int32.toNatClampNeg (fw_n s)) p1)))) rfl (dd D_X0_add 14 rfl) (fun z3 h H locs hP hD hS => ?_)
      refine lv_aload_n F.1 F.2.1 (dd D_X0_add 15 rfl) rfl (lv_at hl 0 rfl) ?_
      refine lv_dup F.1 F.2.1 (dd D_X0_add 16 rfl) rfl ?_
      refine getF F hK hP lf_X0_21 (0) rfl rfl (dd D_X0_add 17 rfl) ?_
      refine lv_iconst (v := (1 : Int32)) F.1 F.2.1 (dd D_X0_add 18 rfl) ki_1 ?_
      refine lv_iadd F.1 F.2.1 (dd D_X0_add 19 rfl) ?_
      refine putF F hK hP hD hS lp_X0_21 (0) rfl (Nat.le_of_ble_eq_true rfl) rfl rfl (ws' := (fewW cA rm a (fw_set_n (fw_set_it s (upd (fw_it s) (Int32.toNatClampNeg (fw_n s)) p1)) ((fw_n (fw_set_it s (upd (fw_it s) (Int32.toNatClampNeg (fw_n s)) p1))) + (1 : Int32))))) rfl (dd D_X0_add 20 rfl) (fun H locs hP hD hS => ?_)
      obtain rfl := Option.some.inj h
      exact rw_v (R := rmOf 0 0 0) F hP hD hS hr hlk ⟨Nat.le_of_ble_eq_true rfl, Nat.le_of_ble_eq_true rfl⟩ ⟨rfl, rfl⟩ (dd D_X0_add 21 rfl)
def F_X2_outOf (s : XS) (p1 : Int32) : Int32 := (if (3396 : Int32) < (jrem ((st_swing (x_now s)) + p1) (6793 : Int32)) then (((18 : Int32) + ((((6793 : Int32) - (jrem ((st_swing (x_now s)) + p1) (6793 : Int32))) * (10 : Int32)) / (3397 : Int32)))) else (((18 : Int32) + (((jrem ((st_swing (x_now s)) + p1) (6793 : Int32)) * (10 : Int32)) / (3396 : Int32)))))
set_option maxHeartbeats 4000000 in
set_option maxRecDepth 100000 in
theorem c_X2_outOf (D : va_G) (cA : Nat → ClassId) (ax : Nat → Nat) (s : XS) (p1 : Int32) : RO m_X2_outOf 0 D cA [.ref (ax 40), .int p1] (xW cA ax s) (some (.int (F_X2_outOf s p1))) := by
  obtain ⟨r, h⟩ : ∃ r, F_X2_outOf s p1 = r := ⟨_, rfl⟩
  rw [h]
  refine RO.ofW gy_X2_outOf.2.2 (Nat.le_of_ble_eq_true rfl) ?_
  intro l p e sM m below meth c F hr hlk hK hP ls hl
  have hl : lv_has ls 3 [(0, .ref (ax 40)), (1, .int p1)] := hl
  unfold F_X2_outOf at h
  refine lv_aload_n F.1 F.2.1 (dd D_X2_outOf 0 rfl) rfl (lv_at hl 0 rfl) ?_
  refine getF F hK hP lf_X2_9 (40) (xp_40 cA ax s) rfl (dd D_X2_outOf 1 rfl) ?_
  refine getF F hK hP lf_X2_31 (1) (xp_1 cA ax s) rfl (dd D_X2_outOf 2 rfl) ?_
  refine lv_iload_n F.1 F.2.1 (dd D_X2_outOf 3 rfl) rfl (lv_at hl 1 rfl) ?_
  refine lv_iadd F.1 F.2.1 (dd D_X2_outOf 4 rfl) ?_
  refine lv_sipush (v := (6793 : Int32)) F.1 F.2.1 (dd D_X2_outOf 5 rfl) ks_6793 ?_
  refine x_irem F.1 F.2.1 (dd D_X2_outOf 6 rfl) kd_6793 ?_
  refine lv_istore_n (lv' := [(2, .int (jrem ((st_swing (x_now s)) + p1) (6793 : Int32))), (0, .ref (ax 40)), (1, .int p1)]) F.1 F.2.1 (dd D_X2_outOf 7 rfl) rfl hl (Nat.le_of_ble_eq_true rfl) rfl (fun ls hl => ?_)
  refine lv_iload_n F.1 F.2.1 (dd D_X2_outOf 8 rfl) rfl (lv_at hl 0 rfl) ?_
  refine lv_sipush (v := (3396 : Int32)) F.1 F.2.1 (dd D_X2_outOf 9 rfl) ks_3396 ?_
  refine x_icmp_gt (tgt := 35) F.1 F.2.1 (dd D_X2_outOf 10 rfl) rfl h (fun c1 h => ?_) (fun c1 h => ?_)
  · refine lv_bipush (v := (18 : Int32)) F.1 F.2.1 (dd D_X2_outOf 19 rfl) kb_18 ?_
    refine lv_sipush (v := (6793 : Int32)) F.1 F.2.1 (dd D_X2_outOf 20 rfl) ks_6793 ?_
    refine lv_iload_n F.1 F.2.1 (dd D_X2_outOf 21 rfl) rfl (lv_at hl 0 rfl) ?_
    refine lv_isub F.1 F.2.1 (dd D_X2_outOf 22 rfl) ?_
    refine lv_bipush (v := (10 : Int32)) F.1 F.2.1 (dd D_X2_outOf 23 rfl) kb_10 ?_
    refine lv_imul F.1 F.2.1 (dd D_X2_outOf 24 rfl) ?_
    refine lv_sipush (v := (3397 : Int32)) F.1 F.2.1 (dd D_X2_outOf 25 rfl) ks_3397 ?_
    refine lv_idiv F.1 F.2.1 (dd D_X2_outOf 26 rfl) kd_3397 ?_
    refine lv_iadd F.1 F.2.1 (dd D_X2_outOf 27 rfl) ?_
    exact ro_i (R := rmOf 0 0 0) F hr hlk (congrArg (fun z => some (Value.int z)) h) (dd D_X2_outOf 28 rfl)
  · refine lv_bipush (v := (18 : Int32)) F.1 F.2.1 (dd D_X2_outOf 11 rfl) kb_18 ?_
    refine lv_iload_n F.1 F.2.1 (dd D_X2_outOf 12 rfl) rfl (lv_at hl 0 rfl) ?_
    refine lv_bipush (v := (10 : Int32)) F.1 F.2.1 (dd D_X2_outOf 13 rfl) kb_10 ?_
    refine lv_imul F.1 F.2.1 (dd D_X2_outOf 14 rfl) ?_
    refine lv_sipush (v := (3396 : Int32)) F.1 F.2.1 (dd D_X2_outOf 15 rfl) ks_3396 ?_
    refine lv_idiv F.1 F.2.1 (dd D_X2_outOf 16 rfl) kd_3396 ?_
    refine lv_iadd F.1 F.2.1 (dd D_X2_outOf 17 rfl) ?_
    refine lv_goto (tgt := 50) F.1 F.2.1 (dd D_X2_outOf 18 rfl) rfl ?_
    exact ro_i (R := rmOf 0 0 0) F hr hlk (congrArg (fun z => some (Value.int z)) h) (dd D_X2_outOf 28 rfl)
def F_X2_slantOf (s : XS) (p1 : Int32) : Int32 := (if (683 : Int32) < (jrem (((100 : Int32) * p1) + (st_node (x_now s))) (2732 : Int32)) then (if (2049 : Int32) < (jrem (((100 : Int32) * p1) + (st_node (x_now s))) (2732 : Int32)) then ((((F_X2_outOf s p1) * ((jrem (((100 : Int32) * p1) + (st_node (x_now s))) (2732 : Int32)) - (2732 : Int32))) / (683 : Int32))) else ((((F_X2_outOf s p1) * ((1366 : Int32) - (jrem (((100 : Int32) * p1) + (st_node (x_now s))) (2732 : Int32)))) / (683 : Int32)))) else ((((F_X2_outOf s p1) * (jrem (((100 : Int32) * p1) + (st_node (x_now s))) (2732 : Int32))) / (683 : Int32))))
set_option maxHeartbeats 4000000 in
set_option maxRecDepth 100000 in
theorem c_X2_slantOf (D : va_G) (cA : Nat → ClassId) (ax : Nat → Nat) (s : XS) (p1 : Int32) : RO m_X2_slantOf 1 D cA [.ref (ax 40), .int p1] (xW cA ax s) (some (.int (F_X2_slantOf s p1))) := by
  obtain ⟨r, h⟩ : ∃ r, F_X2_slantOf s p1 = r := ⟨_, rfl⟩
  rw [h]
  refine RO.ofW gy_X2_slantOf.2.2 (Nat.le_of_ble_eq_true rfl) ?_
  intro l p e sM m below meth c F hr hlk hK hP ls hl
  have hl : lv_has ls 4 [(0, .ref (ax 40)), (1, .int p1)] := hl
  unfold F_X2_slantOf at h
  refine lv_aload_n F.1 F.2.1 (dd D_X2_slantOf 0 rfl) rfl (lv_at hl 0 rfl) ?_
  refine lv_iload_n F.1 F.2.1 (dd D_X2_slantOf 1 rfl) rfl (lv_at hl 1 rfl) ?_
  refine ro_go (st' := [.int (F_X2_outOf s p1)]) (rV (rest := []) F (c_X2_outOf D cA ax s p1 l) lk_X2_34 (Nat.le_of_ble_eq_true rfl) (preRO hK hP) (rcv hK hP (q0 := (40)) (xp_40 cA ax s) rfl) rfl hl rfl (Nat.le_of_ble_eq_true rfl) (dd D_X2_slantOf 2 rfl) ⟨Nat.le_of_ble_eq_true rfl, Nat.le_of_ble_eq_true rfl⟩) rfl ?_
  refine lv_istore_n (lv' := [(2, .int (F_X2_outOf s p1)), (0, .ref (ax 40)), (1, .int p1)]) F.1 F.2.1 (dd D_X2_slantOf 3 rfl) rfl hl (Nat.le_of_ble_eq_true rfl) rfl (fun ls hl => ?_)
  refine lv_bipush (v := (100 : Int32)) F.1 F.2.1 (dd D_X2_slantOf 4 rfl) kb_100 ?_
  refine lv_iload_n F.1 F.2.1 (dd D_X2_slantOf 5 rfl) rfl (lv_at hl 2 rfl) ?_
  refine lv_imul F.1 F.2.1 (dd D_X2_slantOf 6 rfl) ?_
  refine lv_aload_n F.1 F.2.1 (dd D_X2_slantOf 7 rfl) rfl (lv_at hl 1 rfl) ?_
  refine getF F hK hP lf_X2_9 (40) (xp_40 cA ax s) rfl (dd D_X2_slantOf 8 rfl) ?_
  refine getF F hK hP lf_X2_37 (1) (xp_1 cA ax s) rfl (dd D_X2_slantOf 9 rfl) ?_
  refine lv_iadd F.1 F.2.1 (dd D_X2_slantOf 10 rfl) ?_
  refine lv_sipush (v := (2732 : Int32)) F.1 F.2.1 (dd D_X2_slantOf 11 rfl) ks_2732 ?_
  refine x_irem F.1 F.2.1 (dd D_X2_slantOf 12 rfl) kd_2732 ?_
  refine lv_istore_n (lv' := [(3, .int (jrem (((100 : Int32) * p1) + (st_node (x_now s))) (2732 : Int32))), (2, .int (F_X2_outOf s p1)), (0, .ref (ax 40)), (1, .int p1)]) F.1 F.2.1 (dd D_X2_slantOf 13 rfl) rfl hl (Nat.le_of_ble_eq_true rfl) rfl (fun ls hl => ?_)
  refine lv_iload_n F.1 F.2.1 (dd D_X2_slantOf 14 rfl) rfl (lv_at hl 0 rfl) ?_
  refine lv_sipush (v := (683 : Int32)) F.1 F.2.1 (dd D_X2_slantOf 15 rfl) ks_683 ?_
  refine x_icmp_gt (tgt := 38) F.1 F.2.1 (dd D_X2_slantOf 16 rfl) rfl h (fun c1 h => ?_) (fun c1 h => ?_)
  · refine lv_iload_n F.1 F.2.1 (dd D_X2_slantOf 23 rfl) rfl (lv_at hl 0 rfl) ?_
    refine lv_sipush (v := (2049 : Int32)) F.1 F.2.1 (dd D_X2_slantOf 24 rfl) ks_2049 ?_
    refine x_icmp_gt (tgt := 59) F.1 F.2.1 (dd D_X2_slantOf 25 rfl) rfl h (fun c2 h => ?_) (fun c2 h => ?_)
    · refine lv_iload_n F.1 F.2.1 (dd D_X2_slantOf 34 rfl) rfl (lv_at hl 1 rfl) ?_
      refine lv_iload_n F.1 F.2.1 (dd D_X2_slantOf 35 rfl) rfl (lv_at hl 0 rfl) ?_
      refine lv_sipush (v := (2732 : Int32)) F.1 F.2.1 (dd D_X2_slantOf 36 rfl) ks_2732 ?_
      refine lv_isub F.1 F.2.1 (dd D_X2_slantOf 37 rfl) ?_
      refine lv_imul F.1 F.2.1 (dd D_X2_slantOf 38 rfl) ?_
      refine lv_sipush (v := (683 : Int32)) F.1 F.2.1 (dd D_X2_slantOf 39 rfl) ks_683 ?_
      refine lv_idiv F.1 F.2.1 (dd D_X2_slantOf 40 rfl) kd_683 ?_
      exact ro_i (R := rmOf 1 0 0) F hr hlk (congrArg (fun z => some (Value.int z)) h) (dd D_X2_slantOf 41 rfl)
    · refine lv_iload_n F.1 F.2.1 (dd D_X2_slantOf 26 rfl) rfl (lv_at hl 1 rfl) ?_
      refine lv_sipush (v := (1366 : Int32)) F.1 F.2.1 (dd D_X2_slantOf 27 rfl) ks_1366 ?_
      refine lv_iload_n F.1 F.2.1 (dd D_X2_slantOf 28 rfl) rfl (lv_at hl 0 rfl) ?_
      refine lv_isub F.1 F.2.1 (dd D_X2_slantOf 29 rfl) ?_
      refine lv_imul F.1 F.2.1 (dd D_X2_slantOf 30 rfl) ?_
      refine lv_sipush (v := (683 : Int32)) F.1 F.2.1 (dd D_X2_slantOf 31 rfl) ks_683 ?_
      refine lv_idiv F.1 F.2.1 (dd D_X2_slantOf 32 rfl) kd_683 ?_
      refine lv_goto (tgt := 70) F.1 F.2.1 (dd D_X2_slantOf 33 rfl) rfl ?_
      exact ro_i (R := rmOf 1 0 0) F hr hlk (congrArg (fun z => some (Value.int z)) h) (dd D_X2_slantOf 41 rfl)
  · refine lv_iload_n F.1 F.2.1 (dd D_X2_slantOf 17 rfl) rfl (lv_at hl 1 rfl) ?_
    refine lv_iload_n F.1 F.2.1 (dd D_X2_slantOf 18 rfl) rfl (lv_at hl 0 rfl) ?_
    refine lv_imul F.1 F.2.1 (dd D_X2_slantOf 19 rfl) ?_
    refine lv_sipush (v := (683 : Int32)) F.1 F.2.1 (dd D_X2_slantOf 20 rfl) ks_683 ?_
    refine lv_idiv F.1 F.2.1 (dd D_X2_slantOf 21 rfl) kd_683 ?_
    exact ro_i (R := rmOf 1 0 0) F hr hlk (congrArg (fun z => some (Value.int z)) h) (dd D_X2_slantOf 22 rfl)
def F_X9_age (n : Nat) (s : MS) (p1 : Int32) : Option Int32 := gd (inb (0 : Int32) 4) (some ((jrem (((100 : Int32) * p1) + ((m_asked s) (Int32.toNatClampNeg (0 : Int32)))) (2953 : Int32))))
set_option maxHeartbeats 4000000 in
set_option maxRecDepth 100000 in
theorem c_X9_age (D : va_G) (cA : Nat → ClassId) (am : Nat → Nat) (s : MS) (n : Nat) (p1 : Int32) (r : Int32) (h : F_X9_age n s p1 = some r) : RO m_X9_age 0 D cA [.ref (am 0), .int p1] (mW cA am s) (some (.int r)) := by
  refine RO.ofW gy_X9_age.2.2 (Nat.le_of_ble_eq_true rfl) ?_
  intro l p e sM m below meth c F hr hlk hK hP ls hl
  have hl : lv_has ls 2 [(0, .ref (am 0)), (1, .int p1)] := hl
  unfold F_X9_age at h
  refine lv_bipush (v := (100 : Int32)) F.1 F.2.1 (dd D_X9_age 0 rfl) kb_100 ?_
  refine lv_iload_n F.1 F.2.1 (dd D_X9_age 1 rfl) rfl (lv_at hl 1 rfl) ?_
  refine lv_imul F.1 F.2.1 (dd D_X9_age 2 rfl) ?_
  refine lv_aload_n F.1 F.2.1 (dd D_X9_age 3 rfl) rfl (lv_at hl 0 rfl) ?_
  refine getF F hK hP lf_X9_40 (0) (mp_0 cA am s) rfl (dd D_X9_age 4 rfl) ?_
  refine lv_iconst (v := (0 : Int32)) F.1 F.2.1 (dd D_X9_age 5 rfl) ki_0 ?_
  refine aldI F hK hP (18) (mp_18 cA am s) h (dd D_X9_age 6 rfl) (fun z1 h => ?_)
  refine lv_iadd F.1 F.2.1 (dd D_X9_age 7 rfl) ?_
  refine lv_sipush (v := (2953 : Int32)) F.1 F.2.1 (dd D_X9_age 8 rfl) ks_2953 ?_
  refine x_irem F.1 F.2.1 (dd D_X9_age 9 rfl) kd_2953 ?_
  exact ro_i (R := rmOf 0 0 0) F hr hlk (congrArg (Option.map Value.int) h) (dd D_X9_age 10 rfl)
def F_X9_out (n : Nat) (s : MS) (p1 : Int32) : Option Int32 := gd (inb (2 : Int32) 4) ((if (3396 : Int32) < (jrem (((m_asked s) (Int32.toNatClampNeg (2 : Int32))) + p1) (6793 : Int32)) then some (((18 : Int32) + ((((6793 : Int32) - (jrem (((m_asked s) (Int32.toNatClampNeg (2 : Int32))) + p1) (6793 : Int32))) * (10 : Int32)) / (3397 : Int32)))) else some (((18 : Int32) + (((jrem (((m_asked s) (Int32.toNatClampNeg (2 : Int32))) + p1) (6793 : Int32)) * (10 : Int32)) / (3396 : Int32))))))
set_option maxHeartbeats 4000000 in
set_option maxRecDepth 100000 in
theorem c_X9_out (D : va_G) (cA : Nat → ClassId) (am : Nat → Nat) (s : MS) (n : Nat) (p1 : Int32) (r : Int32) (h : F_X9_out n s p1 = some r) : RO m_X9_out 0 D cA [.ref (am 0), .int p1] (mW cA am s) (some (.int r)) := by
  refine RO.ofW gy_X9_out.2.2 (Nat.le_of_ble_eq_true rfl) ?_
  intro l p e sM m below meth c F hr hlk hK hP ls hl
  have hl : lv_has ls 3 [(0, .ref (am 0)), (1, .int p1)] := hl
  unfold F_X9_out at h
  refine lv_aload_n F.1 F.2.1 (dd D_X9_out 0 rfl) rfl (lv_at hl 0 rfl) ?_
  refine getF F hK hP lf_X9_40 (0) (mp_0 cA am s) rfl (dd D_X9_out 1 rfl) ?_
  refine lv_iconst (v := (2 : Int32)) F.1 F.2.1 (dd D_X9_out 2 rfl) ki_2 ?_
  refine aldI F hK hP (18) (mp_18 cA am s) h (dd D_X9_out 3 rfl) (fun z1 h => ?_)
  refine lv_iload_n F.1 F.2.1 (dd D_X9_out 4 rfl) rfl (lv_at hl 1 rfl) ?_
  refine lv_iadd F.1 F.2.1 (dd D_X9_out 5 rfl) ?_
  refine lv_sipush (v := (6793 : Int32)) F.1 F.2.1 (dd D_X9_out 6 rfl) ks_6793 ?_
  refine x_irem F.1 F.2.1 (dd D_X9_out 7 rfl) kd_6793 ?_
  refine lv_istore_n (lv' := [(2, .int (jrem (((m_asked s) (Int32.toNatClampNeg (2 : Int32))) + p1) (6793 : Int32))), (0, .ref (am 0)), (1, .int p1)]) F.1 F.2.1 (dd D_X9_out 8 rfl) rfl hl (Nat.le_of_ble_eq_true rfl) rfl (fun ls hl => ?_)
  refine lv_iload_n F.1 F.2.1 (dd D_X9_out 9 rfl) rfl (lv_at hl 0 rfl) ?_
  refine lv_sipush (v := (3396 : Int32)) F.1 F.2.1 (dd D_X9_out 10 rfl) ks_3396 ?_
  refine x_icmp_gt (tgt := 34) F.1 F.2.1 (dd D_X9_out 11 rfl) rfl h (fun c2 h => ?_) (fun c2 h => ?_)
  · refine lv_bipush (v := (18 : Int32)) F.1 F.2.1 (dd D_X9_out 20 rfl) kb_18 ?_
    refine lv_sipush (v := (6793 : Int32)) F.1 F.2.1 (dd D_X9_out 21 rfl) ks_6793 ?_
    refine lv_iload_n F.1 F.2.1 (dd D_X9_out 22 rfl) rfl (lv_at hl 0 rfl) ?_
    refine lv_isub F.1 F.2.1 (dd D_X9_out 23 rfl) ?_
    refine lv_bipush (v := (10 : Int32)) F.1 F.2.1 (dd D_X9_out 24 rfl) kb_10 ?_
    refine lv_imul F.1 F.2.1 (dd D_X9_out 25 rfl) ?_
    refine lv_sipush (v := (3397 : Int32)) F.1 F.2.1 (dd D_X9_out 26 rfl) ks_3397 ?_
    refine lv_idiv F.1 F.2.1 (dd D_X9_out 27 rfl) kd_3397 ?_
    refine lv_iadd F.1 F.2.1 (dd D_X9_out 28 rfl) ?_
    exact ro_i (R := rmOf 0 0 0) F hr hlk (congrArg (Option.map Value.int) h) (dd D_X9_out 29 rfl)
  · refine lv_bipush (v := (18 : Int32)) F.1 F.2.1 (dd D_X9_out 12 rfl) kb_18 ?_
    refine lv_iload_n F.1 F.2.1 (dd D_X9_out 13 rfl) rfl (lv_at hl 0 rfl) ?_
    refine lv_bipush (v := (10 : Int32)) F.1 F.2.1 (dd D_X9_out 14 rfl) kb_10 ?_
    refine lv_imul F.1 F.2.1 (dd D_X9_out 15 rfl) ?_
    refine lv_sipush (v := (3396 : Int32)) F.1 F.2.1 (dd D_X9_out 16 rfl) ks_3396 ?_
    refine lv_idiv F.1 F.2.1 (dd D_X9_out 17 rfl) kd_3396 ?_
    refine lv_iadd F.1 F.2.1 (dd D_X9_out 18 rfl) ?_
    refine lv_goto (tgt := 49) F.1 F.2.1 (dd D_X9_out 19 rfl) rfl ?_
    exact ro_i (R := rmOf 0 0 0) F hr hlk (congrArg (Option.map Value.int) h) (dd D_X9_out 29 rfl)
def F_X9_slantOf (n : Nat) (s : MS) (p1 : Int32) : Option Int32 := gd (inb (1 : Int32) 4) ((((F_X9_out n s p1)).bind fun r2 => (if (683 : Int32) < (jrem (((100 : Int32) * p1) + ((m_asked s) (Int32.toNatClampNeg (1 : Int32)))) (2732 : Int32)) then (if (2049 : Int32) < (jrem (((100 : Int32) * p1) + ((m_asked s) (Int32.toNatClampNeg (1 : Int32)))) (2732 : Int32)) then some (((r2 * ((jrem (((100 : Int32) * p1) + ((m_asked s) (Int32.toNatClampNeg (1 : Int32)))) (2732 : Int32)) - (2732 : Int32))) / (683 : Int32))) else some (((r2 * ((1366 : Int32) - (jrem (((100 : Int32) * p1) + ((m_asked s) (Int32.toNatClampNeg (1 : Int32)))) (2732 : Int32)))) / (683 : Int32)))) else some (((r2 * (jrem (((100 : Int32) * p1) + ((m_asked s) (Int32.toNatClampNeg (1 : Int32)))) (2732 : Int32))) / (683 : Int32))))))
set_option maxHeartbeats 4000000 in
set_option maxRecDepth 100000 in
theorem c_X9_slantOf (D : va_G) (cA : Nat → ClassId) (am : Nat → Nat) (s : MS) (n : Nat) (p1 : Int32) (r : Int32) (h : F_X9_slantOf n s p1 = some r) : RO m_X9_slantOf 1 D cA [.ref (am 0), .int p1] (mW cA am s) (some (.int r)) := by
  refine RO.ofW gy_X9_slantOf.2.2 (Nat.le_of_ble_eq_true rfl) ?_
  intro l p e sM m below meth c F hr hlk hK hP ls hl
  have hl : lv_has ls 4 [(0, .ref (am 0)), (1, .int p1)] := hl
  unfold F_X9_slantOf at h
  refine lv_bipush (v := (100 : Int32)) F.1 F.2.1 (dd D_X9_slantOf 0 rfl) kb_100 ?_
  refine lv_iload_n F.1 F.2.1 (dd D_X9_slantOf 1 rfl) rfl (lv_at hl 1 rfl) ?_
  refine lv_imul F.1 F.2.1 (dd D_X9_slantOf 2 rfl) ?_
  refine lv_aload_n F.1 F.2.1 (dd D_X9_slantOf 3 rfl) rfl (lv_at hl 0 rfl) ?_
  refine getF F hK hP lf_X9_40 (0) (mp_0 cA am s) rfl (dd D_X9_slantOf 4 rfl) ?_
  refine lv_iconst (v := (1 : Int32)) F.1 F.2.1 (dd D_X9_slantOf 5 rfl) ki_1 ?_
  refine aldI F hK hP (18) (mp_18 cA am s) h (dd D_X9_slantOf 6 rfl) (fun z1 h => ?_)
  refine lv_iadd F.1 F.2.1 (dd D_X9_slantOf 7 rfl) ?_
  refine lv_sipush (v := (2732 : Int32)) F.1 F.2.1 (dd D_X9_slantOf 8 rfl) ks_2732 ?_
  refine x_irem F.1 F.2.1 (dd D_X9_slantOf 9 rfl) kd_2732 ?_
  refine lv_istore_n (lv' := [(2, .int (jrem (((100 : Int32) * p1) + ((m_asked s) (Int32.toNatClampNeg (1 : Int32)))) (2732 : Int32))), (0, .ref (am 0)), (1, .int p1)]) F.1 F.2.1 (dd D_X9_slantOf 10 rfl) rfl hl (Nat.le_of_ble_eq_true rfl) rfl (fun ls hl => ?_)
  refine lv_aload_n F.1 F.2.1 (dd D_X9_slantOf 11 rfl) rfl (lv_at hl 1 rfl) ?_
  refine lv_iload_n F.1 F.2.1 (dd D_X9_slantOf 12 rfl) rfl (lv_at hl 2 rfl) ?_
  obtain ⟨r2, e3, h⟩ := Option.bind_eq_some_iff.mp h
  refine ro_go (st' := [.int r2]) (rV (rest := []) F (c_X9_out D cA am s n p1 r2 e3 l) lk_X9_102 (Nat.le_of_ble_eq_true rfl) (preRO hK hP) (rcv hK hP (q0 := (0)) (mp_0 cA am s) rfl) rfl hl rfl (Nat.le_of_ble_eq_true rfl) (dd D_X9_slantOf 13 rfl) ⟨Nat.le_of_ble_eq_true rfl, Nat.le_of_ble_eq_true rfl⟩) rfl ?_
  refine lv_istore_n (lv' := [(3, .int r2), (2, .int (jrem (((100 : Int32) * p1) + ((m_asked s) (Int32.toNatClampNeg (1 : Int32)))) (2732 : Int32))), (0, .ref (am 0)), (1, .int p1)]) F.1 F.2.1 (dd D_X9_slantOf 14 rfl) rfl hl (Nat.le_of_ble_eq_true rfl) rfl (fun ls hl => ?_)
  refine lv_iload_n F.1 F.2.1 (dd D_X9_slantOf 15 rfl) rfl (lv_at hl 1 rfl) ?_
  refine lv_sipush (v := (683 : Int32)) F.1 F.2.1 (dd D_X9_slantOf 16 rfl) ks_683 ?_
  refine x_icmp_gt (tgt := 37) F.1 F.2.1 (dd D_X9_slantOf 17 rfl) rfl h (fun c4 h => ?_) (fun c4 h => ?_)
  · refine lv_iload_n F.1 F.2.1 (dd D_X9_slantOf 24 rfl) rfl (lv_at hl 1 rfl) ?_
    refine lv_sipush (v := (2049 : Int32)) F.1 F.2.1 (dd D_X9_slantOf 25 rfl) ks_2049 ?_
    refine x_icmp_gt (tgt := 58) F.1 F.2.1 (dd D_X9_slantOf 26 rfl) rfl h (fun c5 h => ?_) (fun c5 h => ?_)
    · refine lv_iload_n F.1 F.2.1 (dd D_X9_slantOf 35 rfl) rfl (lv_at hl 0 rfl) ?_
      refine lv_iload_n F.1 F.2.1 (dd D_X9_slantOf 36 rfl) rfl (lv_at hl 1 rfl) ?_
      refine lv_sipush (v := (2732 : Int32)) F.1 F.2.1 (dd D_X9_slantOf 37 rfl) ks_2732 ?_
      refine lv_isub F.1 F.2.1 (dd D_X9_slantOf 38 rfl) ?_
      refine lv_imul F.1 F.2.1 (dd D_X9_slantOf 39 rfl) ?_
      refine lv_sipush (v := (683 : Int32)) F.1 F.2.1 (dd D_X9_slantOf 40 rfl) ks_683 ?_
      refine lv_idiv F.1 F.2.1 (dd D_X9_slantOf 41 rfl) kd_683 ?_
      exact ro_i (R := rmOf 1 0 0) F hr hlk (congrArg (Option.map Value.int) h) (dd D_X9_slantOf 42 rfl)
    · refine lv_iload_n F.1 F.2.1 (dd D_X9_slantOf 27 rfl) rfl (lv_at hl 0 rfl) ?_
      refine lv_sipush (v := (1366 : Int32)) F.1 F.2.1 (dd D_X9_slantOf 28 rfl) ks_1366 ?_
      refine lv_iload_n F.1 F.2.1 (dd D_X9_slantOf 29 rfl) rfl (lv_at hl 1 rfl) ?_
      refine lv_isub F.1 F.2.1 (dd D_X9_slantOf 30 rfl) ?_
      refine lv_imul F.1 F.2.1 (dd D_X9_slantOf 31 rfl) ?_
      refine lv_sipush (v := (683 : Int32)) F.1 F.2.1 (dd D_X9_slantOf 32 rfl) ks_683 ?_
      refine lv_idiv F.1 F.2.1 (dd D_X9_slantOf 33 rfl) kd_683 ?_
      refine lv_goto (tgt := 69) F.1 F.2.1 (dd D_X9_slantOf 34 rfl) rfl ?_
      exact ro_i (R := rmOf 1 0 0) F hr hlk (congrArg (Option.map Value.int) h) (dd D_X9_slantOf 42 rfl)
  · refine lv_iload_n F.1 F.2.1 (dd D_X9_slantOf 18 rfl) rfl (lv_at hl 0 rfl) ?_
    refine lv_iload_n F.1 F.2.1 (dd D_X9_slantOf 19 rfl) rfl (lv_at hl 1 rfl) ?_
    refine lv_imul F.1 F.2.1 (dd D_X9_slantOf 20 rfl) ?_
    refine lv_sipush (v := (683 : Int32)) F.1 F.2.1 (dd D_X9_slantOf 21 rfl) ks_683 ?_
    refine lv_idiv F.1 F.2.1 (dd D_X9_slantOf 22 rfl) kd_683 ?_
    exact ro_i (R := rmOf 1 0 0) F hr hlk (congrArg (Option.map Value.int) h) (dd D_X9_slantOf 23 rfl)
def F_X9_mod (p0 : Int32) (p1 : Int32) : Int32 := (if 0 ≤ (jrem p0 p1) then ((jrem p0 p1)) else (((jrem p0 p1) + p1)))
set_option maxHeartbeats 4000000 in
set_option maxRecDepth 100000 in
theorem c_X9_mod (D : va_G) (cA : Nat → ClassId)  (p0 : Int32) (p1 : Int32) (hy0 : ¬ p1 = 0) : RO m_X9_mod 0 D cA [.int p0, .int p1] [] (some (.int (F_X9_mod p0 p1))) := by
  obtain ⟨r, h⟩ : ∃ r, F_X9_mod p0 p1 = r := ⟨_, rfl⟩
  rw [h]
  refine RO.ofW gy_X9_mod.2.2 (Nat.le_of_ble_eq_true rfl) ?_
  intro l p e sM m below meth c F hr hlk hK hP ls hl
  have hl : lv_has ls 3 [(0, .int p0), (1, .int p1)] := hl
  unfold F_X9_mod at h
  refine lv_iload_n F.1 F.2.1 (dd D_X9_mod 0 rfl) rfl (lv_at hl 0 rfl) ?_
  refine lv_iload_n F.1 F.2.1 (dd D_X9_mod 1 rfl) rfl (lv_at hl 1 rfl) ?_
  refine x_irem F.1 F.2.1 (dd D_X9_mod 2 rfl) hy0 ?_
  refine lv_istore_n (lv' := [(2, .int (jrem p0 p1)), (0, .int p0), (1, .int p1)]) F.1 F.2.1 (dd D_X9_mod 3 rfl) rfl hl (Nat.le_of_ble_eq_true rfl) rfl (fun ls hl => ?_)
  refine lv_iload_n F.1 F.2.1 (dd D_X9_mod 4 rfl) rfl (lv_at hl 0 rfl) ?_
  refine x_if_ge (tgt := 14) F.1 F.2.1 (dd D_X9_mod 5 rfl) rfl h (fun c1 h => ?_) (fun c1 h => ?_)
  · refine lv_iload_n F.1 F.2.1 (dd D_X9_mod 10 rfl) rfl (lv_at hl 0 rfl) ?_
    exact ro_i (R := rmOf 0 0 0) F hr hlk (congrArg (fun z => some (Value.int z)) h) (dd D_X9_mod 11 rfl)
  · refine lv_iload_n F.1 F.2.1 (dd D_X9_mod 6 rfl) rfl (lv_at hl 0 rfl) ?_
    refine lv_iload_n F.1 F.2.1 (dd D_X9_mod 7 rfl) rfl (lv_at hl 2 rfl) ?_
    refine lv_iadd F.1 F.2.1 (dd D_X9_mod 8 rfl) ?_
    refine lv_goto (tgt := 15) F.1 F.2.1 (dd D_X9_mod 9 rfl) rfl ?_
    exact ro_i (R := rmOf 0 0 0) F hr hlk (congrArg (fun z => some (Value.int z)) h) (dd D_X9_mod 11 rfl)
def F_X9_rise (n : Nat) (s : MS) (p1 : Int32) : Option Int32 := (((F_X9_age n s p1)).bind fun r1 => (((F_X9_slantOf n s p1)).bind fun r3 => some ((F_X9_mod (((360 : Int32) + ((r1 * (1440 : Int32)) / (2953 : Int32))) - ((3 : Int32) * r3)) (1440 : Int32)))))
set_option maxHeartbeats 4000000 in
set_option maxRecDepth 100000 in
theorem c_X9_rise (D : va_G) (cA : Nat → ClassId) (am : Nat → Nat) (s : MS) (n : Nat) (p1 : Int32) (r : Int32) (h : F_X9_rise n s p1 = some r) : RO m_X9_rise 2 D cA [.ref (am 0), .int p1] (mW cA am s) (some (.int r)) := by
  refine RO.ofW gy_X9_rise.2.2 (Nat.le_of_ble_eq_true rfl) ?_
  intro l p e sM m below meth c F hr hlk hK hP ls hl
  have hl : lv_has ls 2 [(0, .ref (am 0)), (1, .int p1)] := hl
  unfold F_X9_rise at h
  refine lv_sipush (v := (360 : Int32)) F.1 F.2.1 (dd D_X9_rise 0 rfl) ks_360 ?_
  refine lv_aload_n F.1 F.2.1 (dd D_X9_rise 1 rfl) rfl (lv_at hl 0 rfl) ?_
  refine lv_iload_n F.1 F.2.1 (dd D_X9_rise 2 rfl) rfl (lv_at hl 1 rfl) ?_
  obtain ⟨r1, e2, h⟩ := Option.bind_eq_some_iff.mp h
  refine ro_go (st' := [.int r1, .int (360 : Int32)]) (rV (rest := [.int (360 : Int32)]) F (c_X9_age D cA am s n p1 r1 e2 l) lk_X9_96 (Nat.le_of_ble_eq_true rfl) (preRO hK hP) (rcv hK hP (q0 := (0)) (mp_0 cA am s) rfl) rfl hl rfl (Nat.le_of_ble_eq_true rfl) (dd D_X9_rise 3 rfl) ⟨Nat.le_of_ble_eq_true rfl, Nat.le_of_ble_eq_true rfl⟩) rfl ?_
  refine lv_sipush (v := (1440 : Int32)) F.1 F.2.1 (dd D_X9_rise 4 rfl) ks_1440 ?_
  refine lv_imul F.1 F.2.1 (dd D_X9_rise 5 rfl) ?_
  refine lv_sipush (v := (2953 : Int32)) F.1 F.2.1 (dd D_X9_rise 6 rfl) ks_2953 ?_
  refine lv_idiv F.1 F.2.1 (dd D_X9_rise 7 rfl) kd_2953 ?_
  refine lv_iadd F.1 F.2.1 (dd D_X9_rise 8 rfl) ?_
  refine lv_iconst (v := (3 : Int32)) F.1 F.2.1 (dd D_X9_rise 9 rfl) ki_3 ?_
  refine lv_aload_n F.1 F.2.1 (dd D_X9_rise 10 rfl) rfl (lv_at hl 0 rfl) ?_
  refine lv_iload_n F.1 F.2.1 (dd D_X9_rise 11 rfl) rfl (lv_at hl 1 rfl) ?_
  obtain ⟨r3, e4, h⟩ := Option.bind_eq_some_iff.mp h
  refine ro_go (st' := [.int r3, .int (3 : Int32), .int ((360 : Int32) + ((r1 * (1440 : Int32)) / (2953 : Int32)))]) (rV (rest := [.int (3 : Int32), .int ((360 : Int32) + ((r1 * (1440 : Int32)) / (2953 : Int32)))]) F (c_X9_slantOf D cA am s n p1 r3 e4 l) lk_X9_227 (Nat.le_of_ble_eq_true rfl) (preRO hK hP) (rcv hK hP (q0 := (0)) (mp_0 cA am s) rfl) rfl hl rfl (Nat.le_of_ble_eq_true rfl) (dd D_X9_rise 12 rfl) ⟨Nat.le_of_ble_eq_true rfl, Nat.le_of_ble_eq_true rfl⟩) rfl ?_
  refine lv_imul F.1 F.2.1 (dd D_X9_rise 13 rfl) ?_
  refine lv_isub F.1 F.2.1 (dd D_X9_rise 14 rfl) ?_
  refine lv_sipush (v := (1440 : Int32)) F.1 F.2.1 (dd D_X9_rise 15 rfl) ks_1440 ?_
  refine ro_go (st' := [.int (F_X9_mod (((360 : Int32) + ((r1 * (1440 : Int32)) / (2953 : Int32))) - ((3 : Int32) * r3)) (1440 : Int32))]) (rS (rest := []) F (c_X9_mod D cA (((360 : Int32) + ((r1 * (1440 : Int32)) / (2953 : Int32))) - ((3 : Int32) * r3)) (1440 : Int32) kd_1440 l) lk_X9_230 (Nat.le_of_ble_eq_true rfl) (preRO hK (emP)) rfl hl rfl (Nat.le_of_ble_eq_true rfl) (dd D_X9_rise 16 rfl) ⟨Nat.le_of_ble_eq_true rfl, Nat.le_of_ble_eq_true rfl⟩) rfl ?_
  exact ro_i (R := rmOf 2 0 0) F hr hlk (congrArg (Option.map Value.int) h) (dd D_X9_rise 17 rfl)
