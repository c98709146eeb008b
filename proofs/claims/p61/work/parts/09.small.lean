def F_X8_isIn (p0 : Int32) (p1 : Int32) (p2 : Int32) : Bool := (if p0 < p1 then (false) else (if p2 < p0 then (false) else (true)))
set_option maxHeartbeats 4000000 in
set_option maxRecDepth 100000 in
theorem c_X8_isIn (D : va_G) (cA : Nat → ClassId)  (p0 : Int32) (p1 : Int32) (p2 : Int32) : RO m_X8_isIn 0 D cA [.int p0, .int p1, .int p2] [] (some (.int (bI (F_X8_isIn p0 p1 p2)))) := by
  obtain ⟨r, h⟩ : ∃ r, F_X8_isIn p0 p1 p2 = r := ⟨_, rfl⟩
  rw [h]
  refine RO.ofW gy_X8_isIn.2.2 (Nat.le_of_ble_eq_true rfl) ?_
  intro l p e sM m below meth c F hr hlk hK hP hS hAb ls hl
  have hl : lv_has ls 3 [(0, .int p0), (1, .int p1), (2, .int p2)] := hl
  unfold F_X8_isIn at h
  refine lv_iload_n F.1 F.2.1 (dd D_X8_isIn 0 rfl) rfl (lv_at hl 0 rfl) ?_
  refine lv_iload_n F.1 F.2.1 (dd D_X8_isIn 1 rfl) rfl (lv_at hl 1 rfl) ?_
  refine x_icmp_lt (tgt := 14) F.1 F.2.1 (dd D_X8_isIn 2 rfl) rfl h (fun c1 h => ?_) (fun c1 h => ?_)
  · refine lv_iconst (v := (0 : Int32)) F.1 F.2.1 (dd D_X8_isIn 8 rfl) ki_0 ?_
    exact ro_z (R := rmOf 0 0 0) F hr rfl hlk (congrArg (fun z => some (Value.int (bI z))) h) (dd D_X8_isIn 9 rfl)
  · refine lv_iload_n F.1 F.2.1 (dd D_X8_isIn 3 rfl) rfl (lv_at hl 0 rfl) ?_
    refine lv_iload_n F.1 F.2.1 (dd D_X8_isIn 4 rfl) rfl (lv_at hl 2 rfl) ?_
    refine x_icmp_gt (tgt := 14) F.1 F.2.1 (dd D_X8_isIn 5 rfl) rfl h (fun c2 h => ?_) (fun c2 h => ?_)
    · refine lv_iconst (v := (0 : Int32)) F.1 F.2.1 (dd D_X8_isIn 8 rfl) ki_0 ?_
      exact ro_z (R := rmOf 0 0 0) F hr rfl hlk (congrArg (fun z => some (Value.int (bI z))) h) (dd D_X8_isIn 9 rfl)
    · refine lv_iconst (v := (1 : Int32)) F.1 F.2.1 (dd D_X8_isIn 6 rfl) ki_1 ?_
      refine lv_goto (tgt := 15) F.1 F.2.1 (dd D_X8_isIn 7 rfl) rfl ?_
      exact ro_z (R := rmOf 0 0 0) F hr rfl hlk (congrArg (fun z => some (Value.int (bI z))) h) (dd D_X8_isIn 9 rfl)
def F_X8_isDay (p0 : Int32) : Bool := ((F_X8_isIn p0 (0 : Int32) (9999 : Int32)))
set_option maxHeartbeats 4000000 in
set_option maxRecDepth 100000 in
theorem c_X8_isDay (D : va_G) (cA : Nat → ClassId)  (p0 : Int32) : RO m_X8_isDay 1 D cA [.int p0] [] (some (.int (bI (F_X8_isDay p0)))) := by
  obtain ⟨r, h⟩ : ∃ r, F_X8_isDay p0 = r := ⟨_, rfl⟩
  rw [h]
  refine RO.ofW gy_X8_isDay.2.2 (Nat.le_of_ble_eq_true rfl) ?_
  intro l p e sM m below meth c F hr hlk hK hP hS hAb ls hl
  have hl : lv_has ls 1 [(0, .int p0)] := hl
  unfold F_X8_isDay at h
  refine lv_iload_n F.1 F.2.1 (dd D_X8_isDay 0 rfl) rfl (lv_at hl 0 rfl) ?_
  refine lv_iconst (v := (0 : Int32)) F.1 F.2.1 (dd D_X8_isDay 1 rfl) ki_0 ?_
  refine lv_sipush (v := (9999 : Int32)) F.1 F.2.1 (dd D_X8_isDay 2 rfl) ks_9999 ?_
  refine ro_go (st' := [.int (bI (F_X8_isIn p0 (0 : Int32) (9999 : Int32)))]) (rS (rest := []) F (c_X8_isIn D cA p0 (0 : Int32) (9999 : Int32) l) lk_X8_60 (Nat.le_of_ble_eq_true rfl) (preRO hK hS hAb (emP)) rfl hl rfl (Nat.le_of_ble_eq_true rfl) (dd D_X8_isDay 3 rfl) ⟨Nat.le_of_ble_eq_true rfl, Nat.le_of_ble_eq_true rfl⟩) rfl ?_
  exact ro_z (R := rmOf 1 0 0) F hr (bI_nar _) hlk (congrArg (fun z => some (Value.int (bI z))) h) (dd D_X8_isDay 4 rfl)
def F_X8_areDays (p0 : Int32) (p1 : Int32) : Bool := bf (F_X8_isDay p0) (bf (F_X8_isIn p1 (1 : Int32) (1000 : Int32)) ((true)) ((false))) ((false))
set_option maxHeartbeats 4000000 in
set_option maxRecDepth 100000 in
theorem c_X8_areDays (D : va_G) (cA : Nat → ClassId)  (p0 : Int32) (p1 : Int32) : RO m_X8_areDays 2 D cA [.int p0, .int p1] [] (some (.int (bI (F_X8_areDays p0 p1)))) := by
  obtain ⟨r, h⟩ : ∃ r, F_X8_areDays p0 p1 = r := ⟨_, rfl⟩
  rw [h]
  refine RO.ofW gy_X8_areDays.2.2 (Nat.le_of_ble_eq_true rfl) ?_
  intro l p e sM m below meth c F hr hlk hK hP hS hAb ls hl
  have hl : lv_has ls 2 [(0, .int p0), (1, .int p1)] := hl
  unfold F_X8_areDays at h
  refine lv_iload_n F.1 F.2.1 (dd D_X8_areDays 0 rfl) rfl (lv_at hl 0 rfl) ?_
  refine ro_go (st' := [.int (bI (F_X8_isDay p0))]) (rS (rest := []) F (c_X8_isDay D cA p0 l) lk_X8_113 (Nat.le_of_ble_eq_true rfl) (preRO hK hS hAb (emP)) rfl hl rfl (Nat.le_of_ble_eq_true rfl) (dd D_X8_areDays 1 rfl) ⟨Nat.le_of_ble_eq_true rfl, Nat.le_of_ble_eq_true rfl⟩) rfl ?_
  refine x_bif_eq (tgt := 22) F.1 F.2.1 (dd D_X8_areDays 2 rfl) rfl h (fun c2 h => ?_) (fun c2 h => ?_)
  · refine lv_iconst (v := (0 : Int32)) F.1 F.2.1 (dd D_X8_areDays 10 rfl) ki_0 ?_
    exact ro_z (R := rmOf 2 0 0) F hr rfl hlk (congrArg (fun z => some (Value.int (bI z))) h) (dd D_X8_areDays 11 rfl)
  · refine lv_iload_n F.1 F.2.1 (dd D_X8_areDays 3 rfl) rfl (lv_at hl 1 rfl) ?_
    refine lv_iconst (v := (1 : Int32)) F.1 F.2.1 (dd D_X8_areDays 4 rfl) ki_1 ?_
    refine lv_sipush (v := (1000 : Int32)) F.1 F.2.1 (dd D_X8_areDays 5 rfl) ks_1000 ?_
    refine ro_go (st' := [.int (bI (F_X8_isIn p1 (1 : Int32) (1000 : Int32)))]) (rS (rest := []) F (c_X8_isIn D cA p1 (1 : Int32) (1000 : Int32) l) lk_X8_60 (Nat.le_of_ble_eq_true rfl) (preRO hK hS hAb (emP)) rfl hl rfl (Nat.le_of_ble_eq_true rfl) (dd D_X8_areDays 6 rfl) ⟨Nat.le_of_ble_eq_true rfl, Nat.le_of_ble_eq_true rfl⟩) rfl ?_
    refine x_bif_eq (tgt := 22) F.1 F.2.1 (dd D_X8_areDays 7 rfl) rfl h (fun c1 h => ?_) (fun c1 h => ?_)
    · refine lv_iconst (v := (0 : Int32)) F.1 F.2.1 (dd D_X8_areDays 10 rfl) ki_0 ?_
      exact ro_z (R := rmOf 2 0 0) F hr rfl hlk (congrArg (fun z => some (Value.int (bI z))) h) (dd D_X8_areDays 11 rfl)
    · refine lv_iconst (v := (1 : Int32)) F.1 F.2.1 (dd D_X8_areDays 8 rfl) ki_1 ?_
      refine lv_goto (tgt := 23) F.1 F.2.1 (dd D_X8_areDays 9 rfl) rfl ?_
      exact ro_z (R := rmOf 2 0 0) F hr rfl hlk (congrArg (fun z => some (Value.int (bI z))) h) (dd D_X8_areDays 11 rfl)
def F_X8_areMinutes (p0 : Int32) (p1 : Int32) : Bool := bf (F_X8_isIn p0 (0 : Int32) (1439 : Int32)) (bf (F_X8_isIn p1 p0 (1439 : Int32)) ((true)) ((false))) ((false))
set_option maxHeartbeats 4000000 in
set_option maxRecDepth 100000 in
theorem c_X8_areMinutes (D : va_G) (cA : Nat → ClassId)  (p0 : Int32) (p1 : Int32) : RO m_X8_areMinutes 1 D cA [.int p0, .int p1] [] (some (.int (bI (F_X8_areMinutes p0 p1)))) := by
  obtain ⟨r, h⟩ : ∃ r, F_X8_areMinutes p0 p1 = r := ⟨_, rfl⟩
  rw [h]
  refine RO.ofW gy_X8_areMinutes.2.2 (Nat.le_of_ble_eq_true rfl) ?_
  intro l p e sM m below meth c F hr hlk hK hP hS hAb ls hl
  have hl : lv_has ls 2 [(0, .int p0), (1, .int p1)] := hl
  unfold F_X8_areMinutes at h
  refine lv_iload_n F.1 F.2.1 (dd D_X8_areMinutes 0 rfl) rfl (lv_at hl 0 rfl) ?_
  refine lv_iconst (v := (0 : Int32)) F.1 F.2.1 (dd D_X8_areMinutes 1 rfl) ki_0 ?_
  refine lv_sipush (v := (1439 : Int32)) F.1 F.2.1 (dd D_X8_areMinutes 2 rfl) ks_1439 ?_
  refine ro_go (st' := [.int (bI (F_X8_isIn p0 (0 : Int32) (1439 : Int32)))]) (rS (rest := []) F (c_X8_isIn D cA p0 (0 : Int32) (1439 : Int32) l) lk_X8_60 (Nat.le_of_ble_eq_true rfl) (preRO hK hS hAb (emP)) rfl hl rfl (Nat.le_of_ble_eq_true rfl) (dd D_X8_areMinutes 3 rfl) ⟨Nat.le_of_ble_eq_true rfl, Nat.le_of_ble_eq_true rfl⟩) rfl ?_
  refine x_bif_eq (tgt := 26) F.1 F.2.1 (dd D_X8_areMinutes 4 rfl) rfl h (fun c2 h => ?_) (fun c2 h => ?_)
  · refine lv_iconst (v := (0 : Int32)) F.1 F.2.1 (dd D_X8_areMinutes 12 rfl) ki_0 ?_
    exact ro_z (R := rmOf 1 0 0) F hr rfl hlk (congrArg (fun z => some (Value.int (bI z))) h) (dd D_X8_areMinutes 13 rfl)
  · refine lv_iload_n F.1 F.2.1 (dd D_X8_areMinutes 5 rfl) rfl (lv_at hl 1 rfl) ?_
    refine lv_iload_n F.1 F.2.1 (dd D_X8_areMinutes 6 rfl) rfl (lv_at hl 0 rfl) ?_
    refine lv_sipush (v := (1439 : Int32)) F.1 F.2.1 (dd D_X8_areMinutes 7 rfl) ks_1439 ?_
    refine ro_go (st' := [.int (bI (F_X8_isIn p1 p0 (1439 : Int32)))]) (rS (rest := []) F (c_X8_isIn D cA p1 p0 (1439 : Int32) l) lk_X8_60 (Nat.le_of_ble_eq_true rfl) (preRO hK hS hAb (emP)) rfl hl rfl (Nat.le_of_ble_eq_true rfl) (dd D_X8_areMinutes 8 rfl) ⟨Nat.le_of_ble_eq_true rfl, Nat.le_of_ble_eq_true rfl⟩) rfl ?_
    refine x_bif_eq (tgt := 26) F.1 F.2.1 (dd D_X8_areMinutes 9 rfl) rfl h (fun c1 h => ?_) (fun c1 h => ?_)
    · refine lv_iconst (v := (0 : Int32)) F.1 F.2.1 (dd D_X8_areMinutes 12 rfl) ki_0 ?_
      exact ro_z (R := rmOf 1 0 0) F hr rfl hlk (congrArg (fun z => some (Value.int (bI z))) h) (dd D_X8_areMinutes 13 rfl)
    · refine lv_iconst (v := (1 : Int32)) F.1 F.2.1 (dd D_X8_areMinutes 10 rfl) ki_1 ?_
      refine lv_goto (tgt := 27) F.1 F.2.1 (dd D_X8_areMinutes 11 rfl) rfl ?_
      exact ro_z (R := rmOf 1 0 0) F hr rfl hlk (congrArg (fun z => some (Value.int (bI z))) h) (dd D_X8_areMinutes 13 rfl)
def F_X8_isKind (p0 : Int32) : Bool := ((F_X8_isIn p0 (0 : Int32) (5 : Int32)))
set_option maxHeartbeats 4000000 in
set_option maxRecDepth 100000 in
theorem c_X8_isKind (D : va_G) (cA : Nat → ClassId)  (p0 : Int32) : RO m_X8_isKind 1 D cA [.int p0] [] (some (.int (bI (F_X8_isKind p0)))) := by
  obtain ⟨r, h⟩ : ∃ r, F_X8_isKind p0 = r := ⟨_, rfl⟩
  rw [h]
  refine RO.ofW gy_X8_isKind.2.2 (Nat.le_of_ble_eq_true rfl) ?_
  intro l p e sM m below meth c F hr hlk hK hP hS hAb ls hl
  have hl : lv_has ls 1 [(0, .int p0)] := hl
  unfold F_X8_isKind at h
  refine lv_iload_n F.1 F.2.1 (dd D_X8_isKind 0 rfl) rfl (lv_at hl 0 rfl) ?_
  refine lv_iconst (v := (0 : Int32)) F.1 F.2.1 (dd D_X8_isKind 1 rfl) ki_0 ?_
  refine lv_iconst (v := (5 : Int32)) F.1 F.2.1 (dd D_X8_isKind 2 rfl) ki_5 ?_
  refine ro_go (st' := [.int (bI (F_X8_isIn p0 (0 : Int32) (5 : Int32)))]) (rS (rest := []) F (c_X8_isIn D cA p0 (0 : Int32) (5 : Int32) l) lk_X8_60 (Nat.le_of_ble_eq_true rfl) (preRO hK hS hAb (emP)) rfl hl rfl (Nat.le_of_ble_eq_true rfl) (dd D_X8_isKind 3 rfl) ⟨Nat.le_of_ble_eq_true rfl, Nat.le_of_ble_eq_true rfl⟩) rfl ?_
  exact ro_z (R := rmOf 1 0 0) F hr (bI_nar _) hlk (congrArg (fun z => some (Value.int (bI z))) h) (dd D_X8_isKind 4 rfl)
def F_X8_isUnder (p0 : Int32) (p1 : Int32) : Bool := (if p1 = 0 then (true) else (if p0 = p1 then (true) else (if p1 = (1 : Int32) then (if p0 = (2 : Int32) then (true) else (if p0 = (5 : Int32) then (true) else (false))) else (false))))
set_option maxHeartbeats 4000000 in
set_option maxRecDepth 100000 in
theorem c_X8_isUnder (D : va_G) (cA : Nat → ClassId)  (p0 : Int32) (p1 : Int32) : RO m_X8_isUnder 0 D cA [.int p0, .int p1] [] (some (.int (bI (F_X8_isUnder p0 p1)))) := by
  obtain ⟨r, h⟩ : ∃ r, F_X8_isUnder p0 p1 = r := ⟨_, rfl⟩
  rw [h]
  refine RO.ofW gy_X8_isUnder.2.2 (Nat.le_of_ble_eq_true rfl) ?_
  intro l p e sM m below meth c F hr hlk hK hP hS hAb ls hl
  have hl : lv_has ls 2 [(0, .int p0), (1, .int p1)] := hl
  unfold F_X8_isUnder at h
  refine lv_iload_n F.1 F.2.1 (dd D_X8_isUnder 0 rfl) rfl (lv_at hl 1 rfl) ?_
  refine x_if_eq (tgt := 24) F.1 F.2.1 (dd D_X8_isUnder 1 rfl) rfl h (fun c1 h => ?_) (fun c1 h => ?_)
  · refine lv_iconst (v := (1 : Int32)) F.1 F.2.1 (dd D_X8_isUnder 14 rfl) ki_1 ?_
    refine lv_goto (tgt := 29) F.1 F.2.1 (dd D_X8_isUnder 15 rfl) rfl ?_
    exact ro_z (R := rmOf 0 0 0) F hr rfl hlk (congrArg (fun z => some (Value.int (bI z))) h) (dd D_X8_isUnder 17 rfl)
  · refine lv_iload_n F.1 F.2.1 (dd D_X8_isUnder 2 rfl) rfl (lv_at hl 0 rfl) ?_
    refine lv_iload_n F.1 F.2.1 (dd D_X8_isUnder 3 rfl) rfl (lv_at hl 1 rfl) ?_
    refine x_icmp_eq (tgt := 24) F.1 F.2.1 (dd D_X8_isUnder 4 rfl) rfl h (fun c2 h => ?_) (fun c2 h => ?_)
    · refine lv_iconst (v := (1 : Int32)) F.1 F.2.1 (dd D_X8_isUnder 14 rfl) ki_1 ?_
      refine lv_goto (tgt := 29) F.1 F.2.1 (dd D_X8_isUnder 15 rfl) rfl ?_
      exact ro_z (R := rmOf 0 0 0) F hr rfl hlk (congrArg (fun z => some (Value.int (bI z))) h) (dd D_X8_isUnder 17 rfl)
    · refine lv_iload_n F.1 F.2.1 (dd D_X8_isUnder 5 rfl) rfl (lv_at hl 1 rfl) ?_
      refine lv_iconst (v := (1 : Int32)) F.1 F.2.1 (dd D_X8_isUnder 6 rfl) ki_1 ?_
      refine x_icmp_ne (tgt := 28) F.1 F.2.1 (dd D_X8_isUnder 7 rfl) rfl h (fun c3 h => ?_) (fun c3 h => ?_)
      · refine lv_iconst (v := (0 : Int32)) F.1 F.2.1 (dd D_X8_isUnder 16 rfl) ki_0 ?_
        exact ro_z (R := rmOf 0 0 0) F hr rfl hlk (congrArg (fun z => some (Value.int (bI z))) h) (dd D_X8_isUnder 17 rfl)
      · refine lv_iload_n F.1 F.2.1 (dd D_X8_isUnder 8 rfl) rfl (lv_at hl 0 rfl) ?_
        refine lv_iconst (v := (2 : Int32)) F.1 F.2.1 (dd D_X8_isUnder 9 rfl) ki_2 ?_
        refine x_icmp_eq (tgt := 24) F.1 F.2.1 (dd D_X8_isUnder 10 rfl) rfl h (fun c4 h => ?_) (fun c4 h => ?_)
        · refine lv_iconst (v := (1 : Int32)) F.1 F.2.1 (dd D_X8_isUnder 14 rfl) ki_1 ?_
          refine lv_goto (tgt := 29) F.1 F.2.1 (dd D_X8_isUnder 15 rfl) rfl ?_
          exact ro_z (R := rmOf 0 0 0) F hr rfl hlk (congrArg (fun z => some (Value.int (bI z))) h) (dd D_X8_isUnder 17 rfl)
        · refine lv_iload_n F.1 F.2.1 (dd D_X8_isUnder 11 rfl) rfl (lv_at hl 0 rfl) ?_
          refine lv_iconst (v := (5 : Int32)) F.1 F.2.1 (dd D_X8_isUnder 12 rfl) ki_5 ?_
          refine x_icmp_ne (tgt := 28) F.1 F.2.1 (dd D_X8_isUnder 13 rfl) rfl h (fun c5 h => ?_) (fun c5 h => ?_)
          · refine lv_iconst (v := (0 : Int32)) F.1 F.2.1 (dd D_X8_isUnder 16 rfl) ki_0 ?_
            exact ro_z (R := rmOf 0 0 0) F hr rfl hlk (congrArg (fun z => some (Value.int (bI z))) h) (dd D_X8_isUnder 17 rfl)
          · refine lv_iconst (v := (1 : Int32)) F.1 F.2.1 (dd D_X8_isUnder 14 rfl) ki_1 ?_
            refine lv_goto (tgt := 29) F.1 F.2.1 (dd D_X8_isUnder 15 rfl) rfl ?_
            exact ro_z (R := rmOf 0 0 0) F hr rfl hlk (congrArg (fun z => some (Value.int (bI z))) h) (dd D_X8_isUnder 17 rfl)
def F_J9_max_7cf53 (p0 : Int32) (p1 : Int32) : Int32 := (if p0 < p1 then (p1) else (p0))
set_option maxHeartbeats 4000000 in
set_option maxRecDepth 100000 in
theorem c_J9_max_7cf53 (D : va_G) (cA : Nat → ClassId)  (p0 : Int32) (p1 : Int32) : RO m_J9_max_7cf53 0 D cA [.int p0, .int p1] [] (some (.int (F_J9_max_7cf53 p0 p1))) := by
  obtain ⟨r, h⟩ : ∃ r, F_J9_max_7cf53 p0 p1 = r := ⟨_, rfl⟩
  rw [h]
  refine RO.ofW gy_J9_max_7cf53.2.2 (Nat.le_of_ble_eq_true rfl) ?_
  intro l p e sM m below meth c F hr hlk hK hP hS hAb ls hl
  have hl : lv_has ls 2 [(0, .int p0), (1, .int p1)] := hl
  unfold F_J9_max_7cf53 at h
  refine lv_iload_n F.1 F.2.1 (dd D_J9_max_7cf53 0 rfl) rfl (lv_at hl 0 rfl) ?_
  refine lv_iload_n F.1 F.2.1 (dd D_J9_max_7cf53 1 rfl) rfl (lv_at hl 1 rfl) ?_
  refine x_icmp_lt (tgt := 9) F.1 F.2.1 (dd D_J9_max_7cf53 2 rfl) rfl h (fun c1 h => ?_) (fun c1 h => ?_)
  · refine lv_iload_n F.1 F.2.1 (dd D_J9_max_7cf53 5 rfl) rfl (lv_at hl 1 rfl) ?_
    exact ro_i (R := rmOf 0 0 0) F hr hlk (congrArg (fun z => some (Value.int z)) h) (dd D_J9_max_7cf53 6 rfl)
  · refine lv_iload_n F.1 F.2.1 (dd D_J9_max_7cf53 3 rfl) rfl (lv_at hl 0 rfl) ?_
    refine lv_goto (tgt := 10) F.1 F.2.1 (dd D_J9_max_7cf53 4 rfl) rfl ?_
    exact ro_i (R := rmOf 0 0 0) F hr hlk (congrArg (fun z => some (Value.int z)) h) (dd D_J9_max_7cf53 6 rfl)
def F_X0_count (rm : Nat) (s : FW) : Int32 := ((fw_n s))
set_option maxHeartbeats 4000000 in
set_option maxRecDepth 100000 in
theorem c_X0_count (D : va_G) (cA : Nat → ClassId) (rm : Nat) (a : Nat → Nat) (s : FW)  : RO m_X0_count 0 D cA [.ref (a 0)] (fewW cA rm a s) (some (.int (F_X0_count rm s))) := by
  obtain ⟨r, h⟩ : ∃ r, F_X0_count rm s = r := ⟨_, rfl⟩
  rw [h]
  refine RO.ofW gy_X0_count.2.2 (Nat.le_of_ble_eq_true rfl) ?_
  intro l p e sM m below meth c F hr hlk hK hP hS hAb ls hl
  have hl : lv_has ls 1 [(0, .ref (a 0))] := hl
  unfold F_X0_count at h
  refine lv_aload_n F.1 F.2.1 (dd D_X0_count 0 rfl) rfl (lv_at hl 0 rfl) ?_
  refine getF F hK hP lf_X0_21 (0) rfl rfl (dd D_X0_count 1 rfl) ?_
  exact ro_i (R := rmOf 0 0 0) F hr hlk (congrArg (fun z => some (Value.int z)) h) (dd D_X0_count 2 rfl)
def F_X0_isFull (rm : Nat) (s : FW) : Bool := (if (fw_n s) < (Int32.ofNat rm) then (false) else (true))
set_option maxHeartbeats 4000000 in
set_option maxRecDepth 100000 in
theorem c_X0_isFull (D : va_G) (cA : Nat → ClassId) (rm : Nat) (a : Nat → Nat) (s : FW)  : RO m_X0_isFull 0 D cA [.ref (a 0)] (fewW cA rm a s) (some (.int (bI (F_X0_isFull rm s)))) := by
  obtain ⟨r, h⟩ : ∃ r, F_X0_isFull rm s = r := ⟨_, rfl⟩
  rw [h]
  refine RO.ofW gy_X0_isFull.2.2 (Nat.le_of_ble_eq_true rfl) ?_
  intro l p e sM m below meth c F hr hlk hK hP hS hAb ls hl
  have hl : lv_has ls 1 [(0, .ref (a 0))] := hl
  unfold F_X0_isFull at h
  refine lv_aload_n F.1 F.2.1 (dd D_X0_isFull 0 rfl) rfl (lv_at hl 0 rfl) ?_
  refine getF F hK hP lf_X0_21 (0) rfl rfl (dd D_X0_isFull 1 rfl) ?_
  refine lv_aload_n F.1 F.2.1 (dd D_X0_isFull 2 rfl) rfl (lv_at hl 0 rfl) ?_
  refine getF F hK hP lf_X0_15 (0) rfl rfl (dd D_X0_isFull 3 rfl) ?_
  refine alen F hK hP (1) 0 rfl rfl (v := (Int32.ofNat rm)) rfl (dd D_X0_isFull 4 rfl) ?_
  refine x_icmp_lt (tgt := 16) F.1 F.2.1 (dd D_X0_isFull 5 rfl) rfl h (fun c1 h => ?_) (fun c1 h => ?_)
  · refine lv_iconst (v := (0 : Int32)) F.1 F.2.1 (dd D_X0_isFull 8 rfl) ki_0 ?_
    exact ro_z (R := rmOf 0 0 0) F hr rfl hlk (congrArg (fun z => some (Value.int (bI z))) h) (dd D_X0_isFull 9 rfl)
  · refine lv_iconst (v := (1 : Int32)) F.1 F.2.1 (dd D_X0_isFull 6 rfl) ki_1 ?_
    refine lv_goto (tgt := 17) F.1 F.2.1 (dd D_X0_isFull 7 rfl) rfl ?_
    exact ro_z (R := rmOf 0 0 0) F hr rfl hlk (congrArg (fun z => some (Value.int (bI z))) h) (dd D_X0_isFull 9 rfl)
def F_X0_add (n : Nat) (rm : Nat) (s : FW) (p1 : Int32) : Option FW := (if (fw_n s) < 0 then some s else (if (Int32.ofNat rm) ≤ (fw_n s) then some s else gd (inb (fw_n s) rm) (some (fw_set_n (fw_set_it s (upd (fw_it s) (Int32.toNatClampNeg (fw_n s)) p1)) ((fw_n (fw_set_it s (upd (fw_it s) (Int32.toNatClampNeg (fw_n s)) p1))) + (1 : Int32))))))
set_option maxHeartbeats 4000000 in
set_option maxRecDepth 100000 in
theorem c_X0_add (D : va_G) (cA : Nat → ClassId) (rm : Nat) (a : Nat → Nat) (s : FW) (n : Nat) (p1 : Int32) (r : FW) (h : F_X0_add n rm s p1 = some r) : RW m_X0_add 0 0 0 D cA [.ref (a 0), .int p1] (fewW cA rm a s) (exq (none) (fewW cA rm a r)) := by
  refine RW.ofW gy_X0_add.2.2 (Nat.le_of_ble_eq_true rfl) ?_
  intro l p e sM m below meth c A H locs F hr hlk hnm hK hP hD hS hA hAb ls hl
  have hl : lv_has ls 2 [(0, .ref (a 0)), (1, .int p1)] := hl
  unfold F_X0_add at h
  refine lv_aload_n F.1 F.2.1 (dd D_X0_add 0 rfl) rfl (lv_at hl 0 rfl) ?_
  refine getF F hK hP lf_X0_21 (0) rfl rfl (dd D_X0_add 1 rfl) ?_
  refine x_if_lt (tgt := 39) F.1 F.2.1 (dd D_X0_add 2 rfl) rfl h (fun c1 h => ?_) (fun c1 h => ?_)
  · obtain rfl := Option.some.inj h
    exact rw_v (R := rmOf 0 0 0) F hP hD hS hr hlk ⟨Nat.le_of_ble_eq_true rfl, Nat.le_of_ble_eq_true rfl⟩ ⟨rfl, rfl⟩ (dd D_X0_add 21 rfl)
  · refine lv_aload_n F.1 F.2.1 (dd D_X0_add 3 rfl) rfl (lv_at hl 0 rfl) ?_
    refine getF F hK hP lf_X0_21 (0) rfl rfl (dd D_X0_add 4 rfl) ?_
    refine lv_aload_n F.1 F.2.1 (dd D_X0_add 5 rfl) rfl (lv_at hl 0 rfl) ?_
    refine getF F hK hP lf_X0_15 (0) rfl rfl (dd D_X0_add 6 rfl) ?_
    refine alen F hK hP (1) 0 rfl rfl (v := (Int32.ofNat rm)) rfl (dd D_X0_add 7 rfl) ?_
    refine x_icmp_ge (tgt := 39) F.1 F.2.1 (dd D_X0_add 8 rfl) rfl h (fun c2 h => ?_) (fun c2 h => ?_)
    · obtain rfl := Option.some.inj h
      exact rw_v (R := rmOf 0 0 0) F hP hD hS hr hlk ⟨Nat.le_of_ble_eq_true rfl, Nat.le_of_ble_eq_true rfl⟩ ⟨rfl, rfl⟩ (dd D_X0_add 21 rfl)
    · refine lv_aload_n F.1 F.2.1 (dd D_X0_add 9 rfl) rfl (lv_at hl 0 rfl) ?_
      refine getF F hK hP lf_X0_15 (0) rfl rfl (dd D_X0_add 10 rfl) ?_
      refine lv_aload_n F.1 F.2.1 (dd D_X0_add 11 rfl) rfl (lv_at hl 0 rfl) ?_
      refine getF F hK hP lf_X0_21 (0) rfl rfl (dd D_X0_add 12 rfl) ?_
      refine lv_iload_n F.1 F.2.1 (dd D_X0_add 13 rfl) rfl (lv_at hl 1 rfl) ?_
      refine astI F hK hP hD hS (1) rfl h (ws' := (fewW cA rm a (fw_set_it s (upd (fw_it s) (Int32.toNatClampNeg (fw_n s)) p1)))) (fs_1 cA rm a s (upd (fw_it s) (Int32.toNatClampNeg (fw_n s)) p1)) (dd D_X0_add 14 rfl) (fun z3 h H locs hP hD hS => ?_)
      refine lv_aload_n F.1 F.2.1 (dd D_X0_add 15 rfl) rfl (lv_at hl 0 rfl) ?_
      refine lv_dup F.1 F.2.1 (dd D_X0_add 16 rfl) rfl ?_
      refine getF F hK hP lf_X0_21 (0) rfl rfl (dd D_X0_add 17 rfl) ?_
      refine lv_iconst (v := (1 : Int32)) F.1 F.2.1 (dd D_X0_add 18 rfl) ki_1 ?_
      refine lv_iadd F.1 F.2.1 (dd D_X0_add 19 rfl) ?_
      refine putF F hK hP hD hS lp_X0_21 (0) rfl (Nat.le_of_ble_eq_true rfl) (nar_int _) (fit_int _) (ws' := (fewW cA rm a (fw_set_n (fw_set_it s (upd (fw_it s) (Int32.toNatClampNeg (fw_n s)) p1)) ((fw_n (fw_set_it s (upd (fw_it s) (Int32.toNatClampNeg (fw_n s)) p1))) + (1 : Int32))))) (fs_0_1 cA rm a (fw_set_it s (upd (fw_it s) (Int32.toNatClampNeg (fw_n s)) p1)) ((fw_n (fw_set_it s (upd (fw_it s) (Int32.toNatClampNeg (fw_n s)) p1))) + (1 : Int32))) (dd D_X0_add 20 rfl) (fun H locs hP hD hS => ?_)
      obtain rfl := Option.some.inj h
      exact rw_v (R := rmOf 0 0 0) F hP hD hS hr hlk ⟨Nat.le_of_ble_eq_true rfl, Nat.le_of_ble_eq_true rfl⟩ ⟨rfl, rfl⟩ (dd D_X0_add 21 rfl)
def F_X0_at (n : Nat) (rm : Nat) (s : FW) (p1 : Int32) : Option Int32 := (if p1 < 0 then some ((-1 : Int32)) else (if (fw_n s) ≤ p1 then some ((-1 : Int32)) else (if (Int32.ofNat rm) ≤ p1 then some ((-1 : Int32)) else gd (inb p1 rm) (some (((fw_it s) (Int32.toNatClampNeg p1)))))))
set_option maxHeartbeats 4000000 in
set_option maxRecDepth 100000 in
theorem c_X0_at (D : va_G) (cA : Nat → ClassId) (rm : Nat) (a : Nat → Nat) (s : FW) (n : Nat) (p1 : Int32) (r : Int32) (h : F_X0_at n rm s p1 = some r) : RO m_X0_at 0 D cA [.ref (a 0), .int p1] (fewW cA rm a s) (some (.int r)) := by
  refine RO.ofW gy_X0_at.2.2 (Nat.le_of_ble_eq_true rfl) ?_
  intro l p e sM m below meth c F hr hlk hK hP hS hAb ls hl
  have hl : lv_has ls 2 [(0, .ref (a 0)), (1, .int p1)] := hl
  unfold F_X0_at at h
  refine lv_iload_n F.1 F.2.1 (dd D_X0_at 0 rfl) rfl (lv_at hl 1 rfl) ?_
  refine x_if_lt (tgt := 30) F.1 F.2.1 (dd D_X0_at 1 rfl) rfl h (fun c1 h => ?_) (fun c1 h => ?_)
  · refine lv_iconst (v := (-1 : Int32)) F.1 F.2.1 (dd D_X0_at 16 rfl) ki_m1 ?_
    exact ro_i (R := rmOf 0 0 0) F hr hlk (congrArg (Option.map Value.int) h) (dd D_X0_at 17 rfl)
  · refine lv_iload_n F.1 F.2.1 (dd D_X0_at 2 rfl) rfl (lv_at hl 1 rfl) ?_
    refine lv_aload_n F.1 F.2.1 (dd D_X0_at 3 rfl) rfl (lv_at hl 0 rfl) ?_
    refine getF F hK hP lf_X0_21 (0) rfl rfl (dd D_X0_at 4 rfl) ?_
    refine x_icmp_ge (tgt := 30) F.1 F.2.1 (dd D_X0_at 5 rfl) rfl h (fun c2 h => ?_) (fun c2 h => ?_)
    · refine lv_iconst (v := (-1 : Int32)) F.1 F.2.1 (dd D_X0_at 16 rfl) ki_m1 ?_
      exact ro_i (R := rmOf 0 0 0) F hr hlk (congrArg (Option.map Value.int) h) (dd D_X0_at 17 rfl)
    · refine lv_iload_n F.1 F.2.1 (dd D_X0_at 6 rfl) rfl (lv_at hl 1 rfl) ?_
      refine lv_aload_n F.1 F.2.1 (dd D_X0_at 7 rfl) rfl (lv_at hl 0 rfl) ?_
      refine getF F hK hP lf_X0_15 (0) rfl rfl (dd D_X0_at 8 rfl) ?_
      refine alen F hK hP (1) 0 rfl rfl (v := (Int32.ofNat rm)) rfl (dd D_X0_at 9 rfl) ?_
      refine x_icmp_ge (tgt := 30) F.1 F.2.1 (dd D_X0_at 10 rfl) rfl h (fun c3 h => ?_) (fun c3 h => ?_)
      · refine lv_iconst (v := (-1 : Int32)) F.1 F.2.1 (dd D_X0_at 16 rfl) ki_m1 ?_
        exact ro_i (R := rmOf 0 0 0) F hr hlk (congrArg (Option.map Value.int) h) (dd D_X0_at 17 rfl)
      · refine lv_aload_n F.1 F.2.1 (dd D_X0_at 11 rfl) rfl (lv_at hl 0 rfl) ?_
        refine getF F hK hP lf_X0_15 (0) rfl rfl (dd D_X0_at 12 rfl) ?_
        refine lv_iload_n F.1 F.2.1 (dd D_X0_at 13 rfl) rfl (lv_at hl 1 rfl) ?_
        refine aldI F hK hP (1) rfl h (dd D_X0_at 14 rfl) (fun z4 h => ?_)
        refine lv_goto (tgt := 31) F.1 F.2.1 (dd D_X0_at 15 rfl) rfl ?_
        exact ro_i (R := rmOf 0 0 0) F hr hlk (congrArg (Option.map Value.int) h) (dd D_X0_at 17 rfl)
def F_X0_contains_L2 (n : Nat) (rm : Nat) (u0 : FW) (v1 : Int32) : Nat → Int32 → Option Bool
  | 0, _ => none
  | kf + 1, w2 => (if (fw_n u0) ≤ w2 then some (false) else (((F_X0_at n rm u0 w2)).bind fun r2 => (if r2 = v1 then some (true) else F_X0_contains_L2 n rm u0 v1 kf (w2 + (1 : Int32)))))
def F_X0_contains (n : Nat) (rm : Nat) (s : FW) (p1 : Int32) : Option Bool := F_X0_contains_L2 n rm s p1 n (0 : Int32)
set_option maxHeartbeats 4000000 in
set_option maxRecDepth 100000 in
theorem c_X0_contains (D : va_G) (cA : Nat → ClassId) (rm : Nat) (a : Nat → Nat) (s : FW) (n : Nat) (p1 : Int32) (r : Bool) (h : F_X0_contains n rm s p1 = some r) : RO m_X0_contains 1 D cA [.ref (a 0), .int p1] (fewW cA rm a s) (some (.int (bI r))) := by
  refine RO.ofW gy_X0_contains.2.2 (Nat.le_of_ble_eq_true rfl) ?_
  intro l p e sM m below meth c F hr hlk hK hP hS hAb ls hl
  have hl : lv_has ls 3 [(0, .ref (a 0)), (1, .int p1)] := hl
  unfold F_X0_contains at h
  refine lv_iconst (v := (0 : Int32)) F.1 F.2.1 (dd D_X0_contains 0 rfl) ki_0 ?_
  refine lv_istore_n (lv' := [(2, .int (0 : Int32)), (0, .ref (a 0)), (1, .int p1)]) F.1 F.2.1 (dd D_X0_contains 1 rfl) rfl hl (Nat.le_of_ble_eq_true rfl) rfl (fun ls hl => ?_)
  have L5 : ∀ (kf : Nat) (w2_L5 : Int32) (ls : Array Slot), lv_has ls 3 [(0, .ref (a 0)), (1, .int p1), (2, .int w2_L5)] → F_X0_contains_L2 n rm s p1 kf w2_L5 = some r → Wro 1 (some (.int (bI r))) p l e sM m ([.ref (a 0), .int p1] : List Value).toArray below meth c 2 ls [] := by
    intro kf
    induction kf with
    | zero =>
      intro w2_L5 ls hl h
      cases (show none = some r from h)
    | succ k_L5 ih_L5 =>
      intro w2_L5 ls hl h
      unfold F_X0_contains_L2 at h
      refine lv_iload_n F.1 F.2.1 (dd D_X0_contains 2 rfl) rfl (lv_at hl 2 rfl) ?_
      refine lv_aload_n F.1 F.2.1 (dd D_X0_contains 3 rfl) rfl (lv_at hl 0 rfl) ?_
      refine getF F hK hP lf_X0_21 (0) rfl rfl (dd D_X0_contains 4 rfl) ?_
      refine x_icmp_ge (tgt := 27) F.1 F.2.1 (dd D_X0_contains 5 rfl) rfl h (fun c6 h => ?_) (fun c6 h => ?_)
      · refine lv_iconst (v := (0 : Int32)) F.1 F.2.1 (dd D_X0_contains 15 rfl) ki_0 ?_
        exact ro_z (R := rmOf 1 0 0) F hr rfl hlk (congrArg (Option.map fun z => Value.int (bI z)) h) (dd D_X0_contains 16 rfl)
      · refine lv_aload_n F.1 F.2.1 (dd D_X0_contains 6 rfl) rfl (lv_at hl 0 rfl) ?_
        refine lv_iload_n F.1 F.2.1 (dd D_X0_contains 7 rfl) rfl (lv_at hl 2 rfl) ?_
        obtain ⟨r7, e8, h⟩ := Option.bind_eq_some_iff.mp h
        refine ro_go (st' := [.int r7]) (rV (rest := []) F (c_X0_at D cA rm a s n w2_L5 r7 e8 l) lk_X0_25 (Nat.le_of_ble_eq_true rfl) (preRO hK hS hAb hP) (rcv_0 hK hP (q0 := (0)) rfl) rfl hl rfl (Nat.le_of_ble_eq_true rfl) (dd D_X0_contains 8 rfl) ⟨Nat.le_of_ble_eq_true rfl, Nat.le_of_ble_eq_true rfl⟩) rfl ?_
        refine lv_iload_n F.1 F.2.1 (dd D_X0_contains 9 rfl) rfl (lv_at hl 1 rfl) ?_
        refine x_icmp_ne (tgt := 21) F.1 F.2.1 (dd D_X0_contains 10 rfl) rfl h (fun c9 h => ?_) (fun c9 h => ?_)
        · refine lv_iinc (v := (w2_L5 + (1 : Int32))) (lv' := [(2, .int (w2_L5 + (1 : Int32))), (0, .ref (a 0)), (1, .int p1)]) F.1 F.2.1 (dd D_X0_contains 13 rfl) hl (k := 2) rfl (congrArg (fun z => w2_L5 + z) ki_1) (Nat.le_of_ble_eq_true rfl) rfl (fun ls hl => ?_)
          refine lv_goto (tgt := 2) F.1 F.2.1 (dd D_X0_contains 14 rfl) rfl ?_
          exact ih_L5 (w2_L5 + (1 : Int32)) ls (lv_sub hl [1, 2, 0] rfl) h
        · refine lv_iconst (v := (1 : Int32)) F.1 F.2.1 (dd D_X0_contains 11 rfl) ki_1 ?_
          exact ro_z (R := rmOf 1 0 0) F hr rfl hlk (congrArg (Option.map fun z => Value.int (bI z)) h) (dd D_X0_contains 12 rfl)
  exact L5 n (0 : Int32) ls (lv_sub hl [1, 2, 0] rfl) h
def F_X0_empty (rm : Nat) (s : FW) : FW := (fw_set_n s (0 : Int32))
set_option maxHeartbeats 4000000 in
set_option maxRecDepth 100000 in
theorem c_X0_empty (D : va_G) (cA : Nat → ClassId) (rm : Nat) (a : Nat → Nat) (s : FW)  : RW m_X0_empty 0 0 0 D cA [.ref (a 0)] (fewW cA rm a s) (exq (none) (fewW cA rm a (F_X0_empty rm s))) := by
  obtain ⟨r, h⟩ : ∃ r, F_X0_empty rm s = r := ⟨_, rfl⟩
  rw [h]
  refine RW.ofW gy_X0_empty.2.2 (Nat.le_of_ble_eq_true rfl) ?_
  intro l p e sM m below meth c A H locs F hr hlk hnm hK hP hD hS hA hAb ls hl
  have hl : lv_has ls 1 [(0, .ref (a 0))] := hl
  unfold F_X0_empty at h
  refine lv_aload_n F.1 F.2.1 (dd D_X0_empty 0 rfl) rfl (lv_at hl 0 rfl) ?_
  refine lv_iconst (v := (0 : Int32)) F.1 F.2.1 (dd D_X0_empty 1 rfl) ki_0 ?_
  refine putF F hK hP hD hS lp_X0_21 (0) rfl (Nat.le_of_ble_eq_true rfl) (nar_int _) (fit_int _) (ws' := (fewW cA rm a (fw_set_n s (0 : Int32)))) (fs_0_1 cA rm a s (0 : Int32)) (dd D_X0_empty 2 rfl) (fun H locs hP hD hS => ?_)
  subst h
  exact rw_v (R := rmOf 0 0 0) F hP hD hS hr hlk ⟨Nat.le_of_ble_eq_true rfl, Nat.le_of_ble_eq_true rfl⟩ ⟨rfl, rfl⟩ (dd D_X0_empty 3 rfl)
def F_X0_become_L7 (n : Nat) (rm : Nat) (u1 : FW)  : Nat → Int32 → FW → Option FW
  | 0, _, _ => none
  | kf + 1, w2, u0 => (if (fw_n u1) ≤ w2 then some u0 else (((F_X0_at n rm u1 w2)).bind fun r2 => (((F_X0_add n rm u0 r2)).bind fun r4 => F_X0_become_L7 n rm u1 kf (w2 + (1 : Int32)) r4)))
def F_X0_become (n : Nat) (rm : Nat) (s : FW) (_rm1 : Nat) (t : FW) : Option FW := F_X0_become_L7 n rm t n (0 : Int32) (fw_set_n s (0 : Int32))
set_option maxHeartbeats 4000000 in
set_option maxRecDepth 100000 in
theorem c_X0_become (D : va_G) (cA : Nat → ClassId) (rm : Nat) (a : Nat → Nat) (s : FW) (b : Nat → Nat) (t : FW) (n : Nat)  (r : FW) (h : F_X0_become n rm s rm t = some r) : RW m_X0_become 1 0 0 D cA [.ref (a 0), .ref (b 0)] ((fewW cA rm a s) ++ (fewW cA rm b t)) (exq (none) ((fewW cA rm a r) ++ (fewW cA rm b t))) := by
  refine RW.ofW gy_X0_become.2.2 (Nat.le_of_ble_eq_true rfl) ?_
  intro l p e sM m below meth c A H locs F hr hlk hnm hK hP hD hS hA hAb ls hl
  have hl : lv_has ls 3 [(0, .ref (a 0)), (1, .ref (b 0))] := hl
  unfold F_X0_become at h
  refine lv_aload_n F.1 F.2.1 (dd D_X0_become 0 rfl) rfl (lv_at hl 0 rfl) ?_
  refine lv_iconst (v := (0 : Int32)) F.1 F.2.1 (dd D_X0_become 1 rfl) ki_0 ?_
  refine putF F hK hP hD hS lp_X0_21 (0) rfl (Nat.le_of_ble_eq_true rfl) (nar_int _) (fit_int _) (ws' := ((fewW cA rm a (fw_set_n s (0 : Int32))) ++ (fewW cA rm b t))) (sL (Nat.le_of_ble_eq_true rfl) (fs_0_1 cA rm a s (0 : Int32))) (dd D_X0_become 2 rfl) (fun H locs hP hD hS => ?_)
  refine lv_iconst (v := (0 : Int32)) F.1 F.2.1 (dd D_X0_become 3 rfl) ki_0 ?_
  refine lv_istore_n (lv' := [(2, .int (0 : Int32)), (0, .ref (a 0)), (1, .ref (b 0))]) F.1 F.2.1 (dd D_X0_become 4 rfl) rfl hl (Nat.le_of_ble_eq_true rfl) rfl (fun ls hl => ?_)
  have L6 : ∀ (kf : Nat) (w2_L6 : Int32) (u0_L6 : FW) (H : Heap) (locs : List Loc) (ls : Array Slot), va_P D vwCl ((fewW cA rm a u0_L6) ++ (fewW cA rm b t)) H → va_D A ((fewW cA rm a u0_L6) ++ (fewW cA rm b t)) → va_S A sM.heap H locs → lv_has ls 3 [(0, .ref (a 0)), (1, .ref (b 0)), (2, .int w2_L6)] → F_X0_become_L7 n rm t kf w2_L6 u0_L6 = some r → Wrw 1 0 0 D A (exq (none) ((fewW cA rm a r) ++ (fewW cA rm b t))) p l e sM m ([.ref (a 0), .ref (b 0)] : List Value).toArray below meth c H locs 0 0 7 ls [] := by
    intro kf
    induction kf with
    | zero =>
      intro w2_L6 u0_L6 H locs ls hP hD hS hl h
      cases (show none = some r from h)
    | succ k_L6 ih_L6 =>
      intro w2_L6 u0_L6 H locs ls hP hD hS hl h
      unfold F_X0_become_L7 at h
      refine lv_iload_n F.1 F.2.1 (dd D_X0_become 5 rfl) rfl (lv_at hl 2 rfl) ?_
      refine lv_aload_n F.1 F.2.1 (dd D_X0_become 6 rfl) rfl (lv_at hl 1 rfl) ?_
      refine getF F hK hP lf_X0_21 (2) rfl rfl (dd D_X0_become 7 rfl) ?_
      refine x_icmp_ge (tgt := 30) F.1 F.2.1 (dd D_X0_become 8 rfl) rfl h (fun c7 h => ?_) (fun c7 h => ?_)
      · obtain rfl := Option.some.inj h
        exact rw_v (R := rmOf 1 0 0) F hP hD hS hr hlk ⟨Nat.le_of_ble_eq_true rfl, Nat.le_of_ble_eq_true rfl⟩ ⟨rfl, rfl⟩ (dd D_X0_become 16 rfl)
      · refine lv_aload_n F.1 F.2.1 (dd D_X0_become 9 rfl) rfl (lv_at hl 0 rfl) ?_
        refine lv_aload_n F.1 F.2.1 (dd D_X0_become 10 rfl) rfl (lv_at hl 1 rfl) ?_
        refine lv_iload_n F.1 F.2.1 (dd D_X0_become 11 rfl) rfl (lv_at hl 2 rfl) ?_
        obtain ⟨r8, e9, h⟩ := Option.bind_eq_some_iff.mp h
        refine ro_go (st' := [.int r8, .ref (a 0)]) (rV (rest := [.ref (a 0)]) F (c_X0_at D cA rm b t n w2_L6 r8 e9 l) lk_X0_25 (Nat.le_of_ble_eq_true rfl) (preRO hK hS hAb (sufP hP)) (rcv_0 hK hP (q0 := (2)) rfl) rfl hl rfl (Nat.le_of_ble_eq_true rfl) (dd D_X0_become 12 rfl) ⟨Nat.le_of_ble_eq_true rfl, Nat.le_of_ble_eq_true rfl⟩) rfl ?_
        obtain ⟨r10, e11, h⟩ := Option.bind_eq_some_iff.mp h
        refine rwe (V := none) (wc := (fewW cA rm a u0_L6)) (wc' := (fewW cA rm a r10)) (st' := []) (W' := ((fewW cA rm a r10) ++ (fewW cA rm b t))) hP hD hS hA [0, 1] (jc_few_few_0_0 cA rm a u0_L6 rm b t) (Nat_nd rfl) rfl (rV (rest := []) F (c_X0_add D cA rm a u0_L6 n r8 r10 e11 l H.size) lk_X0_29 (Nat.le_of_ble_eq_true rfl) (preRW hK hS hAb (selP (is := [0, 1]) hP (jc_few_few_0_0 cA rm a u0_L6 rm b t)) (selD (is := [0, 1]) hD (Nat_nd rfl) (jc_few_few_0_0 cA rm a u0_L6 rm b t))) (rcv_0 hK hP (q0 := (0)) rfl) rfl hl rfl (Nat.le_of_ble_eq_true rfl) (dd D_X0_become 13 rfl) ⟨Nat.le_of_ble_eq_true rfl, Nat.le_of_ble_eq_true rfl⟩) (js_few_few_0_0_m0 cA rm a u0_L6 rm b t r10) rfl (fun H locs hP hD hS => ?_)
        refine lv_iinc (v := (w2_L6 + (1 : Int32))) (lv' := [(2, .int (w2_L6 + (1 : Int32))), (0, .ref (a 0)), (1, .ref (b 0))]) F.1 F.2.1 (dd D_X0_become 14 rfl) hl (k := 2) rfl (congrArg (fun z => w2_L6 + z) ki_1) (Nat.le_of_ble_eq_true rfl) rfl (fun ls hl => ?_)
        refine lv_goto (tgt := 7) F.1 F.2.1 (dd D_X0_become 15 rfl) rfl ?_
        exact ih_L6 (w2_L6 + (1 : Int32)) r10 _ _ ls hP hD hS (lv_sub hl [1, 2, 0] rfl) h
  exact L6 n (0 : Int32) (fw_set_n s (0 : Int32)) _ _ ls hP hD hS (lv_sub hl [1, 2, 0] rfl) h
def F_X1_count (s : HL) : Int32 := ((F_X0_count 8 (hl_fr s)))
set_option maxHeartbeats 4000000 in
set_option maxRecDepth 100000 in
theorem c_X1_count (D : va_G) (cA : Nat → ClassId) (a : Nat → Nat) (s : HL)  : RO m_X1_count 1 D cA [.ref (a 0)] (hillW cA a s) (some (.int (F_X1_count s))) := by
  obtain ⟨r, h⟩ : ∃ r, F_X1_count s = r := ⟨_, rfl⟩
  rw [h]
  refine RO.ofW gy_X1_count.2.2 (Nat.le_of_ble_eq_true rfl) ?_
  intro l p e sM m below meth c F hr hlk hK hP hS hAb ls hl
  have hl : lv_has ls 1 [(0, .ref (a 0))] := hl
  unfold F_X1_count at h
  refine lv_aload_n F.1 F.2.1 (dd D_X1_count 0 rfl) rfl (lv_at hl 0 rfl) ?_
  refine getF F hK hP lf_X1_16 (0) rfl rfl (dd D_X1_count 1 rfl) ?_
  refine ro_go (st' := [.int (F_X0_count 8 (hl_fr s))]) (rV (rest := []) F (c_X0_count D cA 8 (fun i => a (1+i)) (hl_fr s) l) lk_X1_30 (Nat.le_of_ble_eq_true rfl) (preRO hK hS hAb (pg_hill_1 hP)) (rcv_0 hK hP (q0 := (1)) rfl) rfl hl rfl (Nat.le_of_ble_eq_true rfl) (dd D_X1_count 2 rfl) ⟨Nat.le_of_ble_eq_true rfl, Nat.le_of_ble_eq_true rfl⟩) rfl ?_
  exact ro_i (R := rmOf 1 0 0) F hr hlk (congrArg (fun z => some (Value.int z)) h) (dd D_X1_count 3 rfl)
def F_X1_isFull (s : HL) : Bool := ((F_X0_isFull 8 (hl_fr s)))
set_option maxHeartbeats 4000000 in
set_option maxRecDepth 100000 in
theorem c_X1_isFull (D : va_G) (cA : Nat → ClassId) (a : Nat → Nat) (s : HL)  : RO m_X1_isFull 1 D cA [.ref (a 0)] (hillW cA a s) (some (.int (bI (F_X1_isFull s)))) := by
  obtain ⟨r, h⟩ : ∃ r, F_X1_isFull s = r := ⟨_, rfl⟩
  rw [h]
  refine RO.ofW gy_X1_isFull.2.2 (Nat.le_of_ble_eq_true rfl) ?_
  intro l p e sM m below meth c F hr hlk hK hP hS hAb ls hl
  have hl : lv_has ls 1 [(0, .ref (a 0))] := hl
  unfold F_X1_isFull at h
  refine lv_aload_n F.1 F.2.1 (dd D_X1_isFull 0 rfl) rfl (lv_at hl 0 rfl) ?_
  refine getF F hK hP lf_X1_16 (0) rfl rfl (dd D_X1_isFull 1 rfl) ?_
  refine ro_go (st' := [.int (bI (F_X0_isFull 8 (hl_fr s)))]) (rV (rest := []) F (c_X0_isFull D cA 8 (fun i => a (1+i)) (hl_fr s) l) lk_X1_34 (Nat.le_of_ble_eq_true rfl) (preRO hK hS hAb (pg_hill_1 hP)) (rcv_0 hK hP (q0 := (1)) rfl) rfl hl rfl (Nat.le_of_ble_eq_true rfl) (dd D_X1_isFull 2 rfl) ⟨Nat.le_of_ble_eq_true rfl, Nat.le_of_ble_eq_true rfl⟩) rfl ?_
  exact ro_z (R := rmOf 1 0 0) F hr (bI_nar _) hlk (congrArg (fun z => some (Value.int (bI z))) h) (dd D_X1_isFull 3 rfl)
def F_X1_add_L31 (n : Nat) (v1 : Int32) (v2 : Int32) (v3 : Int32) : Nat → Int32 → HL → Option HL
  | 0, _, _ => none
  | kf + 1, w4, u0 => (if v2 < w4 then some u0 else (if (180 : Int32) ≤ w4 then some u0 else gd (inb w4 180) (gd (inb w4 180) (F_X1_add_L31 n v1 v2 v3 kf (w4 + (1 : Int32)) (hl_set_ln u0 (upd (hl_ln u0) (Int32.toNatClampNeg w4) (F_J9_max_7cf53 ((hl_ln u0) (Int32.toNatClampNeg w4)) v3)))))))
def F_X1_add (n : Nat) (s : HL) (p1 : Int32) (p2 : Int32) (p3 : Int32) : Option HL := (((F_X0_add n 8 (hl_fr s) p1)).bind fun r1 => (((F_X0_add n 8 (hl_to (hl_set_fr s r1)) p2)).bind fun r3 => (((F_X0_add n 8 (hl_he (hl_set_to (hl_set_fr s r1) r3)) p3)).bind fun r5 => F_X1_add_L31 n p1 p2 p3 n (F_J9_max_7cf53 p1 (0 : Int32)) (hl_set_he (hl_set_to (hl_set_fr s r1) r3) r5))))
set_option maxHeartbeats 4000000 in
set_option maxRecDepth 100000 in
theorem c_X1_add (D : va_G) (cA : Nat → ClassId) (a : Nat → Nat) (s : HL) (n : Nat) (p1 : Int32) (p2 : Int32) (p3 : Int32) (r : HL) (h : F_X1_add n s p1 p2 p3 = some r) : RW m_X1_add 1 0 0 D cA [.ref (a 0), .int p1, .int p2, .int p3] (hillW cA a s) (exq (none) (hillW cA a r)) := by
  refine RW.ofW gy_X1_add.2.2 (Nat.le_of_ble_eq_true rfl) ?_
  intro l p e sM m below meth c A H locs F hr hlk hnm hK hP hD hS hA hAb ls hl
  have hl : lv_has ls 5 [(0, .ref (a 0)), (1, .int p1), (2, .int p2), (3, .int p3)] := hl
  unfold F_X1_add at h
  refine lv_aload_n F.1 F.2.1 (dd D_X1_add 0 rfl) rfl (lv_at hl 0 rfl) ?_
  refine getF F hK hP lf_X1_16 (0) rfl rfl (dd D_X1_add 1 rfl) ?_
  refine lv_iload_n F.1 F.2.1 (dd D_X1_add 2 rfl) rfl (lv_at hl 1 rfl) ?_
  obtain ⟨r1, e2, h⟩ := Option.bind_eq_some_iff.mp h
  refine rwe (V := none) (wc := (fewW cA 8 (fun i => a (1+i)) (hl_fr s))) (wc' := (fewW cA 8 (fun i => a (1+i)) r1)) (st' := []) (W' := (hillW cA a (hl_set_fr s r1))) hP hD hS hA [1, 2] (jc_hill_0_1 cA a s) (Nat_nd rfl) rfl (rV (rest := []) F (c_X0_add D cA 8 (fun i => a (1+i)) (hl_fr s) n p1 r1 e2 l H.size) lk_X1_38 (Nat.le_of_ble_eq_true rfl) (preRW hK hS hAb (selP (is := [1, 2]) hP (jc_hill_0_1 cA a s)) (selD (is := [1, 2]) hD (Nat_nd rfl) (jc_hill_0_1 cA a s))) (rcv_0 hK hP (q0 := (1)) rfl) rfl hl rfl (Nat.le_of_ble_eq_true rfl) (dd D_X1_add 3 rfl) ⟨Nat.le_of_ble_eq_true rfl, Nat.le_of_ble_eq_true rfl⟩) (js_hill_0_1_m0 cA a s r1) rfl (fun H locs hP hD hS => ?_)
  refine lv_aload_n F.1 F.2.1 (dd D_X1_add 4 rfl) rfl (lv_at hl 0 rfl) ?_
  refine getF F hK hP lf_X1_20 (0) rfl rfl (dd D_X1_add 5 rfl) ?_
  refine lv_iload_n F.1 F.2.1 (dd D_X1_add 6 rfl) rfl (lv_at hl 2 rfl) ?_
  obtain ⟨r3, e4, h⟩ := Option.bind_eq_some_iff.mp h
  refine rwe (V := none) (wc := (fewW cA 8 (fun i => a (3+i)) (hl_to (hl_set_fr s r1)))) (wc' := (fewW cA 8 (fun i => a (3+i)) r3)) (st' := []) (W' := (hillW cA a (hl_set_to (hl_set_fr s r1) r3))) hP hD hS hA [3, 4] (jc_hill_0_3 cA a (hl_set_fr s r1)) (Nat_nd rfl) rfl (rV (rest := []) F (c_X0_add D cA 8 (fun i => a (3+i)) (hl_to (hl_set_fr s r1)) n p2 r3 e4 l H.size) lk_X1_38 (Nat.le_of_ble_eq_true rfl) (preRW hK hS hAb (selP (is := [3, 4]) hP (jc_hill_0_3 cA a (hl_set_fr s r1))) (selD (is := [3, 4]) hD (Nat_nd rfl) (jc_hill_0_3 cA a (hl_set_fr s r1)))) (rcv_0 hK hP (q0 := (3)) rfl) rfl hl rfl (Nat.le_of_ble_eq_true rfl) (dd D_X1_add 7 rfl) ⟨Nat.le_of_ble_eq_true rfl, Nat.le_of_ble_eq_true rfl⟩) (js_hill_0_3_m0 cA a (hl_set_fr s r1) r3) rfl (fun H locs hP hD hS => ?_)
  refine lv_aload_n F.1 F.2.1 (dd D_X1_add 8 rfl) rfl (lv_at hl 0 rfl) ?_
  refine getF F hK hP lf_X1_23 (0) rfl rfl (dd D_X1_add 9 rfl) ?_
  refine lv_iload_n F.1 F.2.1 (dd D_X1_add 10 rfl) rfl (lv_at hl 3 rfl) ?_
  obtain ⟨r5, e6, h⟩ := Option.bind_eq_some_iff.mp h
  refine rwe (V := none) (wc := (fewW cA 8 (fun i => a (5+i)) (hl_he (hl_set_to (hl_set_fr s r1) r3)))) (wc' := (fewW cA 8 (fun i => a (5+i)) r5)) (st' := []) (W' := (hillW cA a (hl_set_he (hl_set_to (hl_set_fr s r1) r3) r5))) hP hD hS hA [5, 6] (jc_hill_0_5 cA a (hl_set_to (hl_set_fr s r1) r3)) (Nat_nd rfl) rfl (rV (rest := []) F (c_X0_add D cA 8 (fun i => a (5+i)) (hl_he (hl_set_to (hl_set_fr s r1) r3)) n p3 r5 e6 l H.size) lk_X1_38 (Nat.le_of_ble_eq_true rfl) (preRW hK hS hAb (selP (is := [5, 6]) hP (jc_hill_0_5 cA a (hl_set_to (hl_set_fr s r1) r3))) (selD (is := [5, 6]) hD (Nat_nd rfl) (jc_hill_0_5 cA a (hl_set_to (hl_set_fr s r1) r3)))) (rcv_0 hK hP (q0 := (5)) rfl) rfl hl rfl (Nat.le_of_ble_eq_true rfl) (dd D_X1_add 11 rfl) ⟨Nat.le_of_ble_eq_true rfl, Nat.le_of_ble_eq_true rfl⟩) (js_hill_0_5_m0 cA a (hl_set_to (hl_set_fr s r1) r3) r5) rfl (fun H locs hP hD hS => ?_)
  refine lv_iload_n F.1 F.2.1 (dd D_X1_add 12 rfl) rfl (lv_at hl 1 rfl) ?_
  refine lv_iconst (v := (0 : Int32)) F.1 F.2.1 (dd D_X1_add 13 rfl) ki_0 ?_
  refine ro_go (st' := [.int (F_J9_max_7cf53 p1 (0 : Int32))]) (rS (rest := []) F (c_J9_max_7cf53 D cA p1 (0 : Int32) l) lk_X1_41 (Nat.le_of_ble_eq_true rfl) (preRO hK hS hAb (emP)) rfl hl rfl (Nat.le_of_ble_eq_true rfl) (dd D_X1_add 14 rfl) ⟨Nat.le_of_ble_eq_true rfl, Nat.le_of_ble_eq_true rfl⟩) rfl ?_
  refine lv_istore (lv' := [(4, .int (F_J9_max_7cf53 p1 (0 : Int32))), (0, .ref (a 0)), (1, .int p1), (2, .int p2), (3, .int p3)]) F.1 F.2.1 (dd D_X1_add 15 rfl) hl (Nat.le_of_ble_eq_true rfl) rfl (fun ls hl => ?_)
  have L11 : ∀ (kf : Nat) (w4_L11 : Int32) (u0_L11 : HL) (H : Heap) (locs : List Loc) (ls : Array Slot), va_P D vwCl (hillW cA a u0_L11) H → va_D A (hillW cA a u0_L11) → va_S A sM.heap H locs → lv_has ls 5 [(0, .ref (a 0)), (1, .int p1), (2, .int p2), (3, .int p3), (4, .int w4_L11)] → F_X1_add_L31 n p1 p2 p3 kf w4_L11 u0_L11 = some r → Wrw 1 0 0 D A (exq (none) (hillW cA a r)) p l e sM m ([.ref (a 0), .int p1, .int p2, .int p3] : List Value).toArray below meth c H locs 0 0 31 ls [] := by
    intro kf
    induction kf with
    | zero =>
      intro w4_L11 u0_L11 H locs ls hP hD hS hl h
      cases (show none = some r from h)
    | succ k_L11 ih_L11 =>
      intro w4_L11 u0_L11 H locs ls hP hD hS hl h
      unfold F_X1_add_L31 at h
      refine lv_iload F.1 F.2.1 (dd D_X1_add 16 rfl) (lv_at hl 4 rfl) ?_
      refine lv_iload_n F.1 F.2.1 (dd D_X1_add 17 rfl) rfl (lv_at hl 2 rfl) ?_
      refine x_icmp_gt (tgt := 71) F.1 F.2.1 (dd D_X1_add 18 rfl) rfl h (fun c12 h => ?_) (fun c12 h => ?_)
      · obtain rfl := Option.some.inj h
        exact rw_v (R := rmOf 1 0 0) F hP hD hS hr hlk ⟨Nat.le_of_ble_eq_true rfl, Nat.le_of_ble_eq_true rfl⟩ ⟨rfl, rfl⟩ (dd D_X1_add 36 rfl)
      · refine lv_iload F.1 F.2.1 (dd D_X1_add 19 rfl) (lv_at hl 4 rfl) ?_
        refine lv_aload_n F.1 F.2.1 (dd D_X1_add 20 rfl) rfl (lv_at hl 0 rfl) ?_
        refine getF F hK hP lf_X1_26 (0) rfl rfl (dd D_X1_add 21 rfl) ?_
        refine alen F hK hP (7) 0 rfl rfl (v := (180 : Int32)) kn_180 (dd D_X1_add 22 rfl) ?_
        refine x_icmp_ge (tgt := 71) F.1 F.2.1 (dd D_X1_add 23 rfl) rfl h (fun c13 h => ?_) (fun c13 h => ?_)
        · obtain rfl := Option.some.inj h
          exact rw_v (R := rmOf 1 0 0) F hP hD hS hr hlk ⟨Nat.le_of_ble_eq_true rfl, Nat.le_of_ble_eq_true rfl⟩ ⟨rfl, rfl⟩ (dd D_X1_add 36 rfl)
        · refine lv_aload_n F.1 F.2.1 (dd D_X1_add 24 rfl) rfl (lv_at hl 0 rfl) ?_
          refine getF F hK hP lf_X1_26 (0) rfl rfl (dd D_X1_add 25 rfl) ?_
          refine lv_iload F.1 F.2.1 (dd D_X1_add 26 rfl) (lv_at hl 4 rfl) ?_
          refine lv_aload_n F.1 F.2.1 (dd D_X1_add 27 rfl) rfl (lv_at hl 0 rfl) ?_
          refine getF F hK hP lf_X1_26 (0) rfl rfl (dd D_X1_add 28 rfl) ?_
          refine lv_iload F.1 F.2.1 (dd D_X1_add 29 rfl) (lv_at hl 4 rfl) ?_
          refine aldI F hK hP (7) rfl h (dd D_X1_add 30 rfl) (fun z14 h => ?_)
          refine lv_iload_n F.1 F.2.1 (dd D_X1_add 31 rfl) rfl (lv_at hl 3 rfl) ?_
          refine ro_go (st' := [.int (F_J9_max_7cf53 ((hl_ln u0_L11) (Int32.toNatClampNeg w4_L11)) p3), .int w4_L11, .ref (a 7)]) (rS (rest := [.int w4_L11, .ref (a 7)]) F (c_J9_max_7cf53 D cA ((hl_ln u0_L11) (Int32.toNatClampNeg w4_L11)) p3 l) lk_X1_41 (Nat.le_of_ble_eq_true rfl) (preRO hK hS hAb (emP)) rfl hl rfl (Nat.le_of_ble_eq_true rfl) (dd D_X1_add 32 rfl) ⟨Nat.le_of_ble_eq_true rfl, Nat.le_of_ble_eq_true rfl⟩) rfl ?_
          refine astI F hK hP hD hS (7) rfl h (ws' := (hillW cA a (hl_set_ln u0_L11 (upd (hl_ln u0_L11) (Int32.toNatClampNeg w4_L11) (F_J9_max_7cf53 ((hl_ln u0_L11) (Int32.toNatClampNeg w4_L11)) p3))))) (hs_7 cA a u0_L11 (upd (hl_ln u0_L11) (Int32.toNatClampNeg w4_L11) (F_J9_max_7cf53 ((hl_ln u0_L11) (Int32.toNatClampNeg w4_L11)) p3))) (dd D_X1_add 33 rfl) (fun z15 h H locs hP hD hS => ?_)
          refine lv_iinc (v := (w4_L11 + (1 : Int32))) (lv' := [(4, .int (w4_L11 + (1 : Int32))), (0, .ref (a 0)), (1, .int p1), (2, .int p2), (3, .int p3)]) F.1 F.2.1 (dd D_X1_add 34 rfl) hl (k := 4) rfl (congrArg (fun z => w4_L11 + z) ki_1) (Nat.le_of_ble_eq_true rfl) rfl (fun ls hl => ?_)
          refine lv_goto (tgt := 31) F.1 F.2.1 (dd D_X1_add 35 rfl) rfl ?_
          exact ih_L11 (w4_L11 + (1 : Int32)) (hl_set_ln u0_L11 (upd (hl_ln u0_L11) (Int32.toNatClampNeg w4_L11) (F_J9_max_7cf53 ((hl_ln u0_L11) (Int32.toNatClampNeg w4_L11)) p3))) _ _ ls hP hD hS (lv_sub hl [1, 2, 3, 4, 0] rfl) h
  exact L11 n (F_J9_max_7cf53 p1 (0 : Int32)) (hl_set_he (hl_set_to (hl_set_fr s r1) r3) r5) _ _ ls hP hD hS (lv_sub hl [1, 2, 3, 4, 0] rfl) h
def F_X1_partOf (n : Nat) (s : HL) (p1 : Int32) (p2 : Int32) : Option Int32 := (if p2 = 0 then (((F_X0_at n 8 (hl_fr s) p1)).bind fun r7 => some (r7)) else (if p2 = (1 : Int32) then (((F_X0_at n 8 (hl_to s) p1)).bind fun r5 => some (r5)) else (((F_X0_at n 8 (hl_he s) p1)).bind fun r3 => some (r3))))
set_option maxHeartbeats 4000000 in
set_option maxRecDepth 100000 in
theorem c_X1_partOf (D : va_G) (cA : Nat → ClassId) (a : Nat → Nat) (s : HL) (n : Nat) (p1 : Int32) (p2 : Int32) (r : Int32) (h : F_X1_partOf n s p1 p2 = some r) : RO m_X1_partOf 1 D cA [.ref (a 0), .int p1, .int p2] (hillW cA a s) (some (.int r)) := by
  refine RO.ofW gy_X1_partOf.2.2 (Nat.le_of_ble_eq_true rfl) ?_
  intro l p e sM m below meth c F hr hlk hK hP hS hAb ls hl
  have hl : lv_has ls 3 [(0, .ref (a 0)), (1, .int p1), (2, .int p2)] := hl
  unfold F_X1_partOf at h
  refine lv_iload_n F.1 F.2.1 (dd D_X1_partOf 0 rfl) rfl (lv_at hl 2 rfl) ?_
  refine x_if_ne (tgt := 13) F.1 F.2.1 (dd D_X1_partOf 1 rfl) rfl h (fun c1 h => ?_) (fun c1 h => ?_)
  · refine lv_iload_n F.1 F.2.1 (dd D_X1_partOf 7 rfl) rfl (lv_at hl 2 rfl) ?_
    refine lv_iconst (v := (1 : Int32)) F.1 F.2.1 (dd D_X1_partOf 8 rfl) ki_1 ?_
    refine x_icmp_ne (tgt := 29) F.1 F.2.1 (dd D_X1_partOf 9 rfl) rfl h (fun c2 h => ?_) (fun c2 h => ?_)
    · refine lv_aload_n F.1 F.2.1 (dd D_X1_partOf 15 rfl) rfl (lv_at hl 0 rfl) ?_
      refine getF F hK hP lf_X1_23 (0) rfl rfl (dd D_X1_partOf 16 rfl) ?_
      refine lv_iload_n F.1 F.2.1 (dd D_X1_partOf 17 rfl) rfl (lv_at hl 1 rfl) ?_
      obtain ⟨r3, e4, h⟩ := Option.bind_eq_some_iff.mp h
      refine ro_go (st' := [.int r3]) (rV (rest := []) F (c_X0_at D cA 8 (fun i => a (5+i)) (hl_he s) n p1 r3 e4 l) lk_X1_47 (Nat.le_of_ble_eq_true rfl) (preRO hK hS hAb (pg_hill_5 hP)) (rcv_0 hK hP (q0 := (5)) rfl) rfl hl rfl (Nat.le_of_ble_eq_true rfl) (dd D_X1_partOf 18 rfl) ⟨Nat.le_of_ble_eq_true rfl, Nat.le_of_ble_eq_true rfl⟩) rfl ?_
      exact ro_i (R := rmOf 1 0 0) F hr hlk (congrArg (Option.map Value.int) h) (dd D_X1_partOf 19 rfl)
    · refine lv_aload_n F.1 F.2.1 (dd D_X1_partOf 10 rfl) rfl (lv_at hl 0 rfl) ?_
      refine getF F hK hP lf_X1_20 (0) rfl rfl (dd D_X1_partOf 11 rfl) ?_
      refine lv_iload_n F.1 F.2.1 (dd D_X1_partOf 12 rfl) rfl (lv_at hl 1 rfl) ?_
      obtain ⟨r5, e6, h⟩ := Option.bind_eq_some_iff.mp h
      refine ro_go (st' := [.int r5]) (rV (rest := []) F (c_X0_at D cA 8 (fun i => a (3+i)) (hl_to s) n p1 r5 e6 l) lk_X1_47 (Nat.le_of_ble_eq_true rfl) (preRO hK hS hAb (pg_hill_3 hP)) (rcv_0 hK hP (q0 := (3)) rfl) rfl hl rfl (Nat.le_of_ble_eq_true rfl) (dd D_X1_partOf 13 rfl) ⟨Nat.le_of_ble_eq_true rfl, Nat.le_of_ble_eq_true rfl⟩) rfl ?_
      refine lv_goto (tgt := 37) F.1 F.2.1 (dd D_X1_partOf 14 rfl) rfl ?_
      exact ro_i (R := rmOf 1 0 0) F hr hlk (congrArg (Option.map Value.int) h) (dd D_X1_partOf 19 rfl)
  · refine lv_aload_n F.1 F.2.1 (dd D_X1_partOf 2 rfl) rfl (lv_at hl 0 rfl) ?_
    refine getF F hK hP lf_X1_16 (0) rfl rfl (dd D_X1_partOf 3 rfl) ?_
    refine lv_iload_n F.1 F.2.1 (dd D_X1_partOf 4 rfl) rfl (lv_at hl 1 rfl) ?_
    obtain ⟨r7, e8, h⟩ := Option.bind_eq_some_iff.mp h
    refine ro_go (st' := [.int r7]) (rV (rest := []) F (c_X0_at D cA 8 (fun i => a (1+i)) (hl_fr s) n p1 r7 e8 l) lk_X1_47 (Nat.le_of_ble_eq_true rfl) (preRO hK hS hAb (pg_hill_1 hP)) (rcv_0 hK hP (q0 := (1)) rfl) rfl hl rfl (Nat.le_of_ble_eq_true rfl) (dd D_X1_partOf 5 rfl) ⟨Nat.le_of_ble_eq_true rfl, Nat.le_of_ble_eq_true rfl⟩) rfl ?_
    exact ro_i (R := rmOf 1 0 0) F hr hlk (congrArg (Option.map Value.int) h) (dd D_X1_partOf 6 rfl)
def F_X1_lineAt (n : Nat) (s : HL) (p1 : Int32) : Option Int32 := (if p1 < 0 then some ((0 : Int32)) else (if (180 : Int32) ≤ p1 then some ((0 : Int32)) else gd (inb p1 180) (some (((hl_ln s) (Int32.toNatClampNeg p1))))))
set_option maxHeartbeats 4000000 in
set_option maxRecDepth 100000 in
theorem c_X1_lineAt (D : va_G) (cA : Nat → ClassId) (a : Nat → Nat) (s : HL) (n : Nat) (p1 : Int32) (r : Int32) (h : F_X1_lineAt n s p1 = some r) : RO m_X1_lineAt 0 D cA [.ref (a 0), .int p1] (hillW cA a s) (some (.int r)) := by
  refine RO.ofW gy_X1_lineAt.2.2 (Nat.le_of_ble_eq_true rfl) ?_
  intro l p e sM m below meth c F hr hlk hK hP hS hAb ls hl
  have hl : lv_has ls 2 [(0, .ref (a 0)), (1, .int p1)] := hl
  unfold F_X1_lineAt at h
  refine lv_iload_n F.1 F.2.1 (dd D_X1_lineAt 0 rfl) rfl (lv_at hl 1 rfl) ?_
  refine x_if_lt (tgt := 22) F.1 F.2.1 (dd D_X1_lineAt 1 rfl) rfl h (fun c1 h => ?_) (fun c1 h => ?_)
  · refine lv_iconst (v := (0 : Int32)) F.1 F.2.1 (dd D_X1_lineAt 12 rfl) ki_0 ?_
    exact ro_i (R := rmOf 0 0 0) F hr hlk (congrArg (Option.map Value.int) h) (dd D_X1_lineAt 13 rfl)
  · refine lv_iload_n F.1 F.2.1 (dd D_X1_lineAt 2 rfl) rfl (lv_at hl 1 rfl) ?_
    refine lv_aload_n F.1 F.2.1 (dd D_X1_lineAt 3 rfl) rfl (lv_at hl 0 rfl) ?_
    refine getF F hK hP lf_X1_26 (0) rfl rfl (dd D_X1_lineAt 4 rfl) ?_
    refine alen F hK hP (7) 0 rfl rfl (v := (180 : Int32)) kn_180 (dd D_X1_lineAt 5 rfl) ?_
    refine x_icmp_ge (tgt := 22) F.1 F.2.1 (dd D_X1_lineAt 6 rfl) rfl h (fun c2 h => ?_) (fun c2 h => ?_)
    · refine lv_iconst (v := (0 : Int32)) F.1 F.2.1 (dd D_X1_lineAt 12 rfl) ki_0 ?_
      exact ro_i (R := rmOf 0 0 0) F hr hlk (congrArg (Option.map Value.int) h) (dd D_X1_lineAt 13 rfl)
    · refine lv_aload_n F.1 F.2.1 (dd D_X1_lineAt 7 rfl) rfl (lv_at hl 0 rfl) ?_
      refine getF F hK hP lf_X1_26 (0) rfl rfl (dd D_X1_lineAt 8 rfl) ?_
      refine lv_iload_n F.1 F.2.1 (dd D_X1_lineAt 9 rfl) rfl (lv_at hl 1 rfl) ?_
      refine aldI F hK hP (7) rfl h (dd D_X1_lineAt 10 rfl) (fun z3 h => ?_)
      refine lv_goto (tgt := 23) F.1 F.2.1 (dd D_X1_lineAt 11 rfl) rfl ?_
      exact ro_i (R := rmOf 0 0 0) F hr hlk (congrArg (Option.map Value.int) h) (dd D_X1_lineAt 13 rfl)
def F_X1_overFrom_L6 (n : Nat) (u0 : HL) (v1 : Int32) (v2 : Int32) : Nat → Int32 → Option Int32
  | 0, _ => none
  | kf + 1, w3 => (if v2 < w3 then some (v2) else (((F_X1_lineAt n u0 (v1 + (w3 / (4 : Int32))))).bind fun r2 => (if (w3 + (4 : Int32)) ≤ (F_J9_max_7cf53 w3 ((5 : Int32) * r2)) then F_X1_overFrom_L6 n u0 v1 v2 kf (w3 + (4 : Int32)) else some ((F_J9_max_7cf53 w3 ((5 : Int32) * r2))))))
def F_X1_overFrom (n : Nat) (s : HL) (p1 : Int32) : Option Int32 := F_X1_overFrom_L6 n s p1 (150 : Int32) n (0 : Int32)
set_option maxHeartbeats 4000000 in
set_option maxRecDepth 100000 in
theorem c_X1_overFrom (D : va_G) (cA : Nat → ClassId) (a : Nat → Nat) (s : HL) (n : Nat) (p1 : Int32) (r : Int32) (h : F_X1_overFrom n s p1 = some r) : RO m_X1_overFrom 1 D cA [.ref (a 0), .int p1] (hillW cA a s) (some (.int r)) := by
  refine RO.ofW gy_X1_overFrom.2.2 (Nat.le_of_ble_eq_true rfl) ?_
  intro l p e sM m below meth c F hr hlk hK hP hS hAb ls hl
  have hl : lv_has ls 5 [(0, .ref (a 0)), (1, .int p1)] := hl
  unfold F_X1_overFrom at h
  refine lv_sipush (v := (150 : Int32)) F.1 F.2.1 (dd D_X1_overFrom 0 rfl) ks_150 ?_
  refine lv_istore_n (lv' := [(2, .int (150 : Int32)), (0, .ref (a 0)), (1, .int p1)]) F.1 F.2.1 (dd D_X1_overFrom 1 rfl) rfl hl (Nat.le_of_ble_eq_true rfl) rfl (fun ls hl => ?_)
  refine lv_iconst (v := (0 : Int32)) F.1 F.2.1 (dd D_X1_overFrom 2 rfl) ki_0 ?_
  refine lv_istore_n (lv' := [(3, .int (0 : Int32)), (2, .int (150 : Int32)), (0, .ref (a 0)), (1, .int p1)]) F.1 F.2.1 (dd D_X1_overFrom 3 rfl) rfl hl (Nat.le_of_ble_eq_true rfl) rfl (fun ls hl => ?_)
  have L5 : ∀ (kf : Nat) (w3_L5 : Int32) (ls : Array Slot), lv_has ls 5 [(0, .ref (a 0)), (1, .int p1), (2, .int (150 : Int32)), (3, .int w3_L5)] → F_X1_overFrom_L6 n s p1 (150 : Int32) kf w3_L5 = some r → Wro 1 (some (.int r)) p l e sM m ([.ref (a 0), .int p1] : List Value).toArray below meth c 6 ls [] := by
    intro kf
    induction kf with
    | zero =>
      intro w3_L5 ls hl h
      cases (show none = some r from h)
    | succ k_L5 ih_L5 =>
      intro w3_L5 ls hl h
      unfold F_X1_overFrom_L6 at h
      refine lv_iload_n F.1 F.2.1 (dd D_X1_overFrom 4 rfl) rfl (lv_at hl 3 rfl) ?_
      refine lv_iload_n F.1 F.2.1 (dd D_X1_overFrom 5 rfl) rfl (lv_at hl 2 rfl) ?_
      refine x_icmp_gt (tgt := 45) F.1 F.2.1 (dd D_X1_overFrom 6 rfl) rfl h (fun c6 h => ?_) (fun c6 h => ?_)
      · refine lv_iload_n F.1 F.2.1 (dd D_X1_overFrom 28 rfl) rfl (lv_at hl 2 rfl) ?_
        exact ro_i (R := rmOf 1 0 0) F hr hlk (congrArg (Option.map Value.int) h) (dd D_X1_overFrom 29 rfl)
      · refine lv_iload_n F.1 F.2.1 (dd D_X1_overFrom 7 rfl) rfl (lv_at hl 3 rfl) ?_
        refine lv_iconst (v := (5 : Int32)) F.1 F.2.1 (dd D_X1_overFrom 8 rfl) ki_5 ?_
        refine lv_aload_n F.1 F.2.1 (dd D_X1_overFrom 9 rfl) rfl (lv_at hl 0 rfl) ?_
        refine lv_iload_n F.1 F.2.1 (dd D_X1_overFrom 10 rfl) rfl (lv_at hl 1 rfl) ?_
        refine lv_iload_n F.1 F.2.1 (dd D_X1_overFrom 11 rfl) rfl (lv_at hl 3 rfl) ?_
        refine lv_iconst (v := (4 : Int32)) F.1 F.2.1 (dd D_X1_overFrom 12 rfl) ki_4 ?_
        refine lv_idiv F.1 F.2.1 (dd D_X1_overFrom 13 rfl) kd_4 ?_
        refine lv_iadd F.1 F.2.1 (dd D_X1_overFrom 14 rfl) ?_
        obtain ⟨r7, e8, h⟩ := Option.bind_eq_some_iff.mp h
        refine ro_go (st' := [.int r7, .int (5 : Int32), .int w3_L5]) (rV (rest := [.int (5 : Int32), .int w3_L5]) F (c_X1_lineAt D cA a s n (p1 + (w3_L5 / (4 : Int32))) r7 e8 l) lk_X1_51 (Nat.le_of_ble_eq_true rfl) (preRO hK hS hAb hP) (rcv_1 hK hP (q0 := (0)) rfl) rfl hl rfl (Nat.le_of_ble_eq_true rfl) (dd D_X1_overFrom 15 rfl) ⟨Nat.le_of_ble_eq_true rfl, Nat.le_of_ble_eq_true rfl⟩) rfl ?_
        refine lv_imul F.1 F.2.1 (dd D_X1_overFrom 16 rfl) ?_
        refine ro_go (st' := [.int (F_J9_max_7cf53 w3_L5 ((5 : Int32) * r7))]) (rS (rest := []) F (c_J9_max_7cf53 D cA w3_L5 ((5 : Int32) * r7) l) lk_X1_41 (Nat.le_of_ble_eq_true rfl) (preRO hK hS hAb (emP)) rfl hl rfl (Nat.le_of_ble_eq_true rfl) (dd D_X1_overFrom 17 rfl) ⟨Nat.le_of_ble_eq_true rfl, Nat.le_of_ble_eq_true rfl⟩) rfl ?_
        refine lv_istore (lv' := [(4, .int (F_J9_max_7cf53 w3_L5 ((5 : Int32) * r7))), (0, .ref (a 0)), (1, .int p1), (2, .int (150 : Int32)), (3, .int w3_L5)]) F.1 F.2.1 (dd D_X1_overFrom 18 rfl) hl (Nat.le_of_ble_eq_true rfl) rfl (fun ls hl => ?_)
        refine lv_iload F.1 F.2.1 (dd D_X1_overFrom 19 rfl) (lv_at hl 0 rfl) ?_
        refine lv_iload_n F.1 F.2.1 (dd D_X1_overFrom 20 rfl) rfl (lv_at hl 4 rfl) ?_
        refine lv_iconst (v := (4 : Int32)) F.1 F.2.1 (dd D_X1_overFrom 21 rfl) ki_4 ?_
        refine lv_iadd F.1 F.2.1 (dd D_X1_overFrom 22 rfl) ?_
        refine x_icmp_ge (tgt := 39) F.1 F.2.1 (dd D_X1_overFrom 23 rfl) rfl h (fun c9 h => ?_) (fun c9 h => ?_)
        · refine lv_iinc (v := (w3_L5 + (4 : Int32))) (lv' := [(3, .int (w3_L5 + (4 : Int32))), (4, .int (F_J9_max_7cf53 w3_L5 ((5 : Int32) * r7))), (0, .ref (a 0)), (1, .int p1), (2, .int (150 : Int32))]) F.1 F.2.1 (dd D_X1_overFrom 26 rfl) hl (k := 4) rfl (congrArg (fun z => w3_L5 + z) ki_4) (Nat.le_of_ble_eq_true rfl) rfl (fun ls hl => ?_)
          refine lv_goto (tgt := 6) F.1 F.2.1 (dd D_X1_overFrom 27 rfl) rfl ?_
          exact ih_L5 (w3_L5 + (4 : Int32)) ls (lv_sub hl [2, 3, 4, 0] rfl) h
        · refine lv_iload F.1 F.2.1 (dd D_X1_overFrom 24 rfl) (lv_at hl 0 rfl) ?_
          exact ro_i (R := rmOf 1 0 0) F hr hlk (congrArg (Option.map Value.int) h) (dd D_X1_overFrom 25 rfl)
  exact L5 n (0 : Int32) ls (lv_sub hl [2, 3, 1, 0] rfl) h
def F_X1_makerOf_L2 (n : Nat) (u0 : HL) (v1 : Int32) : Nat → Int32 → Option Int32
  | 0, _ => none
  | kf + 1, w2 => (if (F_X1_count u0) ≤ w2 then some ((-1 : Int32)) else (((F_X0_at n 8 (hl_fr u0) w2)).bind fun r2 => (((F_X0_at n 8 (hl_to u0) w2)).bind fun r4 => bf (F_X8_isIn v1 r2 r4) ((((F_X0_at n 8 (hl_he u0) w2)).bind fun r6 => (((F_X1_lineAt n u0 v1)).bind fun r8 => (if r6 = r8 then some (w2) else F_X1_makerOf_L2 n u0 v1 kf (w2 + (1 : Int32)))))) (F_X1_makerOf_L2 n u0 v1 kf (w2 + (1 : Int32))))))
def F_X1_makerOf (n : Nat) (s : HL) (p1 : Int32) : Option Int32 := F_X1_makerOf_L2 n s p1 n (0 : Int32)
set_option maxHeartbeats 4000000 in
set_option maxRecDepth 100000 in
theorem c_X1_makerOf (D : va_G) (cA : Nat → ClassId) (a : Nat → Nat) (s : HL) (n : Nat) (p1 : Int32) (r : Int32) (h : F_X1_makerOf n s p1 = some r) : RO m_X1_makerOf 2 D cA [.ref (a 0), .int p1] (hillW cA a s) (some (.int r)) := by
  refine RO.ofW gy_X1_makerOf.2.2 (Nat.le_of_ble_eq_true rfl) ?_
  intro l p e sM m below meth c F hr hlk hK hP hS hAb ls hl
  have hl : lv_has ls 3 [(0, .ref (a 0)), (1, .int p1)] := hl
  unfold F_X1_makerOf at h
  refine lv_iconst (v := (0 : Int32)) F.1 F.2.1 (dd D_X1_makerOf 0 rfl) ki_0 ?_
  refine lv_istore_n (lv' := [(2, .int (0 : Int32)), (0, .ref (a 0)), (1, .int p1)]) F.1 F.2.1 (dd D_X1_makerOf 1 rfl) rfl hl (Nat.le_of_ble_eq_true rfl) rfl (fun ls hl => ?_)
  have L12 : ∀ (kf : Nat) (w2_L12 : Int32) (ls : Array Slot), lv_has ls 3 [(0, .ref (a 0)), (1, .int p1), (2, .int w2_L12)] → F_X1_makerOf_L2 n s p1 kf w2_L12 = some r → Wro 2 (some (.int r)) p l e sM m ([.ref (a 0), .int p1] : List Value).toArray below meth c 2 ls [] := by
    intro kf
    induction kf with
    | zero =>
      intro w2_L12 ls hl h
      cases (show none = some r from h)
    | succ k_L12 ih_L12 =>
      intro w2_L12 ls hl h
      unfold F_X1_makerOf_L2 at h
      refine lv_iload_n F.1 F.2.1 (dd D_X1_makerOf 2 rfl) rfl (lv_at hl 2 rfl) ?_
      refine lv_aload_n F.1 F.2.1 (dd D_X1_makerOf 3 rfl) rfl (lv_at hl 0 rfl) ?_
      refine ro_go (st' := [.int (F_X1_count s), .int w2_L12]) (rV (rest := [.int w2_L12]) F (c_X1_count D cA a s l) lk_X1_54 (Nat.le_of_ble_eq_true rfl) (preRO hK hS hAb hP) (rcv_1 hK hP (q0 := (0)) rfl) rfl hl rfl (Nat.le_of_ble_eq_true rfl) (dd D_X1_makerOf 4 rfl) ⟨Nat.le_of_ble_eq_true rfl, Nat.le_of_ble_eq_true rfl⟩) rfl ?_
      refine x_icmp_ge (tgt := 57) F.1 F.2.1 (dd D_X1_makerOf 5 rfl) rfl h (fun c13 h => ?_) (fun c13 h => ?_)
      · refine lv_iconst (v := (-1 : Int32)) F.1 F.2.1 (dd D_X1_makerOf 29 rfl) ki_m1 ?_
        exact ro_i (R := rmOf 2 0 0) F hr hlk (congrArg (Option.map Value.int) h) (dd D_X1_makerOf 30 rfl)
      · refine lv_iload_n F.1 F.2.1 (dd D_X1_makerOf 6 rfl) rfl (lv_at hl 1 rfl) ?_
        refine lv_aload_n F.1 F.2.1 (dd D_X1_makerOf 7 rfl) rfl (lv_at hl 0 rfl) ?_
        refine getF F hK hP lf_X1_16 (0) rfl rfl (dd D_X1_makerOf 8 rfl) ?_
        refine lv_iload_n F.1 F.2.1 (dd D_X1_makerOf 9 rfl) rfl (lv_at hl 2 rfl) ?_
        obtain ⟨r14, e15, h⟩ := Option.bind_eq_some_iff.mp h
        refine ro_go (st' := [.int r14, .int p1]) (rV (rest := [.int p1]) F (c_X0_at D cA 8 (fun i => a (1+i)) (hl_fr s) n w2_L12 r14 e15 l) lk_X1_47 (Nat.le_of_ble_eq_true rfl) (preRO hK hS hAb (pg_hill_1 hP)) (rcv_0 hK hP (q0 := (1)) rfl) rfl hl rfl (Nat.le_of_ble_eq_true rfl) (dd D_X1_makerOf 10 rfl) ⟨Nat.le_of_ble_eq_true rfl, Nat.le_of_ble_eq_true rfl⟩) rfl ?_
        refine lv_aload_n F.1 F.2.1 (dd D_X1_makerOf 11 rfl) rfl (lv_at hl 0 rfl) ?_
        refine getF F hK hP lf_X1_20 (0) rfl rfl (dd D_X1_makerOf 12 rfl) ?_
        refine lv_iload_n F.1 F.2.1 (dd D_X1_makerOf 13 rfl) rfl (lv_at hl 2 rfl) ?_
        obtain ⟨r16, e17, h⟩ := Option.bind_eq_some_iff.mp h
        refine ro_go (st' := [.int r16, .int r14, .int p1]) (rV (rest := [.int r14, .int p1]) F (c_X0_at D cA 8 (fun i => a (3+i)) (hl_to s) n w2_L12 r16 e17 l) lk_X1_47 (Nat.le_of_ble_eq_true rfl) (preRO hK hS hAb (pg_hill_3 hP)) (rcv_0 hK hP (q0 := (3)) rfl) rfl hl rfl (Nat.le_of_ble_eq_true rfl) (dd D_X1_makerOf 14 rfl) ⟨Nat.le_of_ble_eq_true rfl, Nat.le_of_ble_eq_true rfl⟩) rfl ?_
        refine ro_go (st' := [.int (bI (F_X8_isIn p1 r14 r16))]) (rSN hK (rest := []) F (c_X8_isIn D cA p1 r14 r16 l) lk_X1_55 (Nat.le_of_ble_eq_true rfl) (preRO hK hS hAb (emP)) rfl hl rfl (Nat.le_of_ble_eq_true rfl) (dd D_X1_makerOf 15 rfl) ⟨Nat.le_of_ble_eq_true rfl, Nat.le_of_ble_eq_true rfl⟩) rfl ?_
        refine x_bif_eq (tgt := 51) F.1 F.2.1 (dd D_X1_makerOf 16 rfl) rfl h (fun c23 h => ?_) (fun c23 h => ?_)
        · refine lv_iinc (v := (w2_L12 + (1 : Int32))) (lv' := [(2, .int (w2_L12 + (1 : Int32))), (0, .ref (a 0)), (1, .int p1)]) F.1 F.2.1 (dd D_X1_makerOf 27 rfl) hl (k := 2) rfl (congrArg (fun z => w2_L12 + z) ki_1) (Nat.le_of_ble_eq_true rfl) rfl (fun ls hl => ?_)
          refine lv_goto (tgt := 2) F.1 F.2.1 (dd D_X1_makerOf 28 rfl) rfl ?_
          exact ih_L12 (w2_L12 + (1 : Int32)) ls (lv_sub hl [1, 2, 0] rfl) h
        · refine lv_aload_n F.1 F.2.1 (dd D_X1_makerOf 17 rfl) rfl (lv_at hl 0 rfl) ?_
          refine getF F hK hP lf_X1_23 (0) rfl rfl (dd D_X1_makerOf 18 rfl) ?_
          refine lv_iload_n F.1 F.2.1 (dd D_X1_makerOf 19 rfl) rfl (lv_at hl 2 rfl) ?_
          obtain ⟨r18, e19, h⟩ := Option.bind_eq_some_iff.mp h
          refine ro_go (st' := [.int r18]) (rV (rest := []) F (c_X0_at D cA 8 (fun i => a (5+i)) (hl_he s) n w2_L12 r18 e19 l) lk_X1_47 (Nat.le_of_ble_eq_true rfl) (preRO hK hS hAb (pg_hill_5 hP)) (rcv_0 hK hP (q0 := (5)) rfl) rfl hl rfl (Nat.le_of_ble_eq_true rfl) (dd D_X1_makerOf 20 rfl) ⟨Nat.le_of_ble_eq_true rfl, Nat.le_of_ble_eq_true rfl⟩) rfl ?_
          refine lv_aload_n F.1 F.2.1 (dd D_X1_makerOf 21 rfl) rfl (lv_at hl 0 rfl) ?_
          refine lv_iload_n F.1 F.2.1 (dd D_X1_makerOf 22 rfl) rfl (lv_at hl 1 rfl) ?_
          obtain ⟨r20, e21, h⟩ := Option.bind_eq_some_iff.mp h
          refine ro_go (st' := [.int r20, .int r18]) (rV (rest := [.int r18]) F (c_X1_lineAt D cA a s n p1 r20 e21 l) lk_X1_51 (Nat.le_of_ble_eq_true rfl) (preRO hK hS hAb hP) (rcv_1 hK hP (q0 := (0)) rfl) rfl hl rfl (Nat.le_of_ble_eq_true rfl) (dd D_X1_makerOf 23 rfl) ⟨Nat.le_of_ble_eq_true rfl, Nat.le_of_ble_eq_true rfl⟩) rfl ?_
          refine x_icmp_ne (tgt := 51) F.1 F.2.1 (dd D_X1_makerOf 24 rfl) rfl h (fun c22 h => ?_) (fun c22 h => ?_)
          · refine lv_iinc (v := (w2_L12 + (1 : Int32))) (lv' := [(2, .int (w2_L12 + (1 : Int32))), (0, .ref (a 0)), (1, .int p1)]) F.1 F.2.1 (dd D_X1_makerOf 27 rfl) hl (k := 2) rfl (congrArg (fun z => w2_L12 + z) ki_1) (Nat.le_of_ble_eq_true rfl) rfl (fun ls hl => ?_)
            refine lv_goto (tgt := 2) F.1 F.2.1 (dd D_X1_makerOf 28 rfl) rfl ?_
            exact ih_L12 (w2_L12 + (1 : Int32)) ls (lv_sub hl [1, 2, 0] rfl) h
          · refine lv_iload_n F.1 F.2.1 (dd D_X1_makerOf 25 rfl) rfl (lv_at hl 2 rfl) ?_
            exact ro_i (R := rmOf 2 0 0) F hr hlk (congrArg (Option.map Value.int) h) (dd D_X1_makerOf 26 rfl)
  exact L12 n (0 : Int32) ls (lv_sub hl [1, 2, 0] rfl) h
def F_J7_fill_53178_L5 (n : Nat) (n1 : Nat) (v1 : Int32) (v3 : Int32) : Nat → Int32 → (Nat → Int32) → Option (Nat → Int32)
  | 0, _, _ => none
  | kf + 1, w2, u0 => (if v3 ≤ w2 then some u0 else gd (inb w2 n1) (F_J7_fill_53178_L5 n n1 v1 v3 kf (w2 + (1 : Int32)) (upd u0 (Int32.toNatClampNeg w2) v1)))
def F_J7_fill_53178 (n : Nat) (n1 : Nat) (f : Nat → Int32) (p1 : Int32) : Option (Nat → Int32) := F_J7_fill_53178_L5 n n1 p1 (Int32.ofNat n1) n (0 : Int32) f
set_option maxHeartbeats 4000000 in
set_option maxRecDepth 100000 in
theorem c_J7_fill_53178 (D : va_G) (cA : Nat → ClassId) (n1 : Nat) (a : Nat) (f : Nat → Int32) (n : Nat) (p1 : Int32) (r : (Nat → Int32)) (h : F_J7_fill_53178 n n1 f p1 = some r) : RW m_J7_fill_53178 0 0 0 D cA [.ref (a), .int p1] [(a, .inl (cA 0, n1, .inl f))] (exq (none) [(a, .inl (cA 0, n1, .inl r))]) := by
  refine RW.ofW gy_J7_fill_53178.2.2 (Nat.le_of_ble_eq_true rfl) ?_
  intro l p e sM m below meth c A H locs F hr hlk hnm hK hP hD hS hA hAb ls hl
  have hl : lv_has ls 4 [(0, .ref (a)), (1, .int p1)] := hl
  unfold F_J7_fill_53178 at h
  refine lv_iconst (v := (0 : Int32)) F.1 F.2.1 (dd D_J7_fill_53178 0 rfl) ki_0 ?_
  refine lv_istore_n (lv' := [(2, .int (0 : Int32)), (0, .ref (a)), (1, .int p1)]) F.1 F.2.1 (dd D_J7_fill_53178 1 rfl) rfl hl (Nat.le_of_ble_eq_true rfl) rfl (fun ls hl => ?_)
  refine lv_aload_n F.1 F.2.1 (dd D_J7_fill_53178 2 rfl) rfl (lv_at hl 1 rfl) ?_
  refine alen F hK hP (0) 0 rfl rfl (v := (Int32.ofNat n1)) rfl (dd D_J7_fill_53178 3 rfl) ?_
  refine lv_istore_n (lv' := [(3, .int (Int32.ofNat n1)), (2, .int (0 : Int32)), (0, .ref (a)), (1, .int p1)]) F.1 F.2.1 (dd D_J7_fill_53178 4 rfl) rfl hl (Nat.le_of_ble_eq_true rfl) rfl (fun ls hl => ?_)
  have L3 : ∀ (kf : Nat) (w2_L3 : Int32) (u0_L3 : (Nat → Int32)) (H : Heap) (locs : List Loc) (ls : Array Slot), va_P D vwCl [(a, .inl (cA 0, n1, .inl u0_L3))] H → va_D A [(a, .inl (cA 0, n1, .inl u0_L3))] → va_S A sM.heap H locs → lv_has ls 4 [(0, .ref (a)), (1, .int p1), (3, .int (Int32.ofNat n1)), (2, .int w2_L3)] → F_J7_fill_53178_L5 n n1 p1 (Int32.ofNat n1) kf w2_L3 u0_L3 = some r → Wrw 0 0 0 D A (exq (none) [(a, .inl (cA 0, n1, .inl r))]) p l e sM m ([.ref (a), .int p1] : List Value).toArray below meth c H locs 0 0 5 ls [] := by
    intro kf
    induction kf with
    | zero =>
      intro w2_L3 u0_L3 H locs ls hP hD hS hl h
      cases (show none = some r from h)
    | succ k_L3 ih_L3 =>
      intro w2_L3 u0_L3 H locs ls hP hD hS hl h
      unfold F_J7_fill_53178_L5 at h
      refine lv_iload_n F.1 F.2.1 (dd D_J7_fill_53178 5 rfl) rfl (lv_at hl 3 rfl) ?_
      refine lv_iload_n F.1 F.2.1 (dd D_J7_fill_53178 6 rfl) rfl (lv_at hl 2 rfl) ?_
      refine x_icmp_ge (tgt := 20) F.1 F.2.1 (dd D_J7_fill_53178 7 rfl) rfl h (fun c4 h => ?_) (fun c4 h => ?_)
      · obtain rfl := Option.some.inj h
        exact rw_v (R := rmOf 0 0 0) F hP hD hS hr hlk ⟨Nat.le_of_ble_eq_true rfl, Nat.le_of_ble_eq_true rfl⟩ ⟨rfl, rfl⟩ (dd D_J7_fill_53178 14 rfl)
      · refine lv_aload_n F.1 F.2.1 (dd D_J7_fill_53178 8 rfl) rfl (lv_at hl 0 rfl) ?_
        refine lv_iload_n F.1 F.2.1 (dd D_J7_fill_53178 9 rfl) rfl (lv_at hl 3 rfl) ?_
        refine lv_iload_n F.1 F.2.1 (dd D_J7_fill_53178 10 rfl) rfl (lv_at hl 1 rfl) ?_
        refine astI F hK hP hD hS (0) rfl h (ws' := [(a, .inl (cA 0, n1, .inl (upd u0_L3 (Int32.toNatClampNeg w2_L3) p1)))]) rfl (dd D_J7_fill_53178 11 rfl) (fun z5 h H locs hP hD hS => ?_)
        refine lv_iinc (v := (w2_L3 + (1 : Int32))) (lv' := [(2, .int (w2_L3 + (1 : Int32))), (0, .ref (a)), (1, .int p1), (3, .int (Int32.ofNat n1))]) F.1 F.2.1 (dd D_J7_fill_53178 12 rfl) hl (k := 3) rfl (congrArg (fun z => w2_L3 + z) ki_1) (Nat.le_of_ble_eq_true rfl) rfl (fun ls hl => ?_)
        refine lv_goto (tgt := 5) F.1 F.2.1 (dd D_J7_fill_53178 13 rfl) rfl ?_
        exact ih_L3 (w2_L3 + (1 : Int32)) (upd u0_L3 (Int32.toNatClampNeg w2_L3) p1) _ _ ls hP hD hS (lv_sub hl [1, 2, 3, 0] rfl) h
  exact L3 n (0 : Int32) f _ _ ls hP hD hS (lv_sub hl [2, 3, 0, 1] rfl) h
def F_X1_empty (n : Nat) (s : HL) : Option HL := (((F_J7_fill_53178 n 180 (hl_ln (hl_set_he (hl_set_to (hl_set_fr s (F_X0_empty 8 (hl_fr s))) (F_X0_empty 8 (hl_to (hl_set_fr s (F_X0_empty 8 (hl_fr s)))))) (F_X0_empty 8 (hl_he (hl_set_to (hl_set_fr s (F_X0_empty 8 (hl_fr s))) (F_X0_empty 8 (hl_to (hl_set_fr s (F_X0_empty 8 (hl_fr s)))))))))) (0 : Int32))).bind fun r1 => some (hl_set_ln (hl_set_he (hl_set_to (hl_set_fr s (F_X0_empty 8 (hl_fr s))) (F_X0_empty 8 (hl_to (hl_set_fr s (F_X0_empty 8 (hl_fr s)))))) (F_X0_empty 8 (hl_he (hl_set_to (hl_set_fr s (F_X0_empty 8 (hl_fr s))) (F_X0_empty 8 (hl_to (hl_set_fr s (F_X0_empty 8 (hl_fr s))))))))) r1))
set_option maxHeartbeats 4000000 in
set_option maxRecDepth 100000 in
theorem c_X1_empty (D : va_G) (cA : Nat → ClassId) (a : Nat → Nat) (s : HL) (n : Nat)  (r : HL) (h : F_X1_empty n s = some r) : RW m_X1_empty 1 0 0 D cA [.ref (a 0)] (hillW cA a s) (exq (none) (hillW cA a r)) := by
  refine RW.ofW gy_X1_empty.2.2 (Nat.le_of_ble_eq_true rfl) ?_
  intro l p e sM m below meth c A H locs F hr hlk hnm hK hP hD hS hA hAb ls hl
  have hl : lv_has ls 1 [(0, .ref (a 0))] := hl
  unfold F_X1_empty at h
  refine lv_aload_n F.1 F.2.1 (dd D_X1_empty 0 rfl) rfl (lv_at hl 0 rfl) ?_
  refine getF F hK hP lf_X1_16 (0) rfl rfl (dd D_X1_empty 1 rfl) ?_
  refine rwe (V := none) (wc := (fewW cA 8 (fun i => a (1+i)) (hl_fr s))) (wc' := (fewW cA 8 (fun i => a (1+i)) (F_X0_empty 8 (hl_fr s)))) (st' := []) (W' := (hillW cA a (hl_set_fr s (F_X0_empty 8 (hl_fr s))))) hP hD hS hA [1, 2] (jc_hill_0_1 cA a s) (Nat_nd rfl) rfl (rV (rest := []) F (c_X0_empty D cA 8 (fun i => a (1+i)) (hl_fr s) l H.size) lk_X1_59 (Nat.le_of_ble_eq_true rfl) (preRW hK hS hAb (selP (is := [1, 2]) hP (jc_hill_0_1 cA a s)) (selD (is := [1, 2]) hD (Nat_nd rfl) (jc_hill_0_1 cA a s))) (rcv_0 hK hP (q0 := (1)) rfl) rfl hl rfl (Nat.le_of_ble_eq_true rfl) (dd D_X1_empty 2 rfl) ⟨Nat.le_of_ble_eq_true rfl, Nat.le_of_ble_eq_true rfl⟩) (js_hill_0_1_m0 cA a s (F_X0_empty 8 (hl_fr s))) rfl (fun H locs hP hD hS => ?_)
  refine lv_aload_n F.1 F.2.1 (dd D_X1_empty 3 rfl) rfl (lv_at hl 0 rfl) ?_
  refine getF F hK hP lf_X1_20 (0) rfl rfl (dd D_X1_empty 4 rfl) ?_
  refine rwe (V := none) (wc := (fewW cA 8 (fun i => a (3+i)) (hl_to (hl_set_fr s (F_X0_empty 8 (hl_fr s)))))) (wc' := (fewW cA 8 (fun i => a (3+i)) (F_X0_empty 8 (hl_to (hl_set_fr s (F_X0_empty 8 (hl_fr s))))))) (st' := []) (W' := (hillW cA a (hl_set_to (hl_set_fr s (F_X0_empty 8 (hl_fr s))) (F_X0_empty 8 (hl_to (hl_set_fr s (F_X0_empty 8 (hl_fr s)))))))) hP hD hS hA [3, 4] (jc_hill_0_3 cA a (hl_set_fr s (F_X0_empty 8 (hl_fr s)))) (Nat_nd rfl) rfl (rV (rest := []) F (c_X0_empty D cA 8 (fun i => a (3+i)) (hl_to (hl_set_fr s (F_X0_empty 8 (hl_fr s)))) l H.size) lk_X1_59 (Nat.le_of_ble_eq_true rfl) (preRW hK hS hAb (selP (is := [3, 4]) hP (jc_hill_0_3 cA a (hl_set_fr s (F_X0_empty 8 (hl_fr s))))) (selD (is := [3, 4]) hD (Nat_nd rfl) (jc_hill_0_3 cA a (hl_set_fr s (F_X0_empty 8 (hl_fr s)))))) (rcv_0 hK hP (q0 := (3)) rfl) rfl hl rfl (Nat.le_of_ble_eq_true rfl) (dd D_X1_empty 5 rfl) ⟨Nat.le_of_ble_eq_true rfl, Nat.le_of_ble_eq_true rfl⟩) (js_hill_0_3_m0 cA a (hl_set_fr s (F_X0_empty 8 (hl_fr s))) (F_X0_empty 8 (hl_to (hl_set_fr s (F_X0_empty 8 (hl_fr s)))))) rfl (fun H locs hP hD hS => ?_)
  refine lv_aload_n F.1 F.2.1 (dd D_X1_empty 6 rfl) rfl (lv_at hl 0 rfl) ?_
  refine getF F hK hP lf_X1_23 (0) rfl rfl (dd D_X1_empty 7 rfl) ?_
  refine rwe (V := none) (wc := (fewW cA 8 (fun i => a (5+i)) (hl_he (hl_set_to (hl_set_fr s (F_X0_empty 8 (hl_fr s))) (F_X0_empty 8 (hl_to (hl_set_fr s (F_X0_empty 8 (hl_fr s))))))))) (wc' := (fewW cA 8 (fun i => a (5+i)) (F_X0_empty 8 (hl_he (hl_set_to (hl_set_fr s (F_X0_empty 8 (hl_fr s))) (F_X0_empty 8 (hl_to (hl_set_fr s (F_X0_empty 8 (hl_fr s)))))))))) (st' := []) (W' := (hillW cA a (hl_set_he (hl_set_to (hl_set_fr s (F_X0_empty 8 (hl_fr s))) (F_X0_empty 8 (hl_to (hl_set_fr s (F_X0_empty 8 (hl_fr s)))))) (F_X0_empty 8 (hl_he (hl_set_to (hl_set_fr s (F_X0_empty 8 (hl_fr s))) (F_X0_empty 8 (hl_to (hl_set_fr s (F_X0_empty 8 (hl_fr s))))))))))) hP hD hS hA [5, 6] (jc_hill_0_5 cA a (hl_set_to (hl_set_fr s (F_X0_empty 8 (hl_fr s))) (F_X0_empty 8 (hl_to (hl_set_fr s (F_X0_empty 8 (hl_fr s))))))) (Nat_nd rfl) rfl (rV (rest := []) F (c_X0_empty D cA 8 (fun i => a (5+i)) (hl_he (hl_set_to (hl_set_fr s (F_X0_empty 8 (hl_fr s))) (F_X0_empty 8 (hl_to (hl_set_fr s (F_X0_empty 8 (hl_fr s))))))) l H.size) lk_X1_59 (Nat.le_of_ble_eq_true rfl) (preRW hK hS hAb (selP (is := [5, 6]) hP (jc_hill_0_5 cA a (hl_set_to (hl_set_fr s (F_X0_empty 8 (hl_fr s))) (F_X0_empty 8 (hl_to (hl_set_fr s (F_X0_empty 8 (hl_fr s)))))))) (selD (is := [5, 6]) hD (Nat_nd rfl) (jc_hill_0_5 cA a (hl_set_to (hl_set_fr s (F_X0_empty 8 (hl_fr s))) (F_X0_empty 8 (hl_to (hl_set_fr s (F_X0_empty 8 (hl_fr s))))))))) (rcv_0 hK hP (q0 := (5)) rfl) rfl hl rfl (Nat.le_of_ble_eq_true rfl) (dd D_X1_empty 8 rfl) ⟨Nat.le_of_ble_eq_true rfl, Nat.le_of_ble_eq_true rfl⟩) (js_hill_0_5_m0 cA a (hl_set_to (hl_set_fr s (F_X0_empty 8 (hl_fr s))) (F_X0_empty 8 (hl_to (hl_set_fr s (F_X0_empty 8 (hl_fr s)))))) (F_X0_empty 8 (hl_he (hl_set_to (hl_set_fr s (F_X0_empty 8 (hl_fr s))) (F_X0_empty 8 (hl_to (hl_set_fr s (F_X0_empty 8 (hl_fr s))))))))) rfl (fun H locs hP hD hS => ?_)
  refine lv_aload_n F.1 F.2.1 (dd D_X1_empty 9 rfl) rfl (lv_at hl 0 rfl) ?_
  refine getF F hK hP lf_X1_26 (0) rfl rfl (dd D_X1_empty 10 rfl) ?_
  refine lv_iconst (v := (0 : Int32)) F.1 F.2.1 (dd D_X1_empty 11 rfl) ki_0 ?_
  obtain ⟨r1, e2, h⟩ := Option.bind_eq_some_iff.mp h
  refine rwe (V := none) (wc := [((a 7), .inl (cA 0, 180, .inl (hl_ln (hl_set_he (hl_set_to (hl_set_fr s (F_X0_empty 8 (hl_fr s))) (F_X0_empty 8 (hl_to (hl_set_fr s (F_X0_empty 8 (hl_fr s)))))) (F_X0_empty 8 (hl_he (hl_set_to (hl_set_fr s (F_X0_empty 8 (hl_fr s))) (F_X0_empty 8 (hl_to (hl_set_fr s (F_X0_empty 8 (hl_fr s))))))))))))]) (wc' := [((a 7), .inl (cA 0, 180, .inl r1))]) (st' := []) (W' := (hillW cA a (hl_set_ln (hl_set_he (hl_set_to (hl_set_fr s (F_X0_empty 8 (hl_fr s))) (F_X0_empty 8 (hl_to (hl_set_fr s (F_X0_empty 8 (hl_fr s)))))) (F_X0_empty 8 (hl_he (hl_set_to (hl_set_fr s (F_X0_empty 8 (hl_fr s))) (F_X0_empty 8 (hl_to (hl_set_fr s (F_X0_empty 8 (hl_fr s))))))))) r1))) hP hD hS hA [7] (jc_hill_0_7 cA a (hl_set_he (hl_set_to (hl_set_fr s (F_X0_empty 8 (hl_fr s))) (F_X0_empty 8 (hl_to (hl_set_fr s (F_X0_empty 8 (hl_fr s)))))) (F_X0_empty 8 (hl_he (hl_set_to (hl_set_fr s (F_X0_empty 8 (hl_fr s))) (F_X0_empty 8 (hl_to (hl_set_fr s (F_X0_empty 8 (hl_fr s)))))))))) (Nat_nd rfl) rfl (rS (rest := []) F (c_J7_fill_53178 D cA 180 (a 7) (hl_ln (hl_set_he (hl_set_to (hl_set_fr s (F_X0_empty 8 (hl_fr s))) (F_X0_empty 8 (hl_to (hl_set_fr s (F_X0_empty 8 (hl_fr s)))))) (F_X0_empty 8 (hl_he (hl_set_to (hl_set_fr s (F_X0_empty 8 (hl_fr s))) (F_X0_empty 8 (hl_to (hl_set_fr s (F_X0_empty 8 (hl_fr s)))))))))) n (0 : Int32) r1 e2 l H.size) lk_X1_62 (Nat.le_of_ble_eq_true rfl) (preRW hK hS hAb (selP (is := [7]) hP (jc_hill_0_7 cA a (hl_set_he (hl_set_to (hl_set_fr s (F_X0_empty 8 (hl_fr s))) (F_X0_empty 8 (hl_to (hl_set_fr s (F_X0_empty 8 (hl_fr s)))))) (F_X0_empty 8 (hl_he (hl_set_to (hl_set_fr s (F_X0_empty 8 (hl_fr s))) (F_X0_empty 8 (hl_to (hl_set_fr s (F_X0_empty 8 (hl_fr s))))))))))) (selD (is := [7]) hD (Nat_nd rfl) (jc_hill_0_7 cA a (hl_set_he (hl_set_to (hl_set_fr s (F_X0_empty 8 (hl_fr s))) (F_X0_empty 8 (hl_to (hl_set_fr s (F_X0_empty 8 (hl_fr s)))))) (F_X0_empty 8 (hl_he (hl_set_to (hl_set_fr s (F_X0_empty 8 (hl_fr s))) (F_X0_empty 8 (hl_to (hl_set_fr s (F_X0_empty 8 (hl_fr s)))))))))))) rfl hl rfl (Nat.le_of_ble_eq_true rfl) (dd D_X1_empty 12 rfl) ⟨Nat.le_of_ble_eq_true rfl, Nat.le_of_ble_eq_true rfl⟩) (js_hill_0_7_m0 cA a (hl_set_he (hl_set_to (hl_set_fr s (F_X0_empty 8 (hl_fr s))) (F_X0_empty 8 (hl_to (hl_set_fr s (F_X0_empty 8 (hl_fr s)))))) (F_X0_empty 8 (hl_he (hl_set_to (hl_set_fr s (F_X0_empty 8 (hl_fr s))) (F_X0_empty 8 (hl_to (hl_set_fr s (F_X0_empty 8 (hl_fr s))))))))) r1) rfl (fun H locs hP hD hS => ?_)
  obtain rfl := Option.some.inj h
  exact rw_v (R := rmOf 1 0 0) F hP hD hS hr hlk ⟨Nat.le_of_ble_eq_true rfl, Nat.le_of_ble_eq_true rfl⟩ ⟨rfl, rfl⟩ (dd D_X1_empty 13 rfl)
def F_X1_become (n : Nat) (s : HL) (t : HL) : Option HL := (((F_X0_become n 8 (hl_fr s) 8 (hl_fr t))).bind fun r1 => (((F_X0_become n 8 (hl_to (hl_set_fr s r1)) 8 (hl_to t))).bind fun r3 => (((F_X0_become n 8 (hl_he (hl_set_to (hl_set_fr s r1) r3)) 8 (hl_he t))).bind fun r5 => gd (acok (0 : Int32) (0 : Int32) (180 : Int32) 180 180) (some (hl_set_ln (hl_set_he (hl_set_to (hl_set_fr s r1) r3) r5) (va_cpy (hl_ln t) (hl_ln (hl_set_he (hl_set_to (hl_set_fr s r1) r3) r5)) (Int32.toNatClampNeg (0 : Int32)) (Int32.toNatClampNeg (0 : Int32)) (Int32.toNatClampNeg (180 : Int32))))))))
set_option maxHeartbeats 4000000 in
set_option maxRecDepth 100000 in
theorem c_X1_become (D : va_G) (cA : Nat → ClassId) (a : Nat → Nat) (s : HL) (b : Nat → Nat) (t : HL) (n : Nat)  (r : HL) (h : F_X1_become n s t = some r) : RW m_X1_become 2 0 0 D cA [.ref (a 0), .ref (b 0)] ((hillW cA a s) ++ (hillW cA b t)) (exq (none) ((hillW cA a r) ++ (hillW cA b t))) := by
  refine RW.ofW gy_X1_become.2.2 (Nat.le_of_ble_eq_true rfl) ?_
  intro l p e sM m below meth c A H locs F hr hlk hnm hK hP hD hS hA hAb ls hl
  have hl : lv_has ls 2 [(0, .ref (a 0)), (1, .ref (b 0))] := hl
  unfold F_X1_become at h
  refine lv_aload_n F.1 F.2.1 (dd D_X1_become 0 rfl) rfl (lv_at hl 0 rfl) ?_
  refine getF F hK hP lf_X1_16 (0) rfl rfl (dd D_X1_become 1 rfl) ?_
  refine lv_aload_n F.1 F.2.1 (dd D_X1_become 2 rfl) rfl (lv_at hl 1 rfl) ?_
  refine getF F hK hP lf_X1_16 (8) rfl rfl (dd D_X1_become 3 rfl) ?_
  obtain ⟨r1, e2, h⟩ := Option.bind_eq_some_iff.mp h
  refine rwe (V := none) (wc := ((fewW cA 8 (fun i => a (1+i)) (hl_fr s)) ++ (fewW cA 8 (fun i => b (1+i)) (hl_fr t)))) (wc' := ((fewW cA 8 (fun i => a (1+i)) r1) ++ (fewW cA 8 (fun i => b (1+i)) (hl_fr t)))) (st' := []) (W' := ((hillW cA a (hl_set_fr s r1)) ++ (hillW cA b t))) hP hD hS hA [1, 2, 9, 10] (jc_hill_hill_0_1_1_1 cA a s b t) (Nat_nd rfl) rfl (rV (rest := []) F (c_X0_become D cA 8 (fun i => a (1+i)) (hl_fr s) (fun i => b (1+i)) (hl_fr t) n r1 e2 l H.size) lk_X1_68 (Nat.le_of_ble_eq_true rfl) (preRW hK hS hAb (selP (is := [1, 2, 9, 10]) hP (jc_hill_hill_0_1_1_1 cA a s b t)) (selD (is := [1, 2, 9, 10]) hD (Nat_nd rfl) (jc_hill_hill_0_1_1_1 cA a s b t))) (rcv_0 hK hP (q0 := (1)) rfl) rfl hl rfl (Nat.le_of_ble_eq_true rfl) (dd D_X1_become 4 rfl) ⟨Nat.le_of_ble_eq_true rfl, Nat.le_of_ble_eq_true rfl⟩) (js_hill_hill_0_1_1_1_m0 cA a s b t r1) rfl (fun H locs hP hD hS => ?_)
  refine lv_aload_n F.1 F.2.1 (dd D_X1_become 5 rfl) rfl (lv_at hl 0 rfl) ?_
  refine getF F hK hP lf_X1_20 (0) rfl rfl (dd D_X1_become 6 rfl) ?_
  refine lv_aload_n F.1 F.2.1 (dd D_X1_become 7 rfl) rfl (lv_at hl 1 rfl) ?_
  refine getF F hK hP lf_X1_20 (8) rfl rfl (dd D_X1_become 8 rfl) ?_
  obtain ⟨r3, e4, h⟩ := Option.bind_eq_some_iff.mp h
  refine rwe (V := none) (wc := ((fewW cA 8 (fun i => a (3+i)) (hl_to (hl_set_fr s r1))) ++ (fewW cA 8 (fun i => b (3+i)) (hl_to t)))) (wc' := ((fewW cA 8 (fun i => a (3+i)) r3) ++ (fewW cA 8 (fun i => b (3+i)) (hl_to t)))) (st' := []) (W' := ((hillW cA a (hl_set_to (hl_set_fr s r1) r3)) ++ (hillW cA b t))) hP hD hS hA [3, 4, 11, 12] (jc_hill_hill_0_3_1_3 cA a (hl_set_fr s r1) b t) (Nat_nd rfl) rfl (rV (rest := []) F (c_X0_become D cA 8 (fun i => a (3+i)) (hl_to (hl_set_fr s r1)) (fun i => b (3+i)) (hl_to t) n r3 e4 l H.size) lk_X1_68 (Nat.le_of_ble_eq_true rfl) (preRW hK hS hAb (selP (is := [3, 4, 11, 12]) hP (jc_hill_hill_0_3_1_3 cA a (hl_set_fr s r1) b t)) (selD (is := [3, 4, 11, 12]) hD (Nat_nd rfl) (jc_hill_hill_0_3_1_3 cA a (hl_set_fr s r1) b t))) (rcv_0 hK hP (q0 := (3)) rfl) rfl hl rfl (Nat.le_of_ble_eq_true rfl) (dd D_X1_become 9 rfl) ⟨Nat.le_of_ble_eq_true rfl, Nat.le_of_ble_eq_true rfl⟩) (js_hill_hill_0_3_1_3_m0 cA a (hl_set_fr s r1) b t r3) rfl (fun H locs hP hD hS => ?_)
  refine lv_aload_n F.1 F.2.1 (dd D_X1_become 10 rfl) rfl (lv_at hl 0 rfl) ?_
  refine getF F hK hP lf_X1_23 (0) rfl rfl (dd D_X1_become 11 rfl) ?_
  refine lv_aload_n F.1 F.2.1 (dd D_X1_become 12 rfl) rfl (lv_at hl 1 rfl) ?_
  refine getF F hK hP lf_X1_23 (8) rfl rfl (dd D_X1_become 13 rfl) ?_
  obtain ⟨r5, e6, h⟩ := Option.bind_eq_some_iff.mp h
  refine rwe (V := none) (wc := ((fewW cA 8 (fun i => a (5+i)) (hl_he (hl_set_to (hl_set_fr s r1) r3))) ++ (fewW cA 8 (fun i => b (5+i)) (hl_he t)))) (wc' := ((fewW cA 8 (fun i => a (5+i)) r5) ++ (fewW cA 8 (fun i => b (5+i)) (hl_he t)))) (st' := []) (W' := ((hillW cA a (hl_set_he (hl_set_to (hl_set_fr s r1) r3) r5)) ++ (hillW cA b t))) hP hD hS hA [5, 6, 13, 14] (jc_hill_hill_0_5_1_5 cA a (hl_set_to (hl_set_fr s r1) r3) b t) (Nat_nd rfl) rfl (rV (rest := []) F (c_X0_become D cA 8 (fun i => a (5+i)) (hl_he (hl_set_to (hl_set_fr s r1) r3)) (fun i => b (5+i)) (hl_he t) n r5 e6 l H.size) lk_X1_68 (Nat.le_of_ble_eq_true rfl) (preRW hK hS hAb (selP (is := [5, 6, 13, 14]) hP (jc_hill_hill_0_5_1_5 cA a (hl_set_to (hl_set_fr s r1) r3) b t)) (selD (is := [5, 6, 13, 14]) hD (Nat_nd rfl) (jc_hill_hill_0_5_1_5 cA a (hl_set_to (hl_set_fr s r1) r3) b t))) (rcv_0 hK hP (q0 := (5)) rfl) rfl hl rfl (Nat.le_of_ble_eq_true rfl) (dd D_X1_become 14 rfl) ⟨Nat.le_of_ble_eq_true rfl, Nat.le_of_ble_eq_true rfl⟩) (js_hill_hill_0_5_1_5_m0 cA a (hl_set_to (hl_set_fr s r1) r3) b t r5) rfl (fun H locs hP hD hS => ?_)
  refine lv_aload_n F.1 F.2.1 (dd D_X1_become 15 rfl) rfl (lv_at hl 1 rfl) ?_
  refine getF F hK hP lf_X1_26 (8) rfl rfl (dd D_X1_become 16 rfl) ?_
  refine lv_iconst (v := (0 : Int32)) F.1 F.2.1 (dd D_X1_become 17 rfl) ki_0 ?_
  refine lv_aload_n F.1 F.2.1 (dd D_X1_become 18 rfl) rfl (lv_at hl 0 rfl) ?_
  refine getF F hK hP lf_X1_26 (0) rfl rfl (dd D_X1_become 19 rfl) ?_
  refine lv_iconst (v := (0 : Int32)) F.1 F.2.1 (dd D_X1_become 20 rfl) ki_0 ?_
  refine lv_sipush (v := (180 : Int32)) F.1 F.2.1 (dd D_X1_become 21 rfl) ks_180 ?_
  refine acopyI F hK hP hD hS la_X1_72 hl (15) (7) rfl rfl h (ws' := ((hillW cA a (hl_set_ln (hl_set_he (hl_set_to (hl_set_fr s r1) r3) r5) (va_cpy (hl_ln t) (hl_ln (hl_set_he (hl_set_to (hl_set_fr s r1) r3) r5)) (Int32.toNatClampNeg (0 : Int32)) (Int32.toNatClampNeg (0 : Int32)) (Int32.toNatClampNeg (180 : Int32))))) ++ (hillW cA b t))) rfl (Nat.le_of_ble_eq_true rfl) (Nat.le_of_ble_eq_true rfl) (dd D_X1_become 22 rfl) (fun h H locs hP hD hS => ?_)
  obtain rfl := Option.some.inj h
  exact rw_v (R := rmOf 2 0 0) F hP hD hS hr hlk ⟨Nat.le_of_ble_eq_true rfl, Nat.le_of_ble_eq_true rfl⟩ ⟨rfl, rfl⟩ (dd D_X1_become 23 rfl)
set_option maxHeartbeats 4000000 in
set_option maxRecDepth 100000 in
theorem c_X4_init_n (D : va_G) (cA : Nat → ClassId) (q : Nat) (p1 : Int32) (p2 : Int32) (p3 : Int32) (p4 : Int32) : RW m_X4_init 1 0 0 D cA [.ref (q), .int p1, .int p2, .int p3, .int p4, .null] [(q, .inr (4, [.int (0 : Int32), .int (0 : Int32), .int (0 : Int32), .int (0 : Int32), .null]))] (exq none [(q, .inr (4, [.int p1, .int p2, .int p3, .int p4, .null]))]) := by
  refine RW.ofW gy_X4_init.2.2 (Nat.le_of_ble_eq_true rfl) ?_
  intro l p e sM m below meth c A H locs F hr hlk hnm hK hP hD hS hA hAb ls hl
  have hl : lv_has ls 6 [(0, .ref (q)), (1, .int p1), (2, .int p2), (3, .int p3), (4, .int p4), (5, .null)] := hl
  refine lv_aload_n F.1 F.2.1 (dd D_X4_init 0 rfl) rfl (lv_at hl 0 rfl) ?_
  refine oinit F lo_X4_3 hl (Nat.le_of_ble_eq_true rfl) (Nat.le_of_ble_eq_true rfl) (dd D_X4_init 1 rfl) ?_
  refine lv_aload_n F.1 F.2.1 (dd D_X4_init 2 rfl) rfl (lv_at hl 0 rfl) ?_
  refine lv_iload_n F.1 F.2.1 (dd D_X4_init 3 rfl) rfl (lv_at hl 1 rfl) ?_
  refine putFF F hnm hK hP hD hS lp_X4_9 (0) rfl (Nat.le_of_ble_eq_true rfl) (nar_int _) (fit_int _) (ws' := [(q, .inr (4, [.int p1, .int (0 : Int32), .int (0 : Int32), .int (0 : Int32), .null]))]) rfl (dd D_X4_init 4 rfl) (fun H locs hP hD hS => ?_)
  refine lv_aload_n F.1 F.2.1 (dd D_X4_init 5 rfl) rfl (lv_at hl 0 rfl) ?_
  refine lv_iload_n F.1 F.2.1 (dd D_X4_init 6 rfl) rfl (lv_at hl 2 rfl) ?_
  refine putFF F hnm hK hP hD hS lp_X4_15 (0) rfl (Nat.le_of_ble_eq_true rfl) (nar_int _) (fit_int _) (ws' := [(q, .inr (4, [.int p1, .int p2, .int (0 : Int32), .int (0 : Int32), .null]))]) rfl (dd D_X4_init 7 rfl) (fun H locs hP hD hS => ?_)
  refine lv_aload_n F.1 F.2.1 (dd D_X4_init 8 rfl) rfl (lv_at hl 0 rfl) ?_
  refine lv_iload_n F.1 F.2.1 (dd D_X4_init 9 rfl) rfl (lv_at hl 3 rfl) ?_
  refine putFF F hnm hK hP hD hS lp_X4_18 (0) rfl (Nat.le_of_ble_eq_true rfl) (nar_int _) (fit_int _) (ws' := [(q, .inr (4, [.int p1, .int p2, .int p3, .int (0 : Int32), .null]))]) rfl (dd D_X4_init 10 rfl) (fun H locs hP hD hS => ?_)
  refine lv_aload_n F.1 F.2.1 (dd D_X4_init 11 rfl) rfl (lv_at hl 0 rfl) ?_
  refine lv_iload F.1 F.2.1 (dd D_X4_init 12 rfl) (lv_at hl 4 rfl) ?_
  refine putFF F hnm hK hP hD hS lp_X4_21 (0) rfl (Nat.le_of_ble_eq_true rfl) (nar_int _) (fit_int _) (ws' := [(q, .inr (4, [.int p1, .int p2, .int p3, .int p4, .null]))]) rfl (dd D_X4_init 13 rfl) (fun H locs hP hD hS => ?_)
  refine lv_aload_n F.1 F.2.1 (dd D_X4_init 14 rfl) rfl (lv_at hl 0 rfl) ?_
  refine lv_aloadN F.1 F.2.1 (dd D_X4_init 15 rfl) (lv_at hl 5 rfl) ?_
  refine putFF F hnm hK hP hD hS lp_X4_24 (0) rfl (Nat.le_of_ble_eq_true rfl) rfl rfl (ws' := [(q, .inr (4, [.int p1, .int p2, .int p3, .int p4, .null]))]) rfl (dd D_X4_init 16 rfl) (fun H locs hP hD hS => ?_)
  exact rw_v (R := rmOf 1 0 0) F hP hD hS hr hlk ⟨Nat.le_of_ble_eq_true rfl, Nat.le_of_ble_eq_true rfl⟩ ⟨rfl, rfl⟩ (dd D_X4_init 17 rfl)
set_option maxHeartbeats 4000000 in
set_option maxRecDepth 100000 in
theorem c_X4_init_r (D : va_G) (cA : Nat → ClassId) (q : Nat) (p1 : Int32) (p2 : Int32) (p3 : Int32) (p4 : Int32) (pa : Nat) : RW m_X4_init 1 0 0 D cA [.ref (q), .int p1, .int p2, .int p3, .int p4, .ref pa] [(q, .inr (4, [.int (0 : Int32), .int (0 : Int32), .int (0 : Int32), .int (0 : Int32), .null]))] (exq none [(q, .inr (4, [.int p1, .int p2, .int p3, .int p4, .ref pa]))]) := by
  refine RW.ofW gy_X4_init.2.2 (Nat.le_of_ble_eq_true rfl) ?_
  intro l p e sM m below meth c A H locs F hr hlk hnm hK hP hD hS hA hAb ls hl
  have hl : lv_has ls 6 [(0, .ref (q)), (1, .int p1), (2, .int p2), (3, .int p3), (4, .int p4), (5, .ref pa)] := hl
  refine lv_aload_n F.1 F.2.1 (dd D_X4_init 0 rfl) rfl (lv_at hl 0 rfl) ?_
  refine oinit F lo_X4_3 hl (Nat.le_of_ble_eq_true rfl) (Nat.le_of_ble_eq_true rfl) (dd D_X4_init 1 rfl) ?_
  refine lv_aload_n F.1 F.2.1 (dd D_X4_init 2 rfl) rfl (lv_at hl 0 rfl) ?_
  refine lv_iload_n F.1 F.2.1 (dd D_X4_init 3 rfl) rfl (lv_at hl 1 rfl) ?_
  refine putFF F hnm hK hP hD hS lp_X4_9 (0) rfl (Nat.le_of_ble_eq_true rfl) (nar_int _) (fit_int _) (ws' := [(q, .inr (4, [.int p1, .int (0 : Int32), .int (0 : Int32), .int (0 : Int32), .null]))]) rfl (dd D_X4_init 4 rfl) (fun H locs hP hD hS => ?_)
  refine lv_aload_n F.1 F.2.1 (dd D_X4_init 5 rfl) rfl (lv_at hl 0 rfl) ?_
  refine lv_iload_n F.1 F.2.1 (dd D_X4_init 6 rfl) rfl (lv_at hl 2 rfl) ?_
  refine putFF F hnm hK hP hD hS lp_X4_15 (0) rfl (Nat.le_of_ble_eq_true rfl) (nar_int _) (fit_int _) (ws' := [(q, .inr (4, [.int p1, .int p2, .int (0 : Int32), .int (0 : Int32), .null]))]) rfl (dd D_X4_init 7 rfl) (fun H locs hP hD hS => ?_)
  refine lv_aload_n F.1 F.2.1 (dd D_X4_init 8 rfl) rfl (lv_at hl 0 rfl) ?_
  refine lv_iload_n F.1 F.2.1 (dd D_X4_init 9 rfl) rfl (lv_at hl 3 rfl) ?_
  refine putFF F hnm hK hP hD hS lp_X4_18 (0) rfl (Nat.le_of_ble_eq_true rfl) (nar_int _) (fit_int _) (ws' := [(q, .inr (4, [.int p1, .int p2, .int p3, .int (0 : Int32), .null]))]) rfl (dd D_X4_init 10 rfl) (fun H locs hP hD hS => ?_)
  refine lv_aload_n F.1 F.2.1 (dd D_X4_init 11 rfl) rfl (lv_at hl 0 rfl) ?_
  refine lv_iload F.1 F.2.1 (dd D_X4_init 12 rfl) (lv_at hl 4 rfl) ?_
  refine putFF F hnm hK hP hD hS lp_X4_21 (0) rfl (Nat.le_of_ble_eq_true rfl) (nar_int _) (fit_int _) (ws' := [(q, .inr (4, [.int p1, .int p2, .int p3, .int p4, .null]))]) rfl (dd D_X4_init 13 rfl) (fun H locs hP hD hS => ?_)
  refine lv_aload_n F.1 F.2.1 (dd D_X4_init 14 rfl) rfl (lv_at hl 0 rfl) ?_
  refine lv_aload F.1 F.2.1 (dd D_X4_init 15 rfl) (lv_at hl 5 rfl) ?_
  refine putFF F hnm hK hP hD hS lp_X4_24 (0) rfl (Nat.le_of_ble_eq_true rfl) rfl rfl (ws' := [(q, .inr (4, [.int p1, .int p2, .int p3, .int p4, .ref pa]))]) rfl (dd D_X4_init 16 rfl) (fun H locs hP hD hS => ?_)
  exact rw_v (R := rmOf 1 0 0) F hP hD hS hr hlk ⟨Nat.le_of_ble_eq_true rfl, Nat.le_of_ble_eq_true rfl⟩ ⟨rfl, rfl⟩ (dd D_X4_init 17 rfl)
set_option maxHeartbeats 4000000 in
set_option maxRecDepth 100000 in
theorem c_X4_init_ (D : va_G) (cA : Nat → ClassId) (q : Nat) (p1 : Int32) : RW m_X4_init_ 2 0 0 D cA [.ref (q), .int p1] [(q, .inr (4, [.int (0 : Int32), .int (0 : Int32), .int (0 : Int32), .int (0 : Int32), .null]))] (exq none [(q, .inr (4, [.int p1, .int (0 : Int32), .int (0 : Int32), .int (0 : Int32), .null]))]) := by
  refine RW.ofW gy_X4_init_.2.2 (Nat.le_of_ble_eq_true rfl) ?_
  intro l p e sM m below meth c A H locs F hr hlk hnm hK hP hD hS hA hAb ls hl
  have hl : lv_has ls 2 [(0, .ref (q)), (1, .int p1)] := hl
  refine lv_aload_n F.1 F.2.1 (dd D_X4_init_ 0 rfl) rfl (lv_at hl 0 rfl) ?_
  refine lv_iload_n F.1 F.2.1 (dd D_X4_init_ 1 rfl) rfl (lv_at hl 1 rfl) ?_
  refine lv_iconst (v := (0 : Int32)) F.1 F.2.1 (dd D_X4_init_ 2 rfl) ki_0 ?_
  refine lv_iconst (v := (0 : Int32)) F.1 F.2.1 (dd D_X4_init_ 3 rfl) ki_0 ?_
  refine lv_iconst (v := (0 : Int32)) F.1 F.2.1 (dd D_X4_init_ 4 rfl) ki_0 ?_
  refine lv_null F.1 F.2.1 (dd D_X4_init_ 5 rfl) ?_
  refine rwe_all (st' := []) hD hS hA (rI (rest := []) F (c_X4_init_n D cA q p1 (0 : Int32) (0 : Int32) (0 : Int32) l H.size) lk_X4_28 (Nat.le_of_ble_eq_true rfl) (preRW hK hS hAb hP hD) rfl hl rfl (Nat.le_of_ble_eq_true rfl) (dd D_X4_init_ 6 rfl) ⟨Nat.le_of_ble_eq_true rfl, Nat.le_of_ble_eq_true rfl⟩) rfl (fun H locs hP hD hS => ?_)
  exact rw_v (R := rmOf 2 0 0) F hP hD hS hr hlk ⟨Nat.le_of_ble_eq_true rfl, Nat.le_of_ble_eq_true rfl⟩ ⟨rfl, rfl⟩ (dd D_X4_init_ 7 rfl)
set_option maxHeartbeats 4000000 in
set_option maxRecDepth 100000 in
theorem c_X4_init__ (D : va_G) (cA : Nat → ClassId) (q : Nat) (p1 : Int32) (p2 : Int32) (p3 : Int32) (p4 : Int32) : RW m_X4_init__ 2 0 0 D cA [.ref (q), .int p1, .int p2, .int p3, .int p4] [(q, .inr (4, [.int (0 : Int32), .int (0 : Int32), .int (0 : Int32), .int (0 : Int32), .null]))] (exq none [(q, .inr (4, [.int p1, .int p2, .int p3, .int p4, .null]))]) := by
  refine RW.ofW gy_X4_init__.2.2 (Nat.le_of_ble_eq_true rfl) ?_
  intro l p e sM m below meth c A H locs F hr hlk hnm hK hP hD hS hA hAb ls hl
  have hl : lv_has ls 5 [(0, .ref (q)), (1, .int p1), (2, .int p2), (3, .int p3), (4, .int p4)] := hl
  refine lv_aload_n F.1 F.2.1 (dd D_X4_init__ 0 rfl) rfl (lv_at hl 0 rfl) ?_
  refine lv_iload_n F.1 F.2.1 (dd D_X4_init__ 1 rfl) rfl (lv_at hl 1 rfl) ?_
  refine lv_iload_n F.1 F.2.1 (dd D_X4_init__ 2 rfl) rfl (lv_at hl 2 rfl) ?_
  refine lv_iload_n F.1 F.2.1 (dd D_X4_init__ 3 rfl) rfl (lv_at hl 3 rfl) ?_
  refine lv_iload F.1 F.2.1 (dd D_X4_init__ 4 rfl) (lv_at hl 4 rfl) ?_
  refine lv_null F.1 F.2.1 (dd D_X4_init__ 5 rfl) ?_
  refine rwe_all (st' := []) hD hS hA (rI (rest := []) F (c_X4_init_n D cA q p1 p2 p3 p4 l H.size) lk_X4_28 (Nat.le_of_ble_eq_true rfl) (preRW hK hS hAb hP hD) rfl hl rfl (Nat.le_of_ble_eq_true rfl) (dd D_X4_init__ 6 rfl) ⟨Nat.le_of_ble_eq_true rfl, Nat.le_of_ble_eq_true rfl⟩) rfl (fun H locs hP hD hS => ?_)
  exact rw_v (R := rmOf 2 0 0) F hP hD hS hr hlk ⟨Nat.le_of_ble_eq_true rfl, Nat.le_of_ble_eq_true rfl⟩ ⟨rfl, rfl⟩ (dd D_X4_init__ 7 rfl)
set_option maxHeartbeats 4000000 in
set_option maxRecDepth 100000 in
theorem c_X4_init___ (D : va_G) (cA : Nat → ClassId) (q : Nat) (pa : Nat) : RW m_X4_init___ 2 0 0 D cA [.ref (q), .ref pa] [(q, .inr (4, [.int (0 : Int32), .int (0 : Int32), .int (0 : Int32), .int (0 : Int32), .null]))] (exq none [(q, .inr (4, [.int (11 : Int32), .int (0 : Int32), .int (0 : Int32), .int (0 : Int32), .ref pa]))]) := by
  refine RW.ofW gy_X4_init___.2.2 (Nat.le_of_ble_eq_true rfl) ?_
  intro l p e sM m below meth c A H locs F hr hlk hnm hK hP hD hS hA hAb ls hl
  have hl : lv_has ls 2 [(0, .ref (q)), (1, .ref pa)] := hl
  refine lv_aload_n F.1 F.2.1 (dd D_X4_init___ 0 rfl) rfl (lv_at hl 0 rfl) ?_
  refine lv_bipush (v := (11 : Int32)) F.1 F.2.1 (dd D_X4_init___ 1 rfl) kb_11 ?_
  refine lv_iconst (v := (0 : Int32)) F.1 F.2.1 (dd D_X4_init___ 2 rfl) ki_0 ?_
  refine lv_iconst (v := (0 : Int32)) F.1 F.2.1 (dd D_X4_init___ 3 rfl) ki_0 ?_
  refine lv_iconst (v := (0 : Int32)) F.1 F.2.1 (dd D_X4_init___ 4 rfl) ki_0 ?_
  refine lv_aload_n F.1 F.2.1 (dd D_X4_init___ 5 rfl) rfl (lv_at hl 1 rfl) ?_
  refine rwe_all (st' := []) hD hS hA (rI (rest := []) F (c_X4_init_r D cA q (11 : Int32) (0 : Int32) (0 : Int32) (0 : Int32) pa l H.size) lk_X4_28 (Nat.le_of_ble_eq_true rfl) (preRW hK hS hAb hP hD) rfl hl rfl (Nat.le_of_ble_eq_true rfl) (dd D_X4_init___ 6 rfl) ⟨Nat.le_of_ble_eq_true rfl, Nat.le_of_ble_eq_true rfl⟩) rfl (fun H locs hP hD hS => ?_)
  exact rw_v (R := rmOf 2 0 0) F hP hD hS hr hlk ⟨Nat.le_of_ble_eq_true rfl, Nat.le_of_ble_eq_true rfl⟩ ⟨rfl, rfl⟩ (dd D_X4_init___ 7 rfl)
def F_X5_content (s : SH) : Int32 := ((sh_content s))
set_option maxHeartbeats 4000000 in
set_option maxRecDepth 100000 in
theorem c_X5_content (D : va_G) (cA : Nat → ClassId) (a : Nat → Nat) (s : SH)  : RO m_X5_content 0 D cA [.ref (a 0)] (shelfW cA a s) (some (.int (F_X5_content s))) := by
  obtain ⟨r, h⟩ : ∃ r, F_X5_content s = r := ⟨_, rfl⟩
  rw [h]
  refine RO.ofW gy_X5_content.2.2 (Nat.le_of_ble_eq_true rfl) ?_
  intro l p e sM m below meth c F hr hlk hK hP hS hAb ls hl
  have hl : lv_has ls 1 [(0, .ref (a 0))] := hl
  unfold F_X5_content at h
  refine lv_aload_n F.1 F.2.1 (dd D_X5_content 0 rfl) rfl (lv_at hl 0 rfl) ?_
  refine getF F hK hP lf_X5_15 (0) rfl rfl (dd D_X5_content 1 rfl) ?_
  exact ro_i (R := rmOf 0 0 0) F hr hlk (congrArg (fun z => some (Value.int z)) h) (dd D_X5_content 2 rfl)
def F_X5_isBare (s : SH) : Bool := (if (sh_content s) = (-1 : Int32) then (true) else (false))
set_option maxHeartbeats 4000000 in
set_option maxRecDepth 100000 in
theorem c_X5_isBare (D : va_G) (cA : Nat → ClassId) (a : Nat → Nat) (s : SH)  : RO m_X5_isBare 0 D cA [.ref (a 0)] (shelfW cA a s) (some (.int (bI (F_X5_isBare s)))) := by
  obtain ⟨r, h⟩ : ∃ r, F_X5_isBare s = r := ⟨_, rfl⟩
  rw [h]
  refine RO.ofW gy_X5_isBare.2.2 (Nat.le_of_ble_eq_true rfl) ?_
  intro l p e sM m below meth c F hr hlk hK hP hS hAb ls hl
  have hl : lv_has ls 1 [(0, .ref (a 0))] := hl
  unfold F_X5_isBare at h
  refine lv_aload_n F.1 F.2.1 (dd D_X5_isBare 0 rfl) rfl (lv_at hl 0 rfl) ?_
  refine getF F hK hP lf_X5_15 (0) rfl rfl (dd D_X5_isBare 1 rfl) ?_
  refine lv_iconst (v := (-1 : Int32)) F.1 F.2.1 (dd D_X5_isBare 2 rfl) ki_m1 ?_
  refine x_icmp_ne (tgt := 12) F.1 F.2.1 (dd D_X5_isBare 3 rfl) rfl h (fun c1 h => ?_) (fun c1 h => ?_)
  · refine lv_iconst (v := (0 : Int32)) F.1 F.2.1 (dd D_X5_isBare 6 rfl) ki_0 ?_
    exact ro_z (R := rmOf 0 0 0) F hr rfl hlk (congrArg (fun z => some (Value.int (bI z))) h) (dd D_X5_isBare 7 rfl)
  · refine lv_iconst (v := (1 : Int32)) F.1 F.2.1 (dd D_X5_isBare 4 rfl) ki_1 ?_
    refine lv_goto (tgt := 13) F.1 F.2.1 (dd D_X5_isBare 5 rfl) rfl ?_
    exact ro_z (R := rmOf 0 0 0) F hr rfl hlk (congrArg (fun z => some (Value.int (bI z))) h) (dd D_X5_isBare 7 rfl)
def F_X5_isEvening (s : SH) : Bool := (if (sh_content s) < (10 : Int32) then (false) else (true))
set_option maxHeartbeats 4000000 in
set_option maxRecDepth 100000 in
theorem c_X5_isEvening (D : va_G) (cA : Nat → ClassId) (a : Nat → Nat) (s : SH)  : RO m_X5_isEvening 0 D cA [.ref (a 0)] (shelfW cA a s) (some (.int (bI (F_X5_isEvening s)))) := by
  obtain ⟨r, h⟩ : ∃ r, F_X5_isEvening s = r := ⟨_, rfl⟩
  rw [h]
  refine RO.ofW gy_X5_isEvening.2.2 (Nat.le_of_ble_eq_true rfl) ?_
  intro l p e sM m below meth c F hr hlk hK hP hS hAb ls hl
  have hl : lv_has ls 1 [(0, .ref (a 0))] := hl
  unfold F_X5_isEvening at h
  refine lv_aload_n F.1 F.2.1 (dd D_X5_isEvening 0 rfl) rfl (lv_at hl 0 rfl) ?_
  refine getF F hK hP lf_X5_15 (0) rfl rfl (dd D_X5_isEvening 1 rfl) ?_
  refine lv_bipush (v := (10 : Int32)) F.1 F.2.1 (dd D_X5_isEvening 2 rfl) kb_10 ?_
  refine x_icmp_lt (tgt := 13) F.1 F.2.1 (dd D_X5_isEvening 3 rfl) rfl h (fun c1 h => ?_) (fun c1 h => ?_)
  · refine lv_iconst (v := (0 : Int32)) F.1 F.2.1 (dd D_X5_isEvening 6 rfl) ki_0 ?_
    exact ro_z (R := rmOf 0 0 0) F hr rfl hlk (congrArg (fun z => some (Value.int (bI z))) h) (dd D_X5_isEvening 7 rfl)
  · refine lv_iconst (v := (1 : Int32)) F.1 F.2.1 (dd D_X5_isEvening 4 rfl) ki_1 ?_
    refine lv_goto (tgt := 14) F.1 F.2.1 (dd D_X5_isEvening 5 rfl) rfl ?_
    exact ro_z (R := rmOf 0 0 0) F hr rfl hlk (congrArg (fun z => some (Value.int (bI z))) h) (dd D_X5_isEvening 7 rfl)
def F_X5_isRow (s : SH) : Bool := (if (sh_content s) = (-1 : Int32) then (false) else (if (10 : Int32) ≤ (sh_content s) then (false) else (true)))
set_option maxHeartbeats 4000000 in
set_option maxRecDepth 100000 in
theorem c_X5_isRow (D : va_G) (cA : Nat → ClassId) (a : Nat → Nat) (s : SH)  : RO m_X5_isRow 0 D cA [.ref (a 0)] (shelfW cA a s) (some (.int (bI (F_X5_isRow s)))) := by
  obtain ⟨r, h⟩ : ∃ r, F_X5_isRow s = r := ⟨_, rfl⟩
  rw [h]
  refine RO.ofW gy_X5_isRow.2.2 (Nat.le_of_ble_eq_true rfl) ?_
  intro l p e sM m below meth c F hr hlk hK hP hS hAb ls hl
  have hl : lv_has ls 1 [(0, .ref (a 0))] := hl
  unfold F_X5_isRow at h
  refine lv_aload_n F.1 F.2.1 (dd D_X5_isRow 0 rfl) rfl (lv_at hl 0 rfl) ?_
  refine getF F hK hP lf_X5_15 (0) rfl rfl (dd D_X5_isRow 1 rfl) ?_
  refine lv_iconst (v := (-1 : Int32)) F.1 F.2.1 (dd D_X5_isRow 2 rfl) ki_m1 ?_
  refine x_icmp_eq (tgt := 21) F.1 F.2.1 (dd D_X5_isRow 3 rfl) rfl h (fun c1 h => ?_) (fun c1 h => ?_)
  · refine lv_iconst (v := (0 : Int32)) F.1 F.2.1 (dd D_X5_isRow 10 rfl) ki_0 ?_
    exact ro_z (R := rmOf 0 0 0) F hr rfl hlk (congrArg (fun z => some (Value.int (bI z))) h) (dd D_X5_isRow 11 rfl)
  · refine lv_aload_n F.1 F.2.1 (dd D_X5_isRow 4 rfl) rfl (lv_at hl 0 rfl) ?_
    refine getF F hK hP lf_X5_15 (0) rfl rfl (dd D_X5_isRow 5 rfl) ?_
    refine lv_bipush (v := (10 : Int32)) F.1 F.2.1 (dd D_X5_isRow 6 rfl) kb_10 ?_
    refine x_icmp_ge (tgt := 21) F.1 F.2.1 (dd D_X5_isRow 7 rfl) rfl h (fun c2 h => ?_) (fun c2 h => ?_)
    · refine lv_iconst (v := (0 : Int32)) F.1 F.2.1 (dd D_X5_isRow 10 rfl) ki_0 ?_
      exact ro_z (R := rmOf 0 0 0) F hr rfl hlk (congrArg (fun z => some (Value.int (bI z))) h) (dd D_X5_isRow 11 rfl)
    · refine lv_iconst (v := (1 : Int32)) F.1 F.2.1 (dd D_X5_isRow 8 rfl) ki_1 ?_
      refine lv_goto (tgt := 22) F.1 F.2.1 (dd D_X5_isRow 9 rfl) rfl ?_
      exact ro_z (R := rmOf 0 0 0) F hr rfl hlk (congrArg (fun z => some (Value.int (bI z))) h) (dd D_X5_isRow 11 rfl)
def F_X5_isRowOfOtherSort (s : SH) (t : SH) : Bool := bf (F_X5_isRow s) (bf (F_X5_isRow t) ((if (sh_content s) = (sh_content t) then (false) else (true))) ((false))) ((false))
set_option maxHeartbeats 4000000 in
set_option maxRecDepth 100000 in
theorem c_X5_isRowOfOtherSort (D : va_G) (cA : Nat → ClassId) (a : Nat → Nat) (s : SH) (b : Nat → Nat) (t : SH)  : RO m_X5_isRowOfOtherSort 1 D cA [.ref (a 0), .ref (b 0)] ((shelfW cA a s) ++ (shelfW cA b t)) (some (.int (bI (F_X5_isRowOfOtherSort s t)))) := by
  obtain ⟨r, h⟩ : ∃ r, F_X5_isRowOfOtherSort s t = r := ⟨_, rfl⟩
  rw [h]
  refine RO.ofW gy_X5_isRowOfOtherSort.2.2 (Nat.le_of_ble_eq_true rfl) ?_
  intro l p e sM m below meth c F hr hlk hK hP hS hAb ls hl
  have hl : lv_has ls 2 [(0, .ref (a 0)), (1, .ref (b 0))] := hl
  unfold F_X5_isRowOfOtherSort at h
  refine lv_aload_n F.1 F.2.1 (dd D_X5_isRowOfOtherSort 0 rfl) rfl (lv_at hl 0 rfl) ?_
  refine ro_go (st' := [.int (bI (F_X5_isRow s))]) (rV (rest := []) F (c_X5_isRow D cA a s l) lk_X5_19 (Nat.le_of_ble_eq_true rfl) (preRO hK hS hAb (preP hP)) (rcv_5 hK hP (q0 := (0)) rfl) rfl hl rfl (Nat.le_of_ble_eq_true rfl) (dd D_X5_isRowOfOtherSort 1 rfl) ⟨Nat.le_of_ble_eq_true rfl, Nat.le_of_ble_eq_true rfl⟩) rfl ?_
  refine x_bif_eq (tgt := 29) F.1 F.2.1 (dd D_X5_isRowOfOtherSort 2 rfl) rfl h (fun c3 h => ?_) (fun c3 h => ?_)
  · refine lv_iconst (v := (0 : Int32)) F.1 F.2.1 (dd D_X5_isRowOfOtherSort 13 rfl) ki_0 ?_
    exact ro_z (R := rmOf 1 0 0) F hr rfl hlk (congrArg (fun z => some (Value.int (bI z))) h) (dd D_X5_isRowOfOtherSort 14 rfl)
  · refine lv_aload_n F.1 F.2.1 (dd D_X5_isRowOfOtherSort 3 rfl) rfl (lv_at hl 1 rfl) ?_
    refine ro_go (st' := [.int (bI (F_X5_isRow t))]) (rV (rest := []) F (c_X5_isRow D cA b t l) lk_X5_19 (Nat.le_of_ble_eq_true rfl) (preRO hK hS hAb (sufP hP)) (rcv_5 hK hP (q0 := (2)) rfl) rfl hl rfl (Nat.le_of_ble_eq_true rfl) (dd D_X5_isRowOfOtherSort 4 rfl) ⟨Nat.le_of_ble_eq_true rfl, Nat.le_of_ble_eq_true rfl⟩) rfl ?_
    refine x_bif_eq (tgt := 29) F.1 F.2.1 (dd D_X5_isRowOfOtherSort 5 rfl) rfl h (fun c2 h => ?_) (fun c2 h => ?_)
    · refine lv_iconst (v := (0 : Int32)) F.1 F.2.1 (dd D_X5_isRowOfOtherSort 13 rfl) ki_0 ?_
      exact ro_z (R := rmOf 1 0 0) F hr rfl hlk (congrArg (fun z => some (Value.int (bI z))) h) (dd D_X5_isRowOfOtherSort 14 rfl)
    · refine lv_aload_n F.1 F.2.1 (dd D_X5_isRowOfOtherSort 6 rfl) rfl (lv_at hl 0 rfl) ?_
      refine getF F hK hP lf_X5_15 (0) rfl rfl (dd D_X5_isRowOfOtherSort 7 rfl) ?_
      refine lv_aload_n F.1 F.2.1 (dd D_X5_isRowOfOtherSort 8 rfl) rfl (lv_at hl 1 rfl) ?_
      refine getF F hK hP lf_X5_15 (2) rfl rfl (dd D_X5_isRowOfOtherSort 9 rfl) ?_
      refine x_icmp_eq (tgt := 29) F.1 F.2.1 (dd D_X5_isRowOfOtherSort 10 rfl) rfl h (fun c1 h => ?_) (fun c1 h => ?_)
      · refine lv_iconst (v := (0 : Int32)) F.1 F.2.1 (dd D_X5_isRowOfOtherSort 13 rfl) ki_0 ?_
        exact ro_z (R := rmOf 1 0 0) F hr rfl hlk (congrArg (fun z => some (Value.int (bI z))) h) (dd D_X5_isRowOfOtherSort 14 rfl)
      · refine lv_iconst (v := (1 : Int32)) F.1 F.2.1 (dd D_X5_isRowOfOtherSort 11 rfl) ki_1 ?_
        refine lv_goto (tgt := 30) F.1 F.2.1 (dd D_X5_isRowOfOtherSort 12 rfl) rfl ?_
        exact ro_z (R := rmOf 1 0 0) F hr rfl hlk (congrArg (fun z => some (Value.int (bI z))) h) (dd D_X5_isRowOfOtherSort 14 rfl)
def F_X5_kind (s : SH) : Int32 := (((sh_content s) - (10 : Int32)))
set_option maxHeartbeats 4000000 in
set_option maxRecDepth 100000 in
theorem c_X5_kind (D : va_G) (cA : Nat → ClassId) (a : Nat → Nat) (s : SH)  : RO m_X5_kind 0 D cA [.ref (a 0)] (shelfW cA a s) (some (.int (F_X5_kind s))) := by
  obtain ⟨r, h⟩ : ∃ r, F_X5_kind s = r := ⟨_, rfl⟩
  rw [h]
  refine RO.ofW gy_X5_kind.2.2 (Nat.le_of_ble_eq_true rfl) ?_
  intro l p e sM m below meth c F hr hlk hK hP hS hAb ls hl
  have hl : lv_has ls 1 [(0, .ref (a 0))] := hl
  unfold F_X5_kind at h
  refine lv_aload_n F.1 F.2.1 (dd D_X5_kind 0 rfl) rfl (lv_at hl 0 rfl) ?_
  refine getF F hK hP lf_X5_15 (0) rfl rfl (dd D_X5_kind 1 rfl) ?_
  refine lv_bipush (v := (10 : Int32)) F.1 F.2.1 (dd D_X5_kind 2 rfl) kb_10 ?_
  refine lv_isub F.1 F.2.1 (dd D_X5_kind 3 rfl) ?_
  exact ro_i (R := rmOf 0 0 0) F hr hlk (congrArg (fun z => some (Value.int z)) h) (dd D_X5_kind 4 rfl)
def F_X5_day (s : SH) : Int32 := ((sh_day s))
set_option maxHeartbeats 4000000 in
set_option maxRecDepth 100000 in
theorem c_X5_day (D : va_G) (cA : Nat → ClassId) (a : Nat → Nat) (s : SH)  : RO m_X5_day 0 D cA [.ref (a 0)] (shelfW cA a s) (some (.int (F_X5_day s))) := by
  obtain ⟨r, h⟩ : ∃ r, F_X5_day s = r := ⟨_, rfl⟩
  rw [h]
  refine RO.ofW gy_X5_day.2.2 (Nat.le_of_ble_eq_true rfl) ?_
  intro l p e sM m below meth c F hr hlk hK hP hS hAb ls hl
  have hl : lv_has ls 1 [(0, .ref (a 0))] := hl
  unfold F_X5_day at h
  refine lv_aload_n F.1 F.2.1 (dd D_X5_day 0 rfl) rfl (lv_at hl 0 rfl) ?_
  refine getF F hK hP lf_X5_23 (0) rfl rfl (dd D_X5_day 1 rfl) ?_
  exact ro_i (R := rmOf 0 0 0) F hr hlk (congrArg (fun z => some (Value.int z)) h) (dd D_X5_day 2 rfl)
def F_X5_refusalAsRow (s : SH) (p1 : Int32) : Int32 := bf (F_X5_isEvening s) (((-3 : Int32))) (bf (F_X5_isBare s) (((-4 : Int32))) ((if p1 ≤ (sh_size s) then ((0 : Int32)) else ((-2 : Int32)))))
set_option maxHeartbeats 4000000 in
set_option maxRecDepth 100000 in
theorem c_X5_refusalAsRow (D : va_G) (cA : Nat → ClassId) (a : Nat → Nat) (s : SH) (p1 : Int32) : RO m_X5_refusalAsRow 1 D cA [.ref (a 0), .int p1] (shelfW cA a s) (some (.int (F_X5_refusalAsRow s p1))) := by
  obtain ⟨r, h⟩ : ∃ r, F_X5_refusalAsRow s p1 = r := ⟨_, rfl⟩
  rw [h]
  refine RO.ofW gy_X5_refusalAsRow.2.2 (Nat.le_of_ble_eq_true rfl) ?_
  intro l p e sM m below meth c F hr hlk hK hP hS hAb ls hl
  have hl : lv_has ls 2 [(0, .ref (a 0)), (1, .int p1)] := hl
  unfold F_X5_refusalAsRow at h
  refine lv_aload_n F.1 F.2.1 (dd D_X5_refusalAsRow 0 rfl) rfl (lv_at hl 0 rfl) ?_
  refine ro_go (st' := [.int (bI (F_X5_isEvening s))]) (rV (rest := []) F (c_X5_isEvening D cA a s l) lk_X5_26 (Nat.le_of_ble_eq_true rfl) (preRO hK hS hAb hP) (rcv_5 hK hP (q0 := (0)) rfl) rfl hl rfl (Nat.le_of_ble_eq_true rfl) (dd D_X5_refusalAsRow 1 rfl) ⟨Nat.le_of_ble_eq_true rfl, Nat.le_of_ble_eq_true rfl⟩) rfl ?_
  refine x_bif_eq (tgt := 10) F.1 F.2.1 (dd D_X5_refusalAsRow 2 rfl) rfl h (fun c3 h => ?_) (fun c3 h => ?_)
  · refine lv_aload_n F.1 F.2.1 (dd D_X5_refusalAsRow 5 rfl) rfl (lv_at hl 0 rfl) ?_
    refine ro_go (st' := [.int (bI (F_X5_isBare s))]) (rV (rest := []) F (c_X5_isBare D cA a s l) lk_X5_29 (Nat.le_of_ble_eq_true rfl) (preRO hK hS hAb hP) (rcv_5 hK hP (q0 := (0)) rfl) rfl hl rfl (Nat.le_of_ble_eq_true rfl) (dd D_X5_refusalAsRow 6 rfl) ⟨Nat.le_of_ble_eq_true rfl, Nat.le_of_ble_eq_true rfl⟩) rfl ?_
    refine x_bif_eq (tgt := 20) F.1 F.2.1 (dd D_X5_refusalAsRow 7 rfl) rfl h (fun c2 h => ?_) (fun c2 h => ?_)
    · refine lv_aload_n F.1 F.2.1 (dd D_X5_refusalAsRow 10 rfl) rfl (lv_at hl 0 rfl) ?_
      refine getF F hK hP lf_X5_32 (0) rfl rfl (dd D_X5_refusalAsRow 11 rfl) ?_
      refine lv_iload_n F.1 F.2.1 (dd D_X5_refusalAsRow 12 rfl) rfl (lv_at hl 1 rfl) ?_
      refine x_icmp_ge (tgt := 33) F.1 F.2.1 (dd D_X5_refusalAsRow 13 rfl) rfl h (fun c1 h => ?_) (fun c1 h => ?_)
      · refine lv_iconst (v := (0 : Int32)) F.1 F.2.1 (dd D_X5_refusalAsRow 16 rfl) ki_0 ?_
        exact ro_i (R := rmOf 1 0 0) F hr hlk (congrArg (fun z => some (Value.int z)) h) (dd D_X5_refusalAsRow 17 rfl)
      · refine lv_bipush (v := (-2 : Int32)) F.1 F.2.1 (dd D_X5_refusalAsRow 14 rfl) kb_m2 ?_
        refine lv_goto (tgt := 34) F.1 F.2.1 (dd D_X5_refusalAsRow 15 rfl) rfl ?_
        exact ro_i (R := rmOf 1 0 0) F hr hlk (congrArg (fun z => some (Value.int z)) h) (dd D_X5_refusalAsRow 17 rfl)
    · refine lv_bipush (v := (-4 : Int32)) F.1 F.2.1 (dd D_X5_refusalAsRow 8 rfl) kb_m4 ?_
      exact ro_i (R := rmOf 1 0 0) F hr hlk (congrArg (fun z => some (Value.int z)) h) (dd D_X5_refusalAsRow 9 rfl)
  · refine lv_bipush (v := (-3 : Int32)) F.1 F.2.1 (dd D_X5_refusalAsRow 3 rfl) kb_m3 ?_
    exact ro_i (R := rmOf 1 0 0) F hr hlk (congrArg (fun z => some (Value.int z)) h) (dd D_X5_refusalAsRow 4 rfl)
def F_J9_min_7cf53 (p0 : Int32) (p1 : Int32) : Int32 := (if p1 < p0 then (p1) else (p0))
set_option maxHeartbeats 4000000 in
set_option maxRecDepth 100000 in
theorem c_J9_min_7cf53 (D : va_G) (cA : Nat → ClassId)  (p0 : Int32) (p1 : Int32) : RO m_J9_min_7cf53 0 D cA [.int p0, .int p1] [] (some (.int (F_J9_min_7cf53 p0 p1))) := by
  obtain ⟨r, h⟩ : ∃ r, F_J9_min_7cf53 p0 p1 = r := ⟨_, rfl⟩
  rw [h]
  refine RO.ofW gy_J9_min_7cf53.2.2 (Nat.le_of_ble_eq_true rfl) ?_
  intro l p e sM m below meth c F hr hlk hK hP hS hAb ls hl
  have hl : lv_has ls 2 [(0, .int p0), (1, .int p1)] := hl
  unfold F_J9_min_7cf53 at h
  refine lv_iload_n F.1 F.2.1 (dd D_J9_min_7cf53 0 rfl) rfl (lv_at hl 0 rfl) ?_
  refine lv_iload_n F.1 F.2.1 (dd D_J9_min_7cf53 1 rfl) rfl (lv_at hl 1 rfl) ?_
  refine x_icmp_gt (tgt := 9) F.1 F.2.1 (dd D_J9_min_7cf53 2 rfl) rfl h (fun c1 h => ?_) (fun c1 h => ?_)
  · refine lv_iload_n F.1 F.2.1 (dd D_J9_min_7cf53 5 rfl) rfl (lv_at hl 1 rfl) ?_
    exact ro_i (R := rmOf 0 0 0) F hr hlk (congrArg (fun z => some (Value.int z)) h) (dd D_J9_min_7cf53 6 rfl)
  · refine lv_iload_n F.1 F.2.1 (dd D_J9_min_7cf53 3 rfl) rfl (lv_at hl 0 rfl) ?_
    refine lv_goto (tgt := 10) F.1 F.2.1 (dd D_J9_min_7cf53 4 rfl) rfl ?_
    exact ro_i (R := rmOf 0 0 0) F hr hlk (congrArg (fun z => some (Value.int z)) h) (dd D_J9_min_7cf53 6 rfl)
def F_J7_fill_d0a16_L6 (n : Nat) (n1 : Nat) (v1 : Int64) (v4 : Int32) : Nat → Int32 → (Nat → Int64) → Option (Nat → Int64)
  | 0, _, _ => none
  | kf + 1, w3, u0 => (if v4 ≤ w3 then some u0 else gd (inb w3 n1) (F_J7_fill_d0a16_L6 n n1 v1 v4 kf (w3 + (1 : Int32)) (vp_updL u0 (Int32.toNatClampNeg w3) v1)))
def F_J7_fill_d0a16 (n : Nat) (n1 : Nat) (f : Nat → Int64) (p1 : Int64) : Option (Nat → Int64) := F_J7_fill_d0a16_L6 n n1 p1 (Int32.ofNat n1) n (0 : Int32) f
set_option maxHeartbeats 4000000 in
set_option maxRecDepth 100000 in
theorem c_J7_fill_d0a16 (D : va_G) (cA : Nat → ClassId) (n1 : Nat) (a : Nat) (f : Nat → Int64) (n : Nat) (p1 : Int64) (r : (Nat → Int64)) (h : F_J7_fill_d0a16 n n1 f p1 = some r) : RW m_J7_fill_d0a16 0 0 0 D cA [.ref (a), .long p1] [(a, .inl (cA 1, n1, .inr (.inl f)))] (exq (none) [(a, .inl (cA 1, n1, .inr (.inl r)))]) := by
  refine RW.ofW gy_J7_fill_d0a16.2.2 (Nat.le_of_ble_eq_true rfl) ?_
  intro l p e sM m below meth c A H locs F hr hlk hnm hK hP hD hS hA hAb ls hl
  have hl : lv_has ls 5 [(0, .ref (a)), (1, .long p1)] := hl
  unfold F_J7_fill_d0a16 at h
  refine lv_iconst (v := (0 : Int32)) F.1 F.2.1 (dd D_J7_fill_d0a16 0 rfl) ki_0 ?_
  refine lv_istore_n (lv' := [(3, .int (0 : Int32)), (0, .ref (a)), (1, .long p1)]) F.1 F.2.1 (dd D_J7_fill_d0a16 1 rfl) rfl hl (Nat.le_of_ble_eq_true rfl) rfl (fun ls hl => ?_)
  refine lv_aload_n F.1 F.2.1 (dd D_J7_fill_d0a16 2 rfl) rfl (lv_at hl 1 rfl) ?_
  refine alen F hK hP (0) 1 rfl rfl (v := (Int32.ofNat n1)) rfl (dd D_J7_fill_d0a16 3 rfl) ?_
  refine lv_istore (lv' := [(4, .int (Int32.ofNat n1)), (3, .int (0 : Int32)), (0, .ref (a)), (1, .long p1)]) F.1 F.2.1 (dd D_J7_fill_d0a16 4 rfl) hl (Nat.le_of_ble_eq_true rfl) rfl (fun ls hl => ?_)
  have L3 : ∀ (kf : Nat) (w3_L3 : Int32) (u0_L3 : (Nat → Int64)) (H : Heap) (locs : List Loc) (ls : Array Slot), va_P D vwCl [(a, .inl (cA 1, n1, .inr (.inl u0_L3)))] H → va_D A [(a, .inl (cA 1, n1, .inr (.inl u0_L3)))] → va_S A sM.heap H locs → lv_has ls 5 [(0, .ref (a)), (1, .long p1), (4, .int (Int32.ofNat n1)), (3, .int w3_L3)] → F_J7_fill_d0a16_L6 n n1 p1 (Int32.ofNat n1) kf w3_L3 u0_L3 = some r → Wrw 0 0 0 D A (exq (none) [(a, .inl (cA 1, n1, .inr (.inl r)))]) p l e sM m ([.ref (a), .long p1] : List Value).toArray below meth c H locs 0 0 6 ls [] := by
    intro kf
    induction kf with
    | zero =>
      intro w3_L3 u0_L3 H locs ls hP hD hS hl h
      cases (show none = some r from h)
    | succ k_L3 ih_L3 =>
      intro w3_L3 u0_L3 H locs ls hP hD hS hl h
      unfold F_J7_fill_d0a16_L6 at h
      refine lv_iload_n F.1 F.2.1 (dd D_J7_fill_d0a16 5 rfl) rfl (lv_at hl 3 rfl) ?_
      refine lv_iload F.1 F.2.1 (dd D_J7_fill_d0a16 6 rfl) (lv_at hl 2 rfl) ?_
      refine x_icmp_ge (tgt := 22) F.1 F.2.1 (dd D_J7_fill_d0a16 7 rfl) rfl h (fun c4 h => ?_) (fun c4 h => ?_)
      · obtain rfl := Option.some.inj h
        exact rw_v (R := rmOf 0 0 0) F hP hD hS hr hlk ⟨Nat.le_of_ble_eq_true rfl, Nat.le_of_ble_eq_true rfl⟩ ⟨rfl, rfl⟩ (dd D_J7_fill_d0a16 14 rfl)
      · refine lv_aload_n F.1 F.2.1 (dd D_J7_fill_d0a16 8 rfl) rfl (lv_at hl 0 rfl) ?_
        refine lv_iload_n F.1 F.2.1 (dd D_J7_fill_d0a16 9 rfl) rfl (lv_at hl 3 rfl) ?_
        refine lv_lload_n F.1 F.2.1 (dd D_J7_fill_d0a16 10 rfl) rfl (lv_at hl 1 rfl) ?_
        refine astL F hK hP hD hS (0) rfl h (ws' := [(a, .inl (cA 1, n1, .inr (.inl (vp_updL u0_L3 (Int32.toNatClampNeg w3_L3) p1))))]) rfl (dd D_J7_fill_d0a16 11 rfl) (fun z5 h H locs hP hD hS => ?_)
        refine lv_iinc (v := (w3_L3 + (1 : Int32))) (lv' := [(3, .int (w3_L3 + (1 : Int32))), (0, .ref (a)), (1, .long p1), (4, .int (Int32.ofNat n1))]) F.1 F.2.1 (dd D_J7_fill_d0a16 12 rfl) hl (k := 3) rfl (congrArg (fun z => w3_L3 + z) ki_1) (Nat.le_of_ble_eq_true rfl) rfl (fun ls hl => ?_)
        refine lv_goto (tgt := 6) F.1 F.2.1 (dd D_J7_fill_d0a16 13 rfl) rfl ?_
        exact ih_L3 (w3_L3 + (1 : Int32)) (vp_updL u0_L3 (Int32.toNatClampNeg w3_L3) p1) _ _ ls hP hD hS (lv_sub hl [1, 2, 3, 0] rfl) h
  exact L3 n (0 : Int32) f _ _ ls hP hD hS (lv_sub hl [2, 3, 0, 1] rfl) h
def F_X5_putRow (n : Nat) (s : SH) (p1 : Int32) (p2 : Int32) : Option SH := (((F_J7_fill_d0a16 n 40 (sh_el (sh_set_size (sh_set_content s p1) (F_J9_min_7cf53 p2 (40 : Int32)))) (0 : Int64))).bind fun r1 => some (sh_set_el (sh_set_size (sh_set_content s p1) (F_J9_min_7cf53 p2 (40 : Int32))) r1))
set_option maxHeartbeats 4000000 in
set_option maxRecDepth 100000 in
theorem c_X5_putRow (D : va_G) (cA : Nat → ClassId) (a : Nat → Nat) (s : SH) (n : Nat) (p1 : Int32) (p2 : Int32) (r : SH) (h : F_X5_putRow n s p1 p2 = some r) : RW m_X5_putRow 1 0 0 D cA [.ref (a 0), .int p1, .int p2] (shelfW cA a s) (exq (none) (shelfW cA a r)) := by
  refine RW.ofW gy_X5_putRow.2.2 (Nat.le_of_ble_eq_true rfl) ?_
  intro l p e sM m below meth c A H locs F hr hlk hnm hK hP hD hS hA hAb ls hl
  have hl : lv_has ls 3 [(0, .ref (a 0)), (1, .int p1), (2, .int p2)] := hl
  unfold F_X5_putRow at h
  refine lv_aload_n F.1 F.2.1 (dd D_X5_putRow 0 rfl) rfl (lv_at hl 0 rfl) ?_
  refine lv_iload_n F.1 F.2.1 (dd D_X5_putRow 1 rfl) rfl (lv_at hl 1 rfl) ?_
  refine putF F hK hP hD hS lp_X5_15 (0) rfl (Nat.le_of_ble_eq_true rfl) (nar_int _) (fit_int _) (ws' := (shelfW cA a (sh_set_content s p1))) (hs2_0_1 cA a s p1) (dd D_X5_putRow 2 rfl) (fun H locs hP hD hS => ?_)
  refine lv_aload_n F.1 F.2.1 (dd D_X5_putRow 3 rfl) rfl (lv_at hl 0 rfl) ?_
  refine lv_iload_n F.1 F.2.1 (dd D_X5_putRow 4 rfl) rfl (lv_at hl 2 rfl) ?_
  refine lv_aload_n F.1 F.2.1 (dd D_X5_putRow 5 rfl) rfl (lv_at hl 0 rfl) ?_
  refine getF F hK hP lf_X5_11 (0) rfl rfl (dd D_X5_putRow 6 rfl) ?_
  refine alen F hK hP (1) 1 rfl rfl (v := (40 : Int32)) kn_40 (dd D_X5_putRow 7 rfl) ?_
  refine ro_go (st' := [.int (F_J9_min_7cf53 p2 (40 : Int32)), .ref (a 0)]) (rS (rest := [.ref (a 0)]) F (c_J9_min_7cf53 D cA p2 (40 : Int32) l) lk_X5_35 (Nat.le_of_ble_eq_true rfl) (preRO hK hS hAb (emP)) rfl hl rfl (Nat.le_of_ble_eq_true rfl) (dd D_X5_putRow 8 rfl) ⟨Nat.le_of_ble_eq_true rfl, Nat.le_of_ble_eq_true rfl⟩) rfl ?_
  refine putF F hK hP hD hS lp_X5_32 (0) rfl (Nat.le_of_ble_eq_true rfl) (nar_int _) (fit_int _) (ws' := (shelfW cA a (sh_set_size (sh_set_content s p1) (F_J9_min_7cf53 p2 (40 : Int32))))) (hs2_0_2 cA a (sh_set_content s p1) (F_J9_min_7cf53 p2 (40 : Int32))) (dd D_X5_putRow 9 rfl) (fun H locs hP hD hS => ?_)
  refine lv_aload_n F.1 F.2.1 (dd D_X5_putRow 10 rfl) rfl (lv_at hl 0 rfl) ?_
  refine getF F hK hP lf_X5_11 (0) rfl rfl (dd D_X5_putRow 11 rfl) ?_
  refine lv_lconst (v := (0 : Int64)) F.1 F.2.1 (dd D_X5_putRow 12 rfl) kl_0 ?_
  obtain ⟨r1, e2, h⟩ := Option.bind_eq_some_iff.mp h
  refine rwe (V := none) (wc := [((a 1), .inl (cA 1, 40, .inr (.inl (sh_el (sh_set_size (sh_set_content s p1) (F_J9_min_7cf53 p2 (40 : Int32)))))))]) (wc' := [((a 1), .inl (cA 1, 40, .inr (.inl r1)))]) (st' := []) (W' := (shelfW cA a (sh_set_el (sh_set_size (sh_set_content s p1) (F_J9_min_7cf53 p2 (40 : Int32))) r1))) hP hD hS hA [1] (jc_shelf_0_1 cA a (sh_set_size (sh_set_content s p1) (F_J9_min_7cf53 p2 (40 : Int32)))) (Nat_nd rfl) rfl (rS (rest := []) F (c_J7_fill_d0a16 D cA 40 (a 1) (sh_el (sh_set_size (sh_set_content s p1) (F_J9_min_7cf53 p2 (40 : Int32)))) n (0 : Int64) r1 e2 l H.size) lk_X5_41 (Nat.le_of_ble_eq_true rfl) (preRW hK hS hAb (selP (is := [1]) hP (jc_shelf_0_1 cA a (sh_set_size (sh_set_content s p1) (F_J9_min_7cf53 p2 (40 : Int32))))) (selD (is := [1]) hD (Nat_nd rfl) (jc_shelf_0_1 cA a (sh_set_size (sh_set_content s p1) (F_J9_min_7cf53 p2 (40 : Int32)))))) rfl hl rfl (Nat.le_of_ble_eq_true rfl) (dd D_X5_putRow 13 rfl) ⟨Nat.le_of_ble_eq_true rfl, Nat.le_of_ble_eq_true rfl⟩) (js_shelf_0_1_m0 cA a (sh_set_size (sh_set_content s p1) (F_J9_min_7cf53 p2 (40 : Int32))) r1) rfl (fun H locs hP hD hS => ?_)
  obtain rfl := Option.some.inj h
  exact rw_v (R := rmOf 1 0 0) F hP hD hS hr hlk ⟨Nat.le_of_ble_eq_true rfl, Nat.le_of_ble_eq_true rfl⟩ ⟨rfl, rfl⟩ (dd D_X5_putRow 14 rfl)
def F_X5_putEvening (s : SH) (p1 : Int32) (p2 : Int32) : SH := (sh_set_day (sh_set_content s ((10 : Int32) + p1)) p2)
set_option maxHeartbeats 4000000 in
set_option maxRecDepth 100000 in
theorem c_X5_putEvening (D : va_G) (cA : Nat → ClassId) (a : Nat → Nat) (s : SH) (p1 : Int32) (p2 : Int32) : RW m_X5_putEvening 0 0 0 D cA [.ref (a 0), .int p1, .int p2] (shelfW cA a s) (exq (none) (shelfW cA a (F_X5_putEvening s p1 p2))) := by
  obtain ⟨r, h⟩ : ∃ r, F_X5_putEvening s p1 p2 = r := ⟨_, rfl⟩
  rw [h]
  refine RW.ofW gy_X5_putEvening.2.2 (Nat.le_of_ble_eq_true rfl) ?_
  intro l p e sM m below meth c A H locs F hr hlk hnm hK hP hD hS hA hAb ls hl
  have hl : lv_has ls 3 [(0, .ref (a 0)), (1, .int p1), (2, .int p2)] := hl
  unfold F_X5_putEvening at h
  refine lv_aload_n F.1 F.2.1 (dd D_X5_putEvening 0 rfl) rfl (lv_at hl 0 rfl) ?_
  refine lv_bipush (v := (10 : Int32)) F.1 F.2.1 (dd D_X5_putEvening 1 rfl) kb_10 ?_
  refine lv_iload_n F.1 F.2.1 (dd D_X5_putEvening 2 rfl) rfl (lv_at hl 1 rfl) ?_
  refine lv_iadd F.1 F.2.1 (dd D_X5_putEvening 3 rfl) ?_
  refine putF F hK hP hD hS lp_X5_15 (0) rfl (Nat.le_of_ble_eq_true rfl) (nar_int _) (fit_int _) (ws' := (shelfW cA a (sh_set_content s ((10 : Int32) + p1)))) (hs2_0_1 cA a s ((10 : Int32) + p1)) (dd D_X5_putEvening 4 rfl) (fun H locs hP hD hS => ?_)
  refine lv_aload_n F.1 F.2.1 (dd D_X5_putEvening 5 rfl) rfl (lv_at hl 0 rfl) ?_
  refine lv_iload_n F.1 F.2.1 (dd D_X5_putEvening 6 rfl) rfl (lv_at hl 2 rfl) ?_
  refine putF F hK hP hD hS lp_X5_23 (0) rfl (Nat.le_of_ble_eq_true rfl) (nar_int _) (fit_int _) (ws' := (shelfW cA a (sh_set_day (sh_set_content s ((10 : Int32) + p1)) p2))) (hs2_0_3 cA a (sh_set_content s ((10 : Int32) + p1)) p2) (dd D_X5_putEvening 7 rfl) (fun H locs hP hD hS => ?_)
  subst h
  exact rw_v (R := rmOf 0 0 0) F hP hD hS hr hlk ⟨Nat.le_of_ble_eq_true rfl, Nat.le_of_ble_eq_true rfl⟩ ⟨rfl, rfl⟩ (dd D_X5_putEvening 8 rfl)
def F_X5_hasPlaces (s : SH) (p1 : Int32) (p2 : Int32) : Bool := (if p2 < 0 then (false) else (if (sh_size s) < p2 then (false) else (if p1 < 0 then (false) else (if ((sh_size s) - p2) < p1 then (false) else (true)))))
set_option maxHeartbeats 4000000 in
set_option maxRecDepth 100000 in
theorem c_X5_hasPlaces (D : va_G) (cA : Nat → ClassId) (a : Nat → Nat) (s : SH) (p1 : Int32) (p2 : Int32) : RO m_X5_hasPlaces 0 D cA [.ref (a 0), .int p1, .int p2] (shelfW cA a s) (some (.int (bI (F_X5_hasPlaces s p1 p2)))) := by
  obtain ⟨r, h⟩ : ∃ r, F_X5_hasPlaces s p1 p2 = r := ⟨_, rfl⟩
  rw [h]
  refine RO.ofW gy_X5_hasPlaces.2.2 (Nat.le_of_ble_eq_true rfl) ?_
  intro l p e sM m below meth c F hr hlk hK hP hS hAb ls hl
  have hl : lv_has ls 3 [(0, .ref (a 0)), (1, .int p1), (2, .int p2)] := hl
  unfold F_X5_hasPlaces at h
  refine lv_iload_n F.1 F.2.1 (dd D_X5_hasPlaces 0 rfl) rfl (lv_at hl 2 rfl) ?_
  refine x_if_lt (tgt := 30) F.1 F.2.1 (dd D_X5_hasPlaces 1 rfl) rfl h (fun c1 h => ?_) (fun c1 h => ?_)
  · refine lv_iconst (v := (0 : Int32)) F.1 F.2.1 (dd D_X5_hasPlaces 16 rfl) ki_0 ?_
    exact ro_z (R := rmOf 0 0 0) F hr rfl hlk (congrArg (fun z => some (Value.int (bI z))) h) (dd D_X5_hasPlaces 17 rfl)
  · refine lv_iload_n F.1 F.2.1 (dd D_X5_hasPlaces 2 rfl) rfl (lv_at hl 2 rfl) ?_
    refine lv_aload_n F.1 F.2.1 (dd D_X5_hasPlaces 3 rfl) rfl (lv_at hl 0 rfl) ?_
    refine getF F hK hP lf_X5_32 (0) rfl rfl (dd D_X5_hasPlaces 4 rfl) ?_
    refine x_icmp_gt (tgt := 30) F.1 F.2.1 (dd D_X5_hasPlaces 5 rfl) rfl h (fun c2 h => ?_) (fun c2 h => ?_)
    · refine lv_iconst (v := (0 : Int32)) F.1 F.2.1 (dd D_X5_hasPlaces 16 rfl) ki_0 ?_
      exact ro_z (R := rmOf 0 0 0) F hr rfl hlk (congrArg (fun z => some (Value.int (bI z))) h) (dd D_X5_hasPlaces 17 rfl)
    · refine lv_iload_n F.1 F.2.1 (dd D_X5_hasPlaces 6 rfl) rfl (lv_at hl 1 rfl) ?_
      refine x_if_lt (tgt := 30) F.1 F.2.1 (dd D_X5_hasPlaces 7 rfl) rfl h (fun c3 h => ?_) (fun c3 h => ?_)
      · refine lv_iconst (v := (0 : Int32)) F.1 F.2.1 (dd D_X5_hasPlaces 16 rfl) ki_0 ?_
        exact ro_z (R := rmOf 0 0 0) F hr rfl hlk (congrArg (fun z => some (Value.int (bI z))) h) (dd D_X5_hasPlaces 17 rfl)
      · refine lv_iload_n F.1 F.2.1 (dd D_X5_hasPlaces 8 rfl) rfl (lv_at hl 1 rfl) ?_
        refine lv_aload_n F.1 F.2.1 (dd D_X5_hasPlaces 9 rfl) rfl (lv_at hl 0 rfl) ?_
        refine getF F hK hP lf_X5_32 (0) rfl rfl (dd D_X5_hasPlaces 10 rfl) ?_
        refine lv_iload_n F.1 F.2.1 (dd D_X5_hasPlaces 11 rfl) rfl (lv_at hl 2 rfl) ?_
        refine lv_isub F.1 F.2.1 (dd D_X5_hasPlaces 12 rfl) ?_
        refine x_icmp_gt (tgt := 30) F.1 F.2.1 (dd D_X5_hasPlaces 13 rfl) rfl h (fun c4 h => ?_) (fun c4 h => ?_)
        · refine lv_iconst (v := (0 : Int32)) F.1 F.2.1 (dd D_X5_hasPlaces 16 rfl) ki_0 ?_
          exact ro_z (R := rmOf 0 0 0) F hr rfl hlk (congrArg (fun z => some (Value.int (bI z))) h) (dd D_X5_hasPlaces 17 rfl)
        · refine lv_iconst (v := (1 : Int32)) F.1 F.2.1 (dd D_X5_hasPlaces 14 rfl) ki_1 ?_
          refine lv_goto (tgt := 31) F.1 F.2.1 (dd D_X5_hasPlaces 15 rfl) rfl ?_
          exact ro_z (R := rmOf 0 0 0) F hr rfl hlk (congrArg (fun z => some (Value.int (bI z))) h) (dd D_X5_hasPlaces 17 rfl)
def F_X5_at (n : Nat) (s : SH) (p1 : Int32) : Option Int64 := (if p1 < 0 then some ((0 : Int64)) else (if (sh_size s) ≤ p1 then some ((0 : Int64)) else (if (40 : Int32) ≤ p1 then some ((0 : Int64)) else gd (inb p1 40) (some (((sh_el s) (Int32.toNatClampNeg p1)))))))
set_option maxHeartbeats 4000000 in
set_option maxRecDepth 100000 in
theorem c_X5_at (D : va_G) (cA : Nat → ClassId) (a : Nat → Nat) (s : SH) (n : Nat) (p1 : Int32) (r : Int64) (h : F_X5_at n s p1 = some r) : RO m_X5_at 0 D cA [.ref (a 0), .int p1] (shelfW cA a s) (some (.long r)) := by
  refine RO.ofW gy_X5_at.2.2 (Nat.le_of_ble_eq_true rfl) ?_
  intro l p e sM m below meth c F hr hlk hK hP hS hAb ls hl
  have hl : lv_has ls 2 [(0, .ref (a 0)), (1, .int p1)] := hl
  unfold F_X5_at at h
  refine lv_iload_n F.1 F.2.1 (dd D_X5_at 0 rfl) rfl (lv_at hl 1 rfl) ?_
  refine x_if_lt (tgt := 30) F.1 F.2.1 (dd D_X5_at 1 rfl) rfl h (fun c1 h => ?_) (fun c1 h => ?_)
  · refine lv_lconst (v := (0 : Int64)) F.1 F.2.1 (dd D_X5_at 16 rfl) kl_0 ?_
    exact ro_l (R := rmOf 0 0 0) F hr hlk (congrArg (Option.map Value.long) h) (dd D_X5_at 17 rfl)
  · refine lv_iload_n F.1 F.2.1 (dd D_X5_at 2 rfl) rfl (lv_at hl 1 rfl) ?_
    refine lv_aload_n F.1 F.2.1 (dd D_X5_at 3 rfl) rfl (lv_at hl 0 rfl) ?_
    refine getF F hK hP lf_X5_32 (0) rfl rfl (dd D_X5_at 4 rfl) ?_
    refine x_icmp_ge (tgt := 30) F.1 F.2.1 (dd D_X5_at 5 rfl) rfl h (fun c2 h => ?_) (fun c2 h => ?_)
    · refine lv_lconst (v := (0 : Int64)) F.1 F.2.1 (dd D_X5_at 16 rfl) kl_0 ?_
      exact ro_l (R := rmOf 0 0 0) F hr hlk (congrArg (Option.map Value.long) h) (dd D_X5_at 17 rfl)
    · refine lv_iload_n F.1 F.2.1 (dd D_X5_at 6 rfl) rfl (lv_at hl 1 rfl) ?_
      refine lv_aload_n F.1 F.2.1 (dd D_X5_at 7 rfl) rfl (lv_at hl 0 rfl) ?_
      refine getF F hK hP lf_X5_11 (0) rfl rfl (dd D_X5_at 8 rfl) ?_
      refine alen F hK hP (1) 1 rfl rfl (v := (40 : Int32)) kn_40 (dd D_X5_at 9 rfl) ?_
      refine x_icmp_ge (tgt := 30) F.1 F.2.1 (dd D_X5_at 10 rfl) rfl h (fun c3 h => ?_) (fun c3 h => ?_)
      · refine lv_lconst (v := (0 : Int64)) F.1 F.2.1 (dd D_X5_at 16 rfl) kl_0 ?_
        exact ro_l (R := rmOf 0 0 0) F hr hlk (congrArg (Option.map Value.long) h) (dd D_X5_at 17 rfl)
      · refine lv_aload_n F.1 F.2.1 (dd D_X5_at 11 rfl) rfl (lv_at hl 0 rfl) ?_
        refine getF F hK hP lf_X5_11 (0) rfl rfl (dd D_X5_at 12 rfl) ?_
        refine lv_iload_n F.1 F.2.1 (dd D_X5_at 13 rfl) rfl (lv_at hl 1 rfl) ?_
        refine aldL F hK hP (1) rfl h (dd D_X5_at 14 rfl) (fun z4 h => ?_)
        refine lv_goto (tgt := 31) F.1 F.2.1 (dd D_X5_at 15 rfl) rfl ?_
        exact ro_l (R := rmOf 0 0 0) F hr hlk (congrArg (Option.map Value.long) h) (dd D_X5_at 17 rfl)
def F_X5_cut (s : SH) (p1 : Int64) : Int64 := (if (sh_content s) = (0 : Int32) then ((Int32.toInt64 (Int8.toInt32 (Int32.toInt8 (Int64.toInt32 p1))))) else (if (sh_content s) = (1 : Int32) then ((Int32.toInt64 (Int16.toInt32 (Int32.toInt16 (Int64.toInt32 p1))))) else (if (sh_content s) = (2 : Int32) then ((Int32.toInt64 (Int64.toInt32 p1))) else (if (sh_content s) = (3 : Int32) then (p1) else (if (sh_content s) = (4 : Int32) then (if (lg_cmp p1 (0 : Int64)) = 0 then ((0 : Int64)) else ((1 : Int64))) else (p1))))))
set_option maxHeartbeats 4000000 in
set_option maxRecDepth 100000 in
theorem c_X5_cut (D : va_G) (cA : Nat → ClassId) (a : Nat → Nat) (s : SH) (p1 : Int64) : RO m_X5_cut 0 D cA [.ref (a 0), .long p1] (shelfW cA a s) (some (.long (F_X5_cut s p1))) := by
  obtain ⟨r, h⟩ : ∃ r, F_X5_cut s p1 = r := ⟨_, rfl⟩
  rw [h]
  refine RO.ofW gy_X5_cut.2.2 (Nat.le_of_ble_eq_true rfl) ?_
  intro l p e sM m below meth c F hr hlk hK hP hS hAb ls hl
  have hl : lv_has ls 3 [(0, .ref (a 0)), (1, .long p1)] := hl
  unfold F_X5_cut at h
  refine lv_aload_n F.1 F.2.1 (dd D_X5_cut 0 rfl) rfl (lv_at hl 0 rfl) ?_
  refine getF F hK hP lf_X5_15 (0) rfl rfl (dd D_X5_cut 1 rfl) ?_
  refine x_ts (tgt := 40) F.1 F.2.1 (0 : Int32) (dd D_X5_cut 2 rfl) h (by decide) (by decide) rfl rfl (fun c1_0 h => ?_) (fun c1_0 h => ?_)
  · refine lv_lload_n F.1 F.2.1 (dd D_X5_cut 3 rfl) rfl (lv_at hl 1 rfl) ?_
    refine lv_l2i (v := (Int64.toInt32 p1)) F.1 F.2.1 (dd D_X5_cut 4 rfl) rfl ?_
    refine lv_i2b (v := (Int8.toInt32 (Int32.toInt8 (Int64.toInt32 p1)))) F.1 F.2.1 (dd D_X5_cut 5 rfl) rfl ?_
    refine lv_i2l (v := (Int32.toInt64 (Int8.toInt32 (Int32.toInt8 (Int64.toInt32 p1))))) F.1 F.2.1 (dd D_X5_cut 6 rfl) rfl ?_
    exact ro_l (R := rmOf 0 0 0) F hr hlk (congrArg (fun z => some (Value.long z)) h) (dd D_X5_cut 7 rfl)
  refine x_ts (tgt := 45) F.1 F.2.1 (1 : Int32) (dd D_X5_cut 2 rfl) h (by decide) (by decide) rfl rfl (fun c1_1 h => ?_) (fun c1_1 h => ?_)
  · refine lv_lload_n F.1 F.2.1 (dd D_X5_cut 8 rfl) rfl (lv_at hl 1 rfl) ?_
    refine lv_l2i (v := (Int64.toInt32 p1)) F.1 F.2.1 (dd D_X5_cut 9 rfl) rfl ?_
    refine lv_i2s (v := (Int16.toInt32 (Int32.toInt16 (Int64.toInt32 p1)))) F.1 F.2.1 (dd D_X5_cut 10 rfl) rfl ?_
    refine lv_i2l (v := (Int32.toInt64 (Int16.toInt32 (Int32.toInt16 (Int64.toInt32 p1))))) F.1 F.2.1 (dd D_X5_cut 11 rfl) rfl ?_
    exact ro_l (R := rmOf 0 0 0) F hr hlk (congrArg (fun z => some (Value.long z)) h) (dd D_X5_cut 12 rfl)
  refine x_ts (tgt := 50) F.1 F.2.1 (2 : Int32) (dd D_X5_cut 2 rfl) h (by decide) (by decide) rfl rfl (fun c1_2 h => ?_) (fun c1_2 h => ?_)
  · refine lv_lload_n F.1 F.2.1 (dd D_X5_cut 13 rfl) rfl (lv_at hl 1 rfl) ?_
    refine lv_l2i (v := (Int64.toInt32 p1)) F.1 F.2.1 (dd D_X5_cut 14 rfl) rfl ?_
    refine lv_i2l (v := (Int32.toInt64 (Int64.toInt32 p1))) F.1 F.2.1 (dd D_X5_cut 15 rfl) rfl ?_
    exact ro_l (R := rmOf 0 0 0) F hr hlk (congrArg (fun z => some (Value.long z)) h) (dd D_X5_cut 16 rfl)
  refine x_ts (tgt := 66) F.1 F.2.1 (3 : Int32) (dd D_X5_cut 2 rfl) h (by decide) (by decide) rfl rfl (fun c1_3 h => ?_) (fun c1_3 h => ?_)
  · refine lv_lload_n F.1 F.2.1 (dd D_X5_cut 25 rfl) rfl (lv_at hl 1 rfl) ?_
    exact ro_l (R := rmOf 0 0 0) F hr hlk (congrArg (fun z => some (Value.long z)) h) (dd D_X5_cut 26 rfl)
  refine x_ts (tgt := 54) F.1 F.2.1 (4 : Int32) (dd D_X5_cut 2 rfl) h (by decide) (by decide) rfl rfl (fun c1_4 h => ?_) (fun c1_4 h => ?_)
  · refine lv_lload_n F.1 F.2.1 (dd D_X5_cut 17 rfl) rfl (lv_at hl 1 rfl) ?_
    refine lv_lconst (v := (0 : Int64)) F.1 F.2.1 (dd D_X5_cut 18 rfl) kl_0 ?_
    refine W.lcmp F.1 F.2.1 (dd D_X5_cut 19 rfl) ?_
    refine x_if_ne (tgt := 64) F.1 F.2.1 (dd D_X5_cut 20 rfl) rfl h (fun c2 h => ?_) (fun c2 h => ?_)
    · refine lv_lconst (v := (1 : Int64)) F.1 F.2.1 (dd D_X5_cut 23 rfl) kl_1 ?_
      exact ro_l (R := rmOf 0 0 0) F hr hlk (congrArg (fun z => some (Value.long z)) h) (dd D_X5_cut 24 rfl)
    · refine lv_lconst (v := (0 : Int64)) F.1 F.2.1 (dd D_X5_cut 21 rfl) kl_0 ?_
      refine lv_goto (tgt := 65) F.1 F.2.1 (dd D_X5_cut 22 rfl) rfl ?_
      exact ro_l (R := rmOf 0 0 0) F hr hlk (congrArg (fun z => some (Value.long z)) h) (dd D_X5_cut 24 rfl)
  refine lv_tableOut (tgt := 66) F.1 F.2.1 (dd D_X5_cut 2 rfl) (ts_out (lo := 0) (vs := [(0 : Int32), (1 : Int32), (2 : Int32), (3 : Int32), (4 : Int32)]) tsv_0_5 (by intro v hv; simp only [List.mem_cons, List.not_mem_nil, or_false] at hv; rcases hv with rfl | rfl | rfl | rfl | rfl <;> assumption)) rfl ?_
  refine lv_lload_n F.1 F.2.1 (dd D_X5_cut 25 rfl) rfl (lv_at hl 1 rfl) ?_
  exact ro_l (R := rmOf 0 0 0) F hr hlk (congrArg (fun z => some (Value.long z)) h) (dd D_X5_cut 26 rfl)
def F_X5_put (n : Nat) (s : SH) (p1 : Int32) (p2 : Int64) : Option SH := (if p1 < 0 then some s else (if (sh_size s) ≤ p1 then some s else (if (40 : Int32) ≤ p1 then some s else gd (inb p1 40) (some (sh_set_el s (vp_updL (sh_el s) (Int32.toNatClampNeg p1) (F_X5_cut s p2)))))))
set_option maxHeartbeats 4000000 in
set_option maxRecDepth 100000 in
theorem c_X5_put (D : va_G) (cA : Nat → ClassId) (a : Nat → Nat) (s : SH) (n : Nat) (p1 : Int32) (p2 : Int64) (r : SH) (h : F_X5_put n s p1 p2 = some r) : RW m_X5_put 1 0 0 D cA [.ref (a 0), .int p1, .long p2] (shelfW cA a s) (exq (none) (shelfW cA a r)) := by
  refine RW.ofW gy_X5_put.2.2 (Nat.le_of_ble_eq_true rfl) ?_
  intro l p e sM m below meth c A H locs F hr hlk hnm hK hP hD hS hA hAb ls hl
  have hl : lv_has ls 4 [(0, .ref (a 0)), (1, .int p1), (2, .long p2)] := hl
  unfold F_X5_put at h
  refine lv_iload_n F.1 F.2.1 (dd D_X5_put 0 rfl) rfl (lv_at hl 1 rfl) ?_
  refine x_if_lt (tgt := 32) F.1 F.2.1 (dd D_X5_put 1 rfl) rfl h (fun c1 h => ?_) (fun c1 h => ?_)
  · obtain rfl := Option.some.inj h
    exact rw_v (R := rmOf 1 0 0) F hP hD hS hr hlk ⟨Nat.le_of_ble_eq_true rfl, Nat.le_of_ble_eq_true rfl⟩ ⟨rfl, rfl⟩ (dd D_X5_put 18 rfl)
  · refine lv_iload_n F.1 F.2.1 (dd D_X5_put 2 rfl) rfl (lv_at hl 1 rfl) ?_
    refine lv_aload_n F.1 F.2.1 (dd D_X5_put 3 rfl) rfl (lv_at hl 0 rfl) ?_
    refine getF F hK hP lf_X5_32 (0) rfl rfl (dd D_X5_put 4 rfl) ?_
    refine x_icmp_ge (tgt := 32) F.1 F.2.1 (dd D_X5_put 5 rfl) rfl h (fun c2 h => ?_) (fun c2 h => ?_)
    · obtain rfl := Option.some.inj h
      exact rw_v (R := rmOf 1 0 0) F hP hD hS hr hlk ⟨Nat.le_of_ble_eq_true rfl, Nat.le_of_ble_eq_true rfl⟩ ⟨rfl, rfl⟩ (dd D_X5_put 18 rfl)
    · refine lv_iload_n F.1 F.2.1 (dd D_X5_put 6 rfl) rfl (lv_at hl 1 rfl) ?_
      refine lv_aload_n F.1 F.2.1 (dd D_X5_put 7 rfl) rfl (lv_at hl 0 rfl) ?_
      refine getF F hK hP lf_X5_11 (0) rfl rfl (dd D_X5_put 8 rfl) ?_
      refine alen F hK hP (1) 1 rfl rfl (v := (40 : Int32)) kn_40 (dd D_X5_put 9 rfl) ?_
      refine x_icmp_ge (tgt := 32) F.1 F.2.1 (dd D_X5_put 10 rfl) rfl h (fun c3 h => ?_) (fun c3 h => ?_)
      · obtain rfl := Option.some.inj h
        exact rw_v (R := rmOf 1 0 0) F hP hD hS hr hlk ⟨Nat.le_of_ble_eq_true rfl, Nat.le_of_ble_eq_true rfl⟩ ⟨rfl, rfl⟩ (dd D_X5_put 18 rfl)
      · refine lv_aload_n F.1 F.2.1 (dd D_X5_put 11 rfl) rfl (lv_at hl 0 rfl) ?_
        refine getF F hK hP lf_X5_11 (0) rfl rfl (dd D_X5_put 12 rfl) ?_
        refine lv_iload_n F.1 F.2.1 (dd D_X5_put 13 rfl) rfl (lv_at hl 1 rfl) ?_
        refine lv_aload_n F.1 F.2.1 (dd D_X5_put 14 rfl) rfl (lv_at hl 0 rfl) ?_
        refine lv_lload_n F.1 F.2.1 (dd D_X5_put 15 rfl) rfl (lv_at hl 2 rfl) ?_
        refine ro_go (st' := [.long (F_X5_cut s p2), .int p1, .ref (a 1)]) (rV (rest := [.int p1, .ref (a 1)]) F (c_X5_cut D cA a s p2 l) lk_X5_47 (Nat.le_of_ble_eq_true rfl) (preRO hK hS hAb hP) (rcv_5 hK hP (q0 := (0)) rfl) rfl hl rfl (Nat.le_of_ble_eq_true rfl) (dd D_X5_put 16 rfl) ⟨Nat.le_of_ble_eq_true rfl, Nat.le_of_ble_eq_true rfl⟩) rfl ?_
        refine astL F hK hP hD hS (1) rfl h (ws' := (shelfW cA a (sh_set_el s (vp_updL (sh_el s) (Int32.toNatClampNeg p1) (F_X5_cut s p2))))) (hs2_1 cA a s (vp_updL (sh_el s) (Int32.toNatClampNeg p1) (F_X5_cut s p2))) (dd D_X5_put 17 rfl) (fun z4 h H locs hP hD hS => ?_)
        obtain rfl := Option.some.inj h
        exact rw_v (R := rmOf 1 0 0) F hP hD hS hr hlk ⟨Nat.le_of_ble_eq_true rfl, Nat.le_of_ble_eq_true rfl⟩ ⟨rfl, rfl⟩ (dd D_X5_put 18 rfl)
def F_X5_take (n : Nat) (s : SH) (t : SH) (p2 : Int32) (p3 : Int32) (p4 : Int32) : Option SH := bf (F_X5_hasPlaces t p2 p4) (bf (F_X5_hasPlaces s p3 p4) (gd (acok p2 p3 p4 40 40) (some (sh_set_el s (va_cpy (sh_el t) (sh_el s) (Int32.toNatClampNeg p2) (Int32.toNatClampNeg p3) (Int32.toNatClampNeg p4))))) (some s)) (some s)
set_option maxHeartbeats 4000000 in
set_option maxRecDepth 100000 in
theorem c_X5_take (D : va_G) (cA : Nat → ClassId) (a : Nat → Nat) (s : SH) (b : Nat → Nat) (t : SH) (n : Nat) (p2 : Int32) (p3 : Int32) (p4 : Int32) (r : SH) (h : F_X5_take n s t p2 p3 p4 = some r) : RW m_X5_take 1 0 0 D cA [.ref (a 0), .ref (b 0), .int p2, .int p3, .int p4] ((shelfW cA a s) ++ (shelfW cA b t)) (exq (none) ((shelfW cA a r) ++ (shelfW cA b t))) := by
  refine RW.ofW gy_X5_take.2.2 (Nat.le_of_ble_eq_true rfl) ?_
  intro l p e sM m below meth c A H locs F hr hlk hnm hK hP hD hS hA hAb ls hl
  have hl : lv_has ls 5 [(0, .ref (a 0)), (1, .ref (b 0)), (2, .int p2), (3, .int p3), (4, .int p4)] := hl
  unfold F_X5_take at h
  refine lv_aload_n F.1 F.2.1 (dd D_X5_take 0 rfl) rfl (lv_at hl 1 rfl) ?_
  refine lv_iload_n F.1 F.2.1 (dd D_X5_take 1 rfl) rfl (lv_at hl 2 rfl) ?_
  refine lv_iload F.1 F.2.1 (dd D_X5_take 2 rfl) (lv_at hl 4 rfl) ?_
  refine ro_go (st' := [.int (bI (F_X5_hasPlaces t p2 p4))]) (rV (rest := []) F (c_X5_hasPlaces D cA b t p2 p4 l) lk_X5_51 (Nat.le_of_ble_eq_true rfl) (preRO hK hS hAb (sufP hP)) (rcv_5 hK hP (q0 := (2)) rfl) rfl hl rfl (Nat.le_of_ble_eq_true rfl) (dd D_X5_take 3 rfl) ⟨Nat.le_of_ble_eq_true rfl, Nat.le_of_ble_eq_true rfl⟩) rfl ?_
  refine x_bif_eq (tgt := 35) F.1 F.2.1 (dd D_X5_take 4 rfl) rfl h (fun c2 h => ?_) (fun c2 h => ?_)
  · obtain rfl := Option.some.inj h
    exact rw_v (R := rmOf 1 0 0) F hP hD hS hr hlk ⟨Nat.le_of_ble_eq_true rfl, Nat.le_of_ble_eq_true rfl⟩ ⟨rfl, rfl⟩ (dd D_X5_take 18 rfl)
  · refine lv_aload_n F.1 F.2.1 (dd D_X5_take 5 rfl) rfl (lv_at hl 0 rfl) ?_
    refine lv_iload_n F.1 F.2.1 (dd D_X5_take 6 rfl) rfl (lv_at hl 3 rfl) ?_
    refine lv_iload F.1 F.2.1 (dd D_X5_take 7 rfl) (lv_at hl 4 rfl) ?_
    refine ro_go (st' := [.int (bI (F_X5_hasPlaces s p3 p4))]) (rV (rest := []) F (c_X5_hasPlaces D cA a s p3 p4 l) lk_X5_51 (Nat.le_of_ble_eq_true rfl) (preRO hK hS hAb (preP hP)) (rcv_5 hK hP (q0 := (0)) rfl) rfl hl rfl (Nat.le_of_ble_eq_true rfl) (dd D_X5_take 8 rfl) ⟨Nat.le_of_ble_eq_true rfl, Nat.le_of_ble_eq_true rfl⟩) rfl ?_
    refine x_bif_eq (tgt := 35) F.1 F.2.1 (dd D_X5_take 9 rfl) rfl h (fun c1 h => ?_) (fun c1 h => ?_)
    · obtain rfl := Option.some.inj h
      exact rw_v (R := rmOf 1 0 0) F hP hD hS hr hlk ⟨Nat.le_of_ble_eq_true rfl, Nat.le_of_ble_eq_true rfl⟩ ⟨rfl, rfl⟩ (dd D_X5_take 18 rfl)
    · refine lv_aload_n F.1 F.2.1 (dd D_X5_take 10 rfl) rfl (lv_at hl 1 rfl) ?_
      refine getF F hK hP lf_X5_11 (2) rfl rfl (dd D_X5_take 11 rfl) ?_
      refine lv_iload_n F.1 F.2.1 (dd D_X5_take 12 rfl) rfl (lv_at hl 2 rfl) ?_
      refine lv_aload_n F.1 F.2.1 (dd D_X5_take 13 rfl) rfl (lv_at hl 0 rfl) ?_
      refine getF F hK hP lf_X5_11 (0) rfl rfl (dd D_X5_take 14 rfl) ?_
      refine lv_iload_n F.1 F.2.1 (dd D_X5_take 15 rfl) rfl (lv_at hl 3 rfl) ?_
      refine lv_iload F.1 F.2.1 (dd D_X5_take 16 rfl) (lv_at hl 4 rfl) ?_
      refine acopyL F hK hP hD hS la_X5_55 hl (3) (1) rfl rfl h (ws' := ((shelfW cA a (sh_set_el s (va_cpy (sh_el t) (sh_el s) (Int32.toNatClampNeg p2) (Int32.toNatClampNeg p3) (Int32.toNatClampNeg p4)))) ++ (shelfW cA b t))) rfl (Nat.le_of_ble_eq_true rfl) (Nat.le_of_ble_eq_true rfl) (dd D_X5_take 17 rfl) (fun h H locs hP hD hS => ?_)
      obtain rfl := Option.some.inj h
      exact rw_v (R := rmOf 1 0 0) F hP hD hS hr hlk ⟨Nat.le_of_ble_eq_true rfl, Nat.le_of_ble_eq_true rfl⟩ ⟨rfl, rfl⟩ (dd D_X5_take 18 rfl)
def F_X5_timesOf_L6 (n : Nat) (u0 : SH) (v1 : Int64) (v3 : Int32) : Nat → Int32 → Int32 → Option Int32
  | 0, _, _ => none
  | kf + 1, w4, w5 => (if v3 ≤ w5 then some (w4) else (((F_X5_at n u0 w5)).bind fun r2 => (if (lg_cmp r2 v1) = 0 then F_X5_timesOf_L6 n u0 v1 v3 kf (w4 + (1 : Int32)) (w5 + (1 : Int32)) else F_X5_timesOf_L6 n u0 v1 v3 kf w4 (w5 + (1 : Int32)))))
def F_X5_timesOf (n : Nat) (s : SH) (p1 : Int64) (p2 : Int32) : Option Int32 := F_X5_timesOf_L6 n s p1 p2 n (0 : Int32) (0 : Int32)
set_option maxHeartbeats 4000000 in
set_option maxRecDepth 100000 in
theorem c_X5_timesOf (D : va_G) (cA : Nat → ClassId) (a : Nat → Nat) (s : SH) (n : Nat) (p1 : Int64) (p2 : Int32) (r : Int32) (h : F_X5_timesOf n s p1 p2 = some r) : RO m_X5_timesOf 1 D cA [.ref (a 0), .long p1, .int p2] (shelfW cA a s) (some (.int r)) := by
  refine RO.ofW gy_X5_timesOf.2.2 (Nat.le_of_ble_eq_true rfl) ?_
  intro l p e sM m below meth c F hr hlk hK hP hS hAb ls hl
  have hl : lv_has ls 6 [(0, .ref (a 0)), (1, .long p1), (3, .int p2)] := hl
  unfold F_X5_timesOf at h
  refine lv_iconst (v := (0 : Int32)) F.1 F.2.1 (dd D_X5_timesOf 0 rfl) ki_0 ?_
  refine lv_istore (lv' := [(4, .int (0 : Int32)), (0, .ref (a 0)), (1, .long p1), (3, .int p2)]) F.1 F.2.1 (dd D_X5_timesOf 1 rfl) hl (Nat.le_of_ble_eq_true rfl) rfl (fun ls hl => ?_)
  refine lv_iconst (v := (0 : Int32)) F.1 F.2.1 (dd D_X5_timesOf 2 rfl) ki_0 ?_
  refine lv_istore (lv' := [(5, .int (0 : Int32)), (4, .int (0 : Int32)), (0, .ref (a 0)), (1, .long p1), (3, .int p2)]) F.1 F.2.1 (dd D_X5_timesOf 3 rfl) hl (Nat.le_of_ble_eq_true rfl) rfl (fun ls hl => ?_)
  have L5 : ∀ (kf : Nat) (w4_L5 : Int32) (w5_L5 : Int32) (ls : Array Slot), lv_has ls 6 [(0, .ref (a 0)), (1, .long p1), (3, .int p2), (4, .int w4_L5), (5, .int w5_L5)] → F_X5_timesOf_L6 n s p1 p2 kf w4_L5 w5_L5 = some r → Wro 1 (some (.int r)) p l e sM m ([.ref (a 0), .long p1, .int p2] : List Value).toArray below meth c 6 ls [] := by
    intro kf
    induction kf with
    | zero =>
      intro w4_L5 w5_L5 ls hl h
      cases (show none = some r from h)
    | succ k_L5 ih_L5 =>
      intro w4_L5 w5_L5 ls hl h
      unfold F_X5_timesOf_L6 at h
      refine lv_iload F.1 F.2.1 (dd D_X5_timesOf 4 rfl) (lv_at hl 4 rfl) ?_
      refine lv_iload_n F.1 F.2.1 (dd D_X5_timesOf 5 rfl) rfl (lv_at hl 2 rfl) ?_
      refine x_icmp_ge (tgt := 32) F.1 F.2.1 (dd D_X5_timesOf 6 rfl) rfl h (fun c6 h => ?_) (fun c6 h => ?_)
      · refine lv_iload F.1 F.2.1 (dd D_X5_timesOf 16 rfl) (lv_at hl 3 rfl) ?_
        exact ro_i (R := rmOf 1 0 0) F hr hlk (congrArg (Option.map Value.int) h) (dd D_X5_timesOf 17 rfl)
      · refine lv_aload_n F.1 F.2.1 (dd D_X5_timesOf 7 rfl) rfl (lv_at hl 0 rfl) ?_
        refine lv_iload F.1 F.2.1 (dd D_X5_timesOf 8 rfl) (lv_at hl 4 rfl) ?_
        obtain ⟨r7, e8, h⟩ := Option.bind_eq_some_iff.mp h
        refine ro_go (st' := [.long r7]) (rV (rest := []) F (c_X5_at D cA a s n w5_L5 r7 e8 l) lk_X5_61 (Nat.le_of_ble_eq_true rfl) (preRO hK hS hAb hP) (rcv_5 hK hP (q0 := (0)) rfl) rfl hl rfl (Nat.le_of_ble_eq_true rfl) (dd D_X5_timesOf 9 rfl) ⟨Nat.le_of_ble_eq_true rfl, Nat.le_of_ble_eq_true rfl⟩) rfl ?_
        refine lv_lload_n F.1 F.2.1 (dd D_X5_timesOf 10 rfl) rfl (lv_at hl 1 rfl) ?_
        refine W.lcmp F.1 F.2.1 (dd D_X5_timesOf 11 rfl) ?_
        refine x_if_ne (tgt := 26) F.1 F.2.1 (dd D_X5_timesOf 12 rfl) rfl h (fun c9 h => ?_) (fun c9 h => ?_)
        · refine lv_iinc (v := (w5_L5 + (1 : Int32))) (lv' := [(5, .int (w5_L5 + (1 : Int32))), (0, .ref (a 0)), (1, .long p1), (3, .int p2), (4, .int w4_L5)]) F.1 F.2.1 (dd D_X5_timesOf 14 rfl) hl (k := 4) rfl (congrArg (fun z => w5_L5 + z) ki_1) (Nat.le_of_ble_eq_true rfl) rfl (fun ls hl => ?_)
          refine lv_goto (tgt := 6) F.1 F.2.1 (dd D_X5_timesOf 15 rfl) rfl ?_
          exact ih_L5 w4_L5 (w5_L5 + (1 : Int32)) ls (lv_sub hl [1, 2, 3, 4, 0] rfl) h
        · refine lv_iinc (v := (w4_L5 + (1 : Int32))) (lv' := [(4, .int (w4_L5 + (1 : Int32))), (0, .ref (a 0)), (1, .long p1), (3, .int p2), (5, .int w5_L5)]) F.1 F.2.1 (dd D_X5_timesOf 13 rfl) hl (k := 3) rfl (congrArg (fun z => w4_L5 + z) ki_1) (Nat.le_of_ble_eq_true rfl) rfl (fun ls hl => ?_)
          refine lv_iinc (v := (w5_L5 + (1 : Int32))) (lv' := [(5, .int (w5_L5 + (1 : Int32))), (4, .int (w4_L5 + (1 : Int32))), (0, .ref (a 0)), (1, .long p1), (3, .int p2)]) F.1 F.2.1 (dd D_X5_timesOf 14 rfl) hl (k := 4) rfl (congrArg (fun z => w5_L5 + z) ki_1) (Nat.le_of_ble_eq_true rfl) rfl (fun ls hl => ?_)
          refine lv_goto (tgt := 6) F.1 F.2.1 (dd D_X5_timesOf 15 rfl) rfl ?_
          exact ih_L5 (w4_L5 + (1 : Int32)) (w5_L5 + (1 : Int32)) ls (lv_sub hl [2, 3, 4, 1, 0] rfl) h
  exact L5 n (0 : Int32) (0 : Int32) ls (lv_sub hl [2, 3, 4, 1, 0] rfl) h
def F_X5_isSpan (n : Nat) (s : SH) (p1 : Int32) (p2 : Int32) : Option Bool := (((F_X5_at n s p1)).bind fun r1 => (if (lg_cmp (Int32.toInt64 p2) r1) < 0 then some (false) else (((F_X5_at n s (p1 + (1 : Int32)))).bind fun r4 => (if 0 < (lg_cmp (Int32.toInt64 p2) r4) then some (false) else some (true)))))
set_option maxHeartbeats 4000000 in
set_option maxRecDepth 100000 in
theorem c_X5_isSpan (D : va_G) (cA : Nat → ClassId) (a : Nat → Nat) (s : SH) (n : Nat) (p1 : Int32) (p2 : Int32) (r : Bool) (h : F_X5_isSpan n s p1 p2 = some r) : RO m_X5_isSpan 1 D cA [.ref (a 0), .int p1, .int p2] (shelfW cA a s) (some (.int (bI r))) := by
  refine RO.ofW gy_X5_isSpan.2.2 (Nat.le_of_ble_eq_true rfl) ?_
  intro l p e sM m below meth c F hr hlk hK hP hS hAb ls hl
  have hl : lv_has ls 3 [(0, .ref (a 0)), (1, .int p1), (2, .int p2)] := hl
  unfold F_X5_isSpan at h
  refine lv_iload_n F.1 F.2.1 (dd D_X5_isSpan 0 rfl) rfl (lv_at hl 2 rfl) ?_
  refine lv_i2l (v := (Int32.toInt64 p2)) F.1 F.2.1 (dd D_X5_isSpan 1 rfl) rfl ?_
  refine lv_aload_n F.1 F.2.1 (dd D_X5_isSpan 2 rfl) rfl (lv_at hl 0 rfl) ?_
  refine lv_iload_n F.1 F.2.1 (dd D_X5_isSpan 3 rfl) rfl (lv_at hl 1 rfl) ?_
  obtain ⟨r1, e2, h⟩ := Option.bind_eq_some_iff.mp h
  refine ro_go (st' := [.long r1, .long (Int32.toInt64 p2)]) (rV (rest := [.long (Int32.toInt64 p2)]) F (c_X5_at D cA a s n p1 r1 e2 l) lk_X5_61 (Nat.le_of_ble_eq_true rfl) (preRO hK hS hAb hP) (rcv_5 hK hP (q0 := (0)) rfl) rfl hl rfl (Nat.le_of_ble_eq_true rfl) (dd D_X5_isSpan 4 rfl) ⟨Nat.le_of_ble_eq_true rfl, Nat.le_of_ble_eq_true rfl⟩) rfl ?_
  refine W.lcmp F.1 F.2.1 (dd D_X5_isSpan 5 rfl) ?_
  refine x_if_lt (tgt := 28) F.1 F.2.1 (dd D_X5_isSpan 6 rfl) rfl h (fun c3 h => ?_) (fun c3 h => ?_)
  · refine lv_iconst (v := (0 : Int32)) F.1 F.2.1 (dd D_X5_isSpan 18 rfl) ki_0 ?_
    exact ro_z (R := rmOf 1 0 0) F hr rfl hlk (congrArg (Option.map fun z => Value.int (bI z)) h) (dd D_X5_isSpan 19 rfl)
  · refine lv_iload_n F.1 F.2.1 (dd D_X5_isSpan 7 rfl) rfl (lv_at hl 2 rfl) ?_
    refine lv_i2l (v := (Int32.toInt64 p2)) F.1 F.2.1 (dd D_X5_isSpan 8 rfl) rfl ?_
    refine lv_aload_n F.1 F.2.1 (dd D_X5_isSpan 9 rfl) rfl (lv_at hl 0 rfl) ?_
    refine lv_iload_n F.1 F.2.1 (dd D_X5_isSpan 10 rfl) rfl (lv_at hl 1 rfl) ?_
    refine lv_iconst (v := (1 : Int32)) F.1 F.2.1 (dd D_X5_isSpan 11 rfl) ki_1 ?_
    refine lv_iadd F.1 F.2.1 (dd D_X5_isSpan 12 rfl) ?_
    obtain ⟨r4, e5, h⟩ := Option.bind_eq_some_iff.mp h
    refine ro_go (st' := [.long r4, .long (Int32.toInt64 p2)]) (rV (rest := [.long (Int32.toInt64 p2)]) F (c_X5_at D cA a s n (p1 + (1 : Int32)) r4 e5 l) lk_X5_61 (Nat.le_of_ble_eq_true rfl) (preRO hK hS hAb hP) (rcv_5 hK hP (q0 := (0)) rfl) rfl hl rfl (Nat.le_of_ble_eq_true rfl) (dd D_X5_isSpan 13 rfl) ⟨Nat.le_of_ble_eq_true rfl, Nat.le_of_ble_eq_true rfl⟩) rfl ?_
    refine W.lcmp F.1 F.2.1 (dd D_X5_isSpan 14 rfl) ?_
    refine x_if_gt (tgt := 28) F.1 F.2.1 (dd D_X5_isSpan 15 rfl) rfl h (fun c6 h => ?_) (fun c6 h => ?_)
    · refine lv_iconst (v := (0 : Int32)) F.1 F.2.1 (dd D_X5_isSpan 18 rfl) ki_0 ?_
      exact ro_z (R := rmOf 1 0 0) F hr rfl hlk (congrArg (Option.map fun z => Value.int (bI z)) h) (dd D_X5_isSpan 19 rfl)
    · refine lv_iconst (v := (1 : Int32)) F.1 F.2.1 (dd D_X5_isSpan 16 rfl) ki_1 ?_
      refine lv_goto (tgt := 29) F.1 F.2.1 (dd D_X5_isSpan 17 rfl) rfl ?_
      exact ro_z (R := rmOf 1 0 0) F hr rfl hlk (congrArg (Option.map fun z => Value.int (bI z)) h) (dd D_X5_isSpan 19 rfl)
def F_X5_isMonthCount (n : Nat) (s : SH) (p1 : Int32) : Option Bool := (((F_X5_at n s p1)).bind fun r1 => (if (lg_cmp r1 (29 : Int64)) = 0 then some (true) else (((F_X5_at n s p1)).bind fun r4 => (if (lg_cmp r4 (30 : Int64)) = 0 then some (true) else some (false)))))
set_option maxHeartbeats 4000000 in
set_option maxRecDepth 100000 in
theorem c_X5_isMonthCount (D : va_G) (cA : Nat → ClassId) (a : Nat → Nat) (s : SH) (n : Nat) (p1 : Int32) (r : Bool) (h : F_X5_isMonthCount n s p1 = some r) : RO m_X5_isMonthCount 1 D cA [.ref (a 0), .int p1] (shelfW cA a s) (some (.int (bI r))) := by
  refine RO.ofW gy_X5_isMonthCount.2.2 (Nat.le_of_ble_eq_true rfl) ?_
  intro l p e sM m below meth c F hr hlk hK hP hS hAb ls hl
  have hl : lv_has ls 2 [(0, .ref (a 0)), (1, .int p1)] := hl
  unfold F_X5_isMonthCount at h
  refine lv_aload_n F.1 F.2.1 (dd D_X5_isMonthCount 0 rfl) rfl (lv_at hl 0 rfl) ?_
  refine lv_iload_n F.1 F.2.1 (dd D_X5_isMonthCount 1 rfl) rfl (lv_at hl 1 rfl) ?_
  obtain ⟨r1, e2, h⟩ := Option.bind_eq_some_iff.mp h
  refine ro_go (st' := [.long r1]) (rV (rest := []) F (c_X5_at D cA a s n p1 r1 e2 l) lk_X5_61 (Nat.le_of_ble_eq_true rfl) (preRO hK hS hAb hP) (rcv_5 hK hP (q0 := (0)) rfl) rfl hl rfl (Nat.le_of_ble_eq_true rfl) (dd D_X5_isMonthCount 2 rfl) ⟨Nat.le_of_ble_eq_true rfl, Nat.le_of_ble_eq_true rfl⟩) rfl ?_
  refine lv_ldc2 (own := RX5) (v := (29 : Int64)) F.1 F.2.1 F.2.2.2.1 (F.2.2.2.2 _ (kL_X5_65)) (dd D_X5_isMonthCount 3 rfl) ?_
  refine W.lcmp F.1 F.2.1 (dd D_X5_isMonthCount 4 rfl) ?_
  refine x_if_eq (tgt := 24) F.1 F.2.1 (dd D_X5_isMonthCount 5 rfl) rfl h (fun c3 h => ?_) (fun c3 h => ?_)
  · refine lv_iconst (v := (1 : Int32)) F.1 F.2.1 (dd D_X5_isMonthCount 12 rfl) ki_1 ?_
    refine lv_goto (tgt := 29) F.1 F.2.1 (dd D_X5_isMonthCount 13 rfl) rfl ?_
    exact ro_z (R := rmOf 1 0 0) F hr rfl hlk (congrArg (Option.map fun z => Value.int (bI z)) h) (dd D_X5_isMonthCount 15 rfl)
  · refine lv_aload_n F.1 F.2.1 (dd D_X5_isMonthCount 6 rfl) rfl (lv_at hl 0 rfl) ?_
    refine lv_iload_n F.1 F.2.1 (dd D_X5_isMonthCount 7 rfl) rfl (lv_at hl 1 rfl) ?_
    obtain ⟨r4, e5, h⟩ := Option.bind_eq_some_iff.mp h
    refine ro_go (st' := [.long r4]) (rV (rest := []) F (c_X5_at D cA a s n p1 r4 e5 l) lk_X5_61 (Nat.le_of_ble_eq_true rfl) (preRO hK hS hAb hP) (rcv_5 hK hP (q0 := (0)) rfl) rfl hl rfl (Nat.le_of_ble_eq_true rfl) (dd D_X5_isMonthCount 8 rfl) ⟨Nat.le_of_ble_eq_true rfl, Nat.le_of_ble_eq_true rfl⟩) rfl ?_
    refine lv_ldc2 (own := RX5) (v := (30 : Int64)) F.1 F.2.1 F.2.2.2.1 (F.2.2.2.2 _ (kL_X5_67)) (dd D_X5_isMonthCount 9 rfl) ?_
    refine W.lcmp F.1 F.2.1 (dd D_X5_isMonthCount 10 rfl) ?_
    refine x_if_ne (tgt := 28) F.1 F.2.1 (dd D_X5_isMonthCount 11 rfl) rfl h (fun c6 h => ?_) (fun c6 h => ?_)
    · refine lv_iconst (v := (0 : Int32)) F.1 F.2.1 (dd D_X5_isMonthCount 14 rfl) ki_0 ?_
      exact ro_z (R := rmOf 1 0 0) F hr rfl hlk (congrArg (Option.map fun z => Value.int (bI z)) h) (dd D_X5_isMonthCount 15 rfl)
    · refine lv_iconst (v := (1 : Int32)) F.1 F.2.1 (dd D_X5_isMonthCount 12 rfl) ki_1 ?_
      refine lv_goto (tgt := 29) F.1 F.2.1 (dd D_X5_isMonthCount 13 rfl) rfl ?_
      exact ro_z (R := rmOf 1 0 0) F hr rfl hlk (congrArg (Option.map fun z => Value.int (bI z)) h) (dd D_X5_isMonthCount 15 rfl)
def F_X5_monthCounts_L4 (n : Nat) (u0 : SH) (v1 : Int32) : Nat → Int32 → Int32 → Option Int32
  | 0, _, _ => none
  | kf + 1, w2, w3 => (if v1 ≤ w3 then some (w2) else (((F_X5_isMonthCount n u0 w3)).bind fun r2 => bf r2 (F_X5_monthCounts_L4 n u0 v1 kf (w2 + (1 : Int32)) (w3 + (1 : Int32))) (F_X5_monthCounts_L4 n u0 v1 kf w2 (w3 + (1 : Int32)))))
def F_X5_monthCounts (n : Nat) (s : SH) (p1 : Int32) : Option Int32 := F_X5_monthCounts_L4 n s p1 n (0 : Int32) (0 : Int32)
set_option maxHeartbeats 4000000 in
set_option maxRecDepth 100000 in
theorem c_X5_monthCounts (D : va_G) (cA : Nat → ClassId) (a : Nat → Nat) (s : SH) (n : Nat) (p1 : Int32) (r : Int32) (h : F_X5_monthCounts n s p1 = some r) : RO m_X5_monthCounts 2 D cA [.ref (a 0), .int p1] (shelfW cA a s) (some (.int r)) := by
  refine RO.ofW gy_X5_monthCounts.2.2 (Nat.le_of_ble_eq_true rfl) ?_
  intro l p e sM m below meth c F hr hlk hK hP hS hAb ls hl
  have hl : lv_has ls 4 [(0, .ref (a 0)), (1, .int p1)] := hl
  unfold F_X5_monthCounts at h
  refine lv_iconst (v := (0 : Int32)) F.1 F.2.1 (dd D_X5_monthCounts 0 rfl) ki_0 ?_
  refine lv_istore_n (lv' := [(2, .int (0 : Int32)), (0, .ref (a 0)), (1, .int p1)]) F.1 F.2.1 (dd D_X5_monthCounts 1 rfl) rfl hl (Nat.le_of_ble_eq_true rfl) rfl (fun ls hl => ?_)
  refine lv_iconst (v := (0 : Int32)) F.1 F.2.1 (dd D_X5_monthCounts 2 rfl) ki_0 ?_
  refine lv_istore_n (lv' := [(3, .int (0 : Int32)), (2, .int (0 : Int32)), (0, .ref (a 0)), (1, .int p1)]) F.1 F.2.1 (dd D_X5_monthCounts 3 rfl) rfl hl (Nat.le_of_ble_eq_true rfl) rfl (fun ls hl => ?_)
  have L5 : ∀ (kf : Nat) (w2_L5 : Int32) (w3_L5 : Int32) (ls : Array Slot), lv_has ls 4 [(0, .ref (a 0)), (1, .int p1), (2, .int w2_L5), (3, .int w3_L5)] → F_X5_monthCounts_L4 n s p1 kf w2_L5 w3_L5 = some r → Wro 2 (some (.int r)) p l e sM m ([.ref (a 0), .int p1] : List Value).toArray below meth c 4 ls [] := by
    intro kf
    induction kf with
    | zero =>
      intro w2_L5 w3_L5 ls hl h
      cases (show none = some r from h)
    | succ k_L5 ih_L5 =>
      intro w2_L5 w3_L5 ls hl h
      unfold F_X5_monthCounts_L4 at h
      refine lv_iload_n F.1 F.2.1 (dd D_X5_monthCounts 4 rfl) rfl (lv_at hl 3 rfl) ?_
      refine lv_iload_n F.1 F.2.1 (dd D_X5_monthCounts 5 rfl) rfl (lv_at hl 1 rfl) ?_
      refine x_icmp_ge (tgt := 26) F.1 F.2.1 (dd D_X5_monthCounts 6 rfl) rfl h (fun c6 h => ?_) (fun c6 h => ?_)
      · refine lv_iload_n F.1 F.2.1 (dd D_X5_monthCounts 14 rfl) rfl (lv_at hl 2 rfl) ?_
        exact ro_i (R := rmOf 2 0 0) F hr hlk (congrArg (Option.map Value.int) h) (dd D_X5_monthCounts 15 rfl)
      · refine lv_aload_n F.1 F.2.1 (dd D_X5_monthCounts 7 rfl) rfl (lv_at hl 0 rfl) ?_
        refine lv_iload_n F.1 F.2.1 (dd D_X5_monthCounts 8 rfl) rfl (lv_at hl 3 rfl) ?_
        obtain ⟨r7, e8, h⟩ := Option.bind_eq_some_iff.mp h
        refine ro_go (st' := [.int (bI r7)]) (rV (rest := []) F (c_X5_isMonthCount D cA a s n w3_L5 r7 e8 l) lk_X5_69 (Nat.le_of_ble_eq_true rfl) (preRO hK hS hAb hP) (rcv_5 hK hP (q0 := (0)) rfl) rfl hl rfl (Nat.le_of_ble_eq_true rfl) (dd D_X5_monthCounts 9 rfl) ⟨Nat.le_of_ble_eq_true rfl, Nat.le_of_ble_eq_true rfl⟩) rfl ?_
        refine x_bif_eq (tgt := 20) F.1 F.2.1 (dd D_X5_monthCounts 10 rfl) rfl h (fun c9 h => ?_) (fun c9 h => ?_)
        · refine lv_iinc (v := (w3_L5 + (1 : Int32))) (lv' := [(3, .int (w3_L5 + (1 : Int32))), (0, .ref (a 0)), (1, .int p1), (2, .int w2_L5)]) F.1 F.2.1 (dd D_X5_monthCounts 12 rfl) hl (k := 3) rfl (congrArg (fun z => w3_L5 + z) ki_1) (Nat.le_of_ble_eq_true rfl) rfl (fun ls hl => ?_)
          refine lv_goto (tgt := 4) F.1 F.2.1 (dd D_X5_monthCounts 13 rfl) rfl ?_
          exact ih_L5 w2_L5 (w3_L5 + (1 : Int32)) ls (lv_sub hl [1, 2, 3, 0] rfl) h
        · refine lv_iinc (v := (w2_L5 + (1 : Int32))) (lv' := [(2, .int (w2_L5 + (1 : Int32))), (0, .ref (a 0)), (1, .int p1), (3, .int w3_L5)]) F.1 F.2.1 (dd D_X5_monthCounts 11 rfl) hl (k := 2) rfl (congrArg (fun z => w2_L5 + z) ki_1) (Nat.le_of_ble_eq_true rfl) rfl (fun ls hl => ?_)
          refine lv_iinc (v := (w3_L5 + (1 : Int32))) (lv' := [(3, .int (w3_L5 + (1 : Int32))), (2, .int (w2_L5 + (1 : Int32))), (0, .ref (a 0)), (1, .int p1)]) F.1 F.2.1 (dd D_X5_monthCounts 12 rfl) hl (k := 3) rfl (congrArg (fun z => w3_L5 + z) ki_1) (Nat.le_of_ble_eq_true rfl) rfl (fun ls hl => ?_)
          refine lv_goto (tgt := 4) F.1 F.2.1 (dd D_X5_monthCounts 13 rfl) rfl ?_
          exact ih_L5 (w2_L5 + (1 : Int32)) (w3_L5 + (1 : Int32)) ls (lv_sub hl [2, 3, 1, 0] rfl) h
  exact L5 n (0 : Int32) (0 : Int32) ls (lv_sub hl [2, 3, 1, 0] rfl) h
def F_X5_longestRun_L7 (n : Nat) (u0 : SH) (v1 : Int32) : Nat → Int32 → Int32 → Int32 → Option Int32
  | 0, _, _, _ => none
  | kf + 1, w2, w3, w4 => (if v1 ≤ w4 then some (w2) else (((F_X5_isMonthCount n u0 w4)).bind fun r2 => bf r2 (F_X5_longestRun_L7 n u0 v1 kf (F_J9_max_7cf53 w2 (w3 + (1 : Int32))) (w3 + (1 : Int32)) (w4 + (1 : Int32))) (F_X5_longestRun_L7 n u0 v1 kf (F_J9_max_7cf53 w2 (0 : Int32)) (0 : Int32) (w4 + (1 : Int32)))))
def F_X5_longestRun (n : Nat) (s : SH) (p1 : Int32) : Option Int32 := F_X5_longestRun_L7 n s p1 n (0 : Int32) (0 : Int32) (0 : Int32)
set_option maxHeartbeats 4000000 in
set_option maxRecDepth 100000 in
theorem c_X5_longestRun (D : va_G) (cA : Nat → ClassId) (a : Nat → Nat) (s : SH) (n : Nat) (p1 : Int32) (r : Int32) (h : F_X5_longestRun n s p1 = some r) : RO m_X5_longestRun 2 D cA [.ref (a 0), .int p1] (shelfW cA a s) (some (.int r)) := by
  refine RO.ofW gy_X5_longestRun.2.2 (Nat.le_of_ble_eq_true rfl) ?_
  intro l p e sM m below meth c F hr hlk hK hP hS hAb ls hl
  have hl : lv_has ls 5 [(0, .ref (a 0)), (1, .int p1)] := hl
  unfold F_X5_longestRun at h
  refine lv_iconst (v := (0 : Int32)) F.1 F.2.1 (dd D_X5_longestRun 0 rfl) ki_0 ?_
  refine lv_istore_n (lv' := [(2, .int (0 : Int32)), (0, .ref (a 0)), (1, .int p1)]) F.1 F.2.1 (dd D_X5_longestRun 1 rfl) rfl hl (Nat.le_of_ble_eq_true rfl) rfl (fun ls hl => ?_)
  refine lv_iconst (v := (0 : Int32)) F.1 F.2.1 (dd D_X5_longestRun 2 rfl) ki_0 ?_
  refine lv_istore_n (lv' := [(3, .int (0 : Int32)), (2, .int (0 : Int32)), (0, .ref (a 0)), (1, .int p1)]) F.1 F.2.1 (dd D_X5_longestRun 3 rfl) rfl hl (Nat.le_of_ble_eq_true rfl) rfl (fun ls hl => ?_)
  refine lv_iconst (v := (0 : Int32)) F.1 F.2.1 (dd D_X5_longestRun 4 rfl) ki_0 ?_
  refine lv_istore (lv' := [(4, .int (0 : Int32)), (3, .int (0 : Int32)), (2, .int (0 : Int32)), (0, .ref (a 0)), (1, .int p1)]) F.1 F.2.1 (dd D_X5_longestRun 5 rfl) hl (Nat.le_of_ble_eq_true rfl) rfl (fun ls hl => ?_)
  have L5 : ∀ (kf : Nat) (w2_L5 : Int32) (w3_L5 : Int32) (w4_L5 : Int32) (ls : Array Slot), lv_has ls 5 [(0, .ref (a 0)), (1, .int p1), (2, .int w2_L5), (3, .int w3_L5), (4, .int w4_L5)] → F_X5_longestRun_L7 n s p1 kf w2_L5 w3_L5 w4_L5 = some r → Wro 2 (some (.int r)) p l e sM m ([.ref (a 0), .int p1] : List Value).toArray below meth c 7 ls [] := by
    intro kf
    induction kf with
    | zero =>
      intro w2_L5 w3_L5 w4_L5 ls hl h
      cases (show none = some r from h)
    | succ k_L5 ih_L5 =>
      intro w2_L5 w3_L5 w4_L5 ls hl h
      unfold F_X5_longestRun_L7 at h
      refine lv_iload F.1 F.2.1 (dd D_X5_longestRun 6 rfl) (lv_at hl 4 rfl) ?_
      refine lv_iload_n F.1 F.2.1 (dd D_X5_longestRun 7 rfl) rfl (lv_at hl 1 rfl) ?_
      refine x_icmp_ge (tgt := 42) F.1 F.2.1 (dd D_X5_longestRun 8 rfl) rfl h (fun c6 h => ?_) (fun c6 h => ?_)
      · refine lv_iload_n F.1 F.2.1 (dd D_X5_longestRun 25 rfl) rfl (lv_at hl 2 rfl) ?_
        exact ro_i (R := rmOf 2 0 0) F hr hlk (congrArg (Option.map Value.int) h) (dd D_X5_longestRun 26 rfl)
      · refine lv_aload_n F.1 F.2.1 (dd D_X5_longestRun 9 rfl) rfl (lv_at hl 0 rfl) ?_
        refine lv_iload F.1 F.2.1 (dd D_X5_longestRun 10 rfl) (lv_at hl 4 rfl) ?_
        obtain ⟨r7, e8, h⟩ := Option.bind_eq_some_iff.mp h
        refine ro_go (st' := [.int (bI r7)]) (rV (rest := []) F (c_X5_isMonthCount D cA a s n w4_L5 r7 e8 l) lk_X5_69 (Nat.le_of_ble_eq_true rfl) (preRO hK hS hAb hP) (rcv_5 hK hP (q0 := (0)) rfl) rfl hl rfl (Nat.le_of_ble_eq_true rfl) (dd D_X5_longestRun 11 rfl) ⟨Nat.le_of_ble_eq_true rfl, Nat.le_of_ble_eq_true rfl⟩) rfl ?_
        refine x_bif_eq (tgt := 28) F.1 F.2.1 (dd D_X5_longestRun 12 rfl) rfl h (fun c9 h => ?_) (fun c9 h => ?_)
        · refine lv_iconst (v := (0 : Int32)) F.1 F.2.1 (dd D_X5_longestRun 17 rfl) ki_0 ?_
          refine lv_istore_n (lv' := [(3, .int (0 : Int32)), (0, .ref (a 0)), (1, .int p1), (2, .int w2_L5), (4, .int w4_L5)]) F.1 F.2.1 (dd D_X5_longestRun 18 rfl) rfl hl (Nat.le_of_ble_eq_true rfl) rfl (fun ls hl => ?_)
          refine lv_iload_n F.1 F.2.1 (dd D_X5_longestRun 19 rfl) rfl (lv_at hl 3 rfl) ?_
          refine lv_iload_n F.1 F.2.1 (dd D_X5_longestRun 20 rfl) rfl (lv_at hl 0 rfl) ?_
          refine ro_go (st' := [.int (F_J9_max_7cf53 w2_L5 (0 : Int32))]) (rS (rest := []) F (c_J9_max_7cf53 D cA w2_L5 (0 : Int32) l) lk_X5_73 (Nat.le_of_ble_eq_true rfl) (preRO hK hS hAb (emP)) rfl hl rfl (Nat.le_of_ble_eq_true rfl) (dd D_X5_longestRun 21 rfl) ⟨Nat.le_of_ble_eq_true rfl, Nat.le_of_ble_eq_true rfl⟩) rfl ?_
          refine lv_istore_n (lv' := [(2, .int (F_J9_max_7cf53 w2_L5 (0 : Int32))), (3, .int (0 : Int32)), (0, .ref (a 0)), (1, .int p1), (4, .int w4_L5)]) F.1 F.2.1 (dd D_X5_longestRun 22 rfl) rfl hl (Nat.le_of_ble_eq_true rfl) rfl (fun ls hl => ?_)
          refine lv_iinc (v := (w4_L5 + (1 : Int32))) (lv' := [(4, .int (w4_L5 + (1 : Int32))), (2, .int (F_J9_max_7cf53 w2_L5 (0 : Int32))), (3, .int (0 : Int32)), (0, .ref (a 0)), (1, .int p1)]) F.1 F.2.1 (dd D_X5_longestRun 23 rfl) hl (k := 4) rfl (congrArg (fun z => w4_L5 + z) ki_1) (Nat.le_of_ble_eq_true rfl) rfl (fun ls hl => ?_)
          refine lv_goto (tgt := 7) F.1 F.2.1 (dd D_X5_longestRun 24 rfl) rfl ?_
          exact ih_L5 (F_J9_max_7cf53 w2_L5 (0 : Int32)) (0 : Int32) (w4_L5 + (1 : Int32)) ls (lv_sub hl [3, 4, 1, 2, 0] rfl) h
        · refine lv_iload_n F.1 F.2.1 (dd D_X5_longestRun 13 rfl) rfl (lv_at hl 3 rfl) ?_
          refine lv_iconst (v := (1 : Int32)) F.1 F.2.1 (dd D_X5_longestRun 14 rfl) ki_1 ?_
          refine lv_iadd F.1 F.2.1 (dd D_X5_longestRun 15 rfl) ?_
          refine lv_goto (tgt := 29) F.1 F.2.1 (dd D_X5_longestRun 16 rfl) rfl ?_
          refine lv_istore_n (lv' := [(3, .int (w3_L5 + (1 : Int32))), (0, .ref (a 0)), (1, .int p1), (2, .int w2_L5), (4, .int w4_L5)]) F.1 F.2.1 (dd D_X5_longestRun 18 rfl) rfl hl (Nat.le_of_ble_eq_true rfl) rfl (fun ls hl => ?_)
          refine lv_iload_n F.1 F.2.1 (dd D_X5_longestRun 19 rfl) rfl (lv_at hl 3 rfl) ?_
          refine lv_iload_n F.1 F.2.1 (dd D_X5_longestRun 20 rfl) rfl (lv_at hl 0 rfl) ?_
          refine ro_go (st' := [.int (F_J9_max_7cf53 w2_L5 (w3_L5 + (1 : Int32)))]) (rS (rest := []) F (c_J9_max_7cf53 D cA w2_L5 (w3_L5 + (1 : Int32)) l) lk_X5_73 (Nat.le_of_ble_eq_true rfl) (preRO hK hS hAb (emP)) rfl hl rfl (Nat.le_of_ble_eq_true rfl) (dd D_X5_longestRun 21 rfl) ⟨Nat.le_of_ble_eq_true rfl, Nat.le_of_ble_eq_true rfl⟩) rfl ?_
          refine lv_istore_n (lv' := [(2, .int (F_J9_max_7cf53 w2_L5 (w3_L5 + (1 : Int32)))), (3, .int (w3_L5 + (1 : Int32))), (0, .ref (a 0)), (1, .int p1), (4, .int w4_L5)]) F.1 F.2.1 (dd D_X5_longestRun 22 rfl) rfl hl (Nat.le_of_ble_eq_true rfl) rfl (fun ls hl => ?_)
          refine lv_iinc (v := (w4_L5 + (1 : Int32))) (lv' := [(4, .int (w4_L5 + (1 : Int32))), (2, .int (F_J9_max_7cf53 w2_L5 (w3_L5 + (1 : Int32)))), (3, .int (w3_L5 + (1 : Int32))), (0, .ref (a 0)), (1, .int p1)]) F.1 F.2.1 (dd D_X5_longestRun 23 rfl) hl (k := 4) rfl (congrArg (fun z => w4_L5 + z) ki_1) (Nat.le_of_ble_eq_true rfl) rfl (fun ls hl => ?_)
          refine lv_goto (tgt := 7) F.1 F.2.1 (dd D_X5_longestRun 24 rfl) rfl ?_
          exact ih_L5 (F_J9_max_7cf53 w2_L5 (w3_L5 + (1 : Int32))) (w3_L5 + (1 : Int32)) (w4_L5 + (1 : Int32)) ls (lv_sub hl [3, 4, 1, 2, 0] rfl) h
  exact L5 n (0 : Int32) (0 : Int32) (0 : Int32) ls (lv_sub hl [3, 4, 2, 1, 0] rfl) h
def F_X5_isThreeMonths (p0 : Int64) (p1 : Int64) (p2 : Int64) : Bool := (if (lg_cmp ((p0 + p1) + p2) (88 : Int64)) = 0 then (if (lg_cmp (((p0 >>> (Int32.toInt64 (2 : Int32) &&& 63)) + (p1 >>> (Int32.toInt64 (2 : Int32) &&& 63))) + (p2 >>> (Int32.toInt64 (2 : Int32) &&& 63))) (0 : Int64)) < 0 then (false) else (if 0 < (lg_cmp (((p0 >>> (Int32.toInt64 (2 : Int32) &&& 63)) + (p1 >>> (Int32.toInt64 (2 : Int32) &&& 63))) + (p2 >>> (Int32.toInt64 (2 : Int32) &&& 63))) (22 : Int64)) then (false) else (true))) else (if (lg_cmp ((p0 + p1) + p2) (89 : Int64)) = 0 then (if (lg_cmp (((p0 >>> (Int32.toInt64 (2 : Int32) &&& 63)) + (p1 >>> (Int32.toInt64 (2 : Int32) &&& 63))) + (p2 >>> (Int32.toInt64 (2 : Int32) &&& 63))) (0 : Int64)) < 0 then (false) else (if 0 < (lg_cmp (((p0 >>> (Int32.toInt64 (2 : Int32) &&& 63)) + (p1 >>> (Int32.toInt64 (2 : Int32) &&& 63))) + (p2 >>> (Int32.toInt64 (2 : Int32) &&& 63))) (22 : Int64)) then (false) else (true))) else (false)))
set_option maxHeartbeats 4000000 in
set_option maxRecDepth 100000 in
theorem c_X5_isThreeMonths (D : va_G) (cA : Nat → ClassId)  (p0 : Int64) (p1 : Int64) (p2 : Int64) : RO m_X5_isThreeMonths 0 D cA [.long p0, .long p1, .long p2] [] (some (.int (bI (F_X5_isThreeMonths p0 p1 p2)))) := by
  obtain ⟨r, h⟩ : ∃ r, F_X5_isThreeMonths p0 p1 p2 = r := ⟨_, rfl⟩
  rw [h]
  refine RO.ofW gy_X5_isThreeMonths.2.2 (Nat.le_of_ble_eq_true rfl) ?_
  intro l p e sM m below meth c F hr hlk hK hP hS hAb ls hl
  have hl : lv_has ls 10 [(0, .long p0), (2, .long p1), (4, .long p2)] := hl
  unfold F_X5_isThreeMonths at h
  refine lv_lload_n F.1 F.2.1 (dd D_X5_isThreeMonths 0 rfl) rfl (lv_at hl 0 rfl) ?_
  refine lv_lload_n F.1 F.2.1 (dd D_X5_isThreeMonths 1 rfl) rfl (lv_at hl 1 rfl) ?_
  refine lv_ladd F.1 F.2.1 (dd D_X5_isThreeMonths 2 rfl) ?_
  refine lv_lload F.1 F.2.1 (dd D_X5_isThreeMonths 3 rfl) (lv_at hl 2 rfl) ?_
  refine lv_ladd F.1 F.2.1 (dd D_X5_isThreeMonths 4 rfl) ?_
  refine lv_lstore (lv' := [(6, .long ((p0 + p1) + p2)), (0, .long p0), (2, .long p1), (4, .long p2)]) F.1 F.2.1 (dd D_X5_isThreeMonths 5 rfl) hl (Nat.le_of_ble_eq_true rfl) rfl (fun ls hl => ?_)
  refine lv_lload_n F.1 F.2.1 (dd D_X5_isThreeMonths 6 rfl) rfl (lv_at hl 1 rfl) ?_
  refine lv_iconst (v := (2 : Int32)) F.1 F.2.1 (dd D_X5_isThreeMonths 7 rfl) ki_2 ?_
  refine lv_lshr (v := (p0 >>> (Int32.toInt64 (2 : Int32) &&& 63))) F.1 F.2.1 (dd D_X5_isThreeMonths 8 rfl) rfl ?_
  refine lv_lload_n F.1 F.2.1 (dd D_X5_isThreeMonths 9 rfl) rfl (lv_at hl 2 rfl) ?_
  refine lv_iconst (v := (2 : Int32)) F.1 F.2.1 (dd D_X5_isThreeMonths 10 rfl) ki_2 ?_
  refine lv_lshr (v := (p1 >>> (Int32.toInt64 (2 : Int32) &&& 63))) F.1 F.2.1 (dd D_X5_isThreeMonths 11 rfl) rfl ?_
  refine lv_ladd F.1 F.2.1 (dd D_X5_isThreeMonths 12 rfl) ?_
  refine lv_lload F.1 F.2.1 (dd D_X5_isThreeMonths 13 rfl) (lv_at hl 3 rfl) ?_
  refine lv_iconst (v := (2 : Int32)) F.1 F.2.1 (dd D_X5_isThreeMonths 14 rfl) ki_2 ?_
  refine lv_lshr (v := (p2 >>> (Int32.toInt64 (2 : Int32) &&& 63))) F.1 F.2.1 (dd D_X5_isThreeMonths 15 rfl) rfl ?_
  refine lv_ladd F.1 F.2.1 (dd D_X5_isThreeMonths 16 rfl) ?_
  refine lv_lstore (lv' := [(8, .long (((p0 >>> (Int32.toInt64 (2 : Int32) &&& 63)) + (p1 >>> (Int32.toInt64 (2 : Int32) &&& 63))) + (p2 >>> (Int32.toInt64 (2 : Int32) &&& 63)))), (6, .long ((p0 + p1) + p2)), (0, .long p0), (2, .long p1), (4, .long p2)]) F.1 F.2.1 (dd D_X5_isThreeMonths 17 rfl) hl (Nat.le_of_ble_eq_true rfl) rfl (fun ls hl => ?_)
  refine lv_lload F.1 F.2.1 (dd D_X5_isThreeMonths 18 rfl) (lv_at hl 1 rfl) ?_
  refine lv_ldc2 (own := RX5) (v := (88 : Int64)) F.1 F.2.1 F.2.2.2.1 (F.2.2.2.2 _ (kL_X5_80)) (dd D_X5_isThreeMonths 19 rfl) ?_
  refine W.lcmp F.1 F.2.1 (dd D_X5_isThreeMonths 20 rfl) ?_
  refine x_if_eq (tgt := 40) F.1 F.2.1 (dd D_X5_isThreeMonths 21 rfl) rfl h (fun c1 h => ?_) (fun c1 h => ?_)
  · refine lv_lload F.1 F.2.1 (dd D_X5_isThreeMonths 26 rfl) (lv_at hl 0 rfl) ?_
    refine lv_lconst (v := (0 : Int64)) F.1 F.2.1 (dd D_X5_isThreeMonths 27 rfl) kl_0 ?_
    refine W.lcmp F.1 F.2.1 (dd D_X5_isThreeMonths 28 rfl) ?_
    refine x_if_lt (tgt := 60) F.1 F.2.1 (dd D_X5_isThreeMonths 29 rfl) rfl h (fun c2 h => ?_) (fun c2 h => ?_)
    · refine lv_iconst (v := (0 : Int32)) F.1 F.2.1 (dd D_X5_isThreeMonths 36 rfl) ki_0 ?_
      exact ro_z (R := rmOf 0 0 0) F hr rfl hlk (congrArg (fun z => some (Value.int (bI z))) h) (dd D_X5_isThreeMonths 37 rfl)
    · refine lv_lload F.1 F.2.1 (dd D_X5_isThreeMonths 30 rfl) (lv_at hl 0 rfl) ?_
      refine lv_ldc2 (own := RX5) (v := (22 : Int64)) F.1 F.2.1 F.2.2.2.1 (F.2.2.2.2 _ (kL_X5_84)) (dd D_X5_isThreeMonths 31 rfl) ?_
      refine W.lcmp F.1 F.2.1 (dd D_X5_isThreeMonths 32 rfl) ?_
      refine x_if_gt (tgt := 60) F.1 F.2.1 (dd D_X5_isThreeMonths 33 rfl) rfl h (fun c3 h => ?_) (fun c3 h => ?_)
      · refine lv_iconst (v := (0 : Int32)) F.1 F.2.1 (dd D_X5_isThreeMonths 36 rfl) ki_0 ?_
        exact ro_z (R := rmOf 0 0 0) F hr rfl hlk (congrArg (fun z => some (Value.int (bI z))) h) (dd D_X5_isThreeMonths 37 rfl)
      · refine lv_iconst (v := (1 : Int32)) F.1 F.2.1 (dd D_X5_isThreeMonths 34 rfl) ki_1 ?_
        refine lv_goto (tgt := 61) F.1 F.2.1 (dd D_X5_isThreeMonths 35 rfl) rfl ?_
        exact ro_z (R := rmOf 0 0 0) F hr rfl hlk (congrArg (fun z => some (Value.int (bI z))) h) (dd D_X5_isThreeMonths 37 rfl)
  · refine lv_lload F.1 F.2.1 (dd D_X5_isThreeMonths 22 rfl) (lv_at hl 1 rfl) ?_
    refine lv_ldc2 (own := RX5) (v := (89 : Int64)) F.1 F.2.1 F.2.2.2.1 (F.2.2.2.2 _ (kL_X5_82)) (dd D_X5_isThreeMonths 23 rfl) ?_
    refine W.lcmp F.1 F.2.1 (dd D_X5_isThreeMonths 24 rfl) ?_
    refine x_if_ne (tgt := 60) F.1 F.2.1 (dd D_X5_isThreeMonths 25 rfl) rfl h (fun c4 h => ?_) (fun c4 h => ?_)
    · refine lv_iconst (v := (0 : Int32)) F.1 F.2.1 (dd D_X5_isThreeMonths 36 rfl) ki_0 ?_
      exact ro_z (R := rmOf 0 0 0) F hr rfl hlk (congrArg (fun z => some (Value.int (bI z))) h) (dd D_X5_isThreeMonths 37 rfl)
    · refine lv_lload F.1 F.2.1 (dd D_X5_isThreeMonths 26 rfl) (lv_at hl 0 rfl) ?_
      refine lv_lconst (v := (0 : Int64)) F.1 F.2.1 (dd D_X5_isThreeMonths 27 rfl) kl_0 ?_
      refine W.lcmp F.1 F.2.1 (dd D_X5_isThreeMonths 28 rfl) ?_
      refine x_if_lt (tgt := 60) F.1 F.2.1 (dd D_X5_isThreeMonths 29 rfl) rfl h (fun c5 h => ?_) (fun c5 h => ?_)
      · refine lv_iconst (v := (0 : Int32)) F.1 F.2.1 (dd D_X5_isThreeMonths 36 rfl) ki_0 ?_
        exact ro_z (R := rmOf 0 0 0) F hr rfl hlk (congrArg (fun z => some (Value.int (bI z))) h) (dd D_X5_isThreeMonths 37 rfl)
      · refine lv_lload F.1 F.2.1 (dd D_X5_isThreeMonths 30 rfl) (lv_at hl 0 rfl) ?_
        refine lv_ldc2 (own := RX5) (v := (22 : Int64)) F.1 F.2.1 F.2.2.2.1 (F.2.2.2.2 _ (kL_X5_84)) (dd D_X5_isThreeMonths 31 rfl) ?_
        refine W.lcmp F.1 F.2.1 (dd D_X5_isThreeMonths 32 rfl) ?_
        refine x_if_gt (tgt := 60) F.1 F.2.1 (dd D_X5_isThreeMonths 33 rfl) rfl h (fun c6 h => ?_) (fun c6 h => ?_)
        · refine lv_iconst (v := (0 : Int32)) F.1 F.2.1 (dd D_X5_isThreeMonths 36 rfl) ki_0 ?_
          exact ro_z (R := rmOf 0 0 0) F hr rfl hlk (congrArg (fun z => some (Value.int (bI z))) h) (dd D_X5_isThreeMonths 37 rfl)
        · refine lv_iconst (v := (1 : Int32)) F.1 F.2.1 (dd D_X5_isThreeMonths 34 rfl) ki_1 ?_
          refine lv_goto (tgt := 61) F.1 F.2.1 (dd D_X5_isThreeMonths 35 rfl) rfl ?_
          exact ro_z (R := rmOf 0 0 0) F hr rfl hlk (congrArg (fun z => some (Value.int (bI z))) h) (dd D_X5_isThreeMonths 37 rfl)
def F_X5_threesOfMonths_L4 (n : Nat) (u0 : SH) (v1 : Int32) : Nat → Int32 → Int32 → Option Int32
  | 0, _, _ => none
  | kf + 1, w2, w3 => (if v1 ≤ (w3 + (2 : Int32)) then some (w2) else (((F_X5_at n u0 w3)).bind fun r2 => (((F_X5_at n u0 (w3 + (1 : Int32)))).bind fun r4 => (((F_X5_at n u0 (w3 + (2 : Int32)))).bind fun r6 => bf (F_X5_isThreeMonths r2 r4 r6) (F_X5_threesOfMonths_L4 n u0 v1 kf (w2 + (1 : Int32)) (w3 + (1 : Int32))) (F_X5_threesOfMonths_L4 n u0 v1 kf w2 (w3 + (1 : Int32)))))))
def F_X5_threesOfMonths (n : Nat) (s : SH) (p1 : Int32) : Option Int32 := F_X5_threesOfMonths_L4 n s p1 n (0 : Int32) (0 : Int32)
set_option maxHeartbeats 4000000 in
set_option maxRecDepth 100000 in
theorem c_X5_threesOfMonths (D : va_G) (cA : Nat → ClassId) (a : Nat → Nat) (s : SH) (n : Nat) (p1 : Int32) (r : Int32) (h : F_X5_threesOfMonths n s p1 = some r) : RO m_X5_threesOfMonths 1 D cA [.ref (a 0), .int p1] (shelfW cA a s) (some (.int r)) := by
  refine RO.ofW gy_X5_threesOfMonths.2.2 (Nat.le_of_ble_eq_true rfl) ?_
  intro l p e sM m below meth c F hr hlk hK hP hS hAb ls hl
  have hl : lv_has ls 4 [(0, .ref (a 0)), (1, .int p1)] := hl
  unfold F_X5_threesOfMonths at h
  refine lv_iconst (v := (0 : Int32)) F.1 F.2.1 (dd D_X5_threesOfMonths 0 rfl) ki_0 ?_
  refine lv_istore_n (lv' := [(2, .int (0 : Int32)), (0, .ref (a 0)), (1, .int p1)]) F.1 F.2.1 (dd D_X5_threesOfMonths 1 rfl) rfl hl (Nat.le_of_ble_eq_true rfl) rfl (fun ls hl => ?_)
  refine lv_iconst (v := (0 : Int32)) F.1 F.2.1 (dd D_X5_threesOfMonths 2 rfl) ki_0 ?_
  refine lv_istore_n (lv' := [(3, .int (0 : Int32)), (2, .int (0 : Int32)), (0, .ref (a 0)), (1, .int p1)]) F.1 F.2.1 (dd D_X5_threesOfMonths 3 rfl) rfl hl (Nat.le_of_ble_eq_true rfl) rfl (fun ls hl => ?_)
  have L9 : ∀ (kf : Nat) (w2_L9 : Int32) (w3_L9 : Int32) (ls : Array Slot), lv_has ls 4 [(0, .ref (a 0)), (1, .int p1), (2, .int w2_L9), (3, .int w3_L9)] → F_X5_threesOfMonths_L4 n s p1 kf w2_L9 w3_L9 = some r → Wro 1 (some (.int r)) p l e sM m ([.ref (a 0), .int p1] : List Value).toArray below meth c 4 ls [] := by
    intro kf
    induction kf with
    | zero =>
      intro w2_L9 w3_L9 ls hl h
      cases (show none = some r from h)
    | succ k_L9 ih_L9 =>
      intro w2_L9 w3_L9 ls hl h
      unfold F_X5_threesOfMonths_L4 at h
      refine lv_iload_n F.1 F.2.1 (dd D_X5_threesOfMonths 4 rfl) rfl (lv_at hl 3 rfl) ?_
      refine lv_iconst (v := (2 : Int32)) F.1 F.2.1 (dd D_X5_threesOfMonths 5 rfl) ki_2 ?_
      refine lv_iadd F.1 F.2.1 (dd D_X5_threesOfMonths 6 rfl) ?_
      refine lv_iload_n F.1 F.2.1 (dd D_X5_threesOfMonths 7 rfl) rfl (lv_at hl 1 rfl) ?_
      refine x_icmp_ge (tgt := 45) F.1 F.2.1 (dd D_X5_threesOfMonths 8 rfl) rfl h (fun c10 h => ?_) (fun c10 h => ?_)
      · refine lv_iload_n F.1 F.2.1 (dd D_X5_threesOfMonths 27 rfl) rfl (lv_at hl 2 rfl) ?_
        exact ro_i (R := rmOf 1 0 0) F hr hlk (congrArg (Option.map Value.int) h) (dd D_X5_threesOfMonths 28 rfl)
      · refine lv_aload_n F.1 F.2.1 (dd D_X5_threesOfMonths 9 rfl) rfl (lv_at hl 0 rfl) ?_
        refine lv_iload_n F.1 F.2.1 (dd D_X5_threesOfMonths 10 rfl) rfl (lv_at hl 3 rfl) ?_
        obtain ⟨r11, e12, h⟩ := Option.bind_eq_some_iff.mp h
        refine ro_go (st' := [.long r11]) (rV (rest := []) F (c_X5_at D cA a s n w3_L9 r11 e12 l) lk_X5_61 (Nat.le_of_ble_eq_true rfl) (preRO hK hS hAb hP) (rcv_5 hK hP (q0 := (0)) rfl) rfl hl rfl (Nat.le_of_ble_eq_true rfl) (dd D_X5_threesOfMonths 11 rfl) ⟨Nat.le_of_ble_eq_true rfl, Nat.le_of_ble_eq_true rfl⟩) rfl ?_
        refine lv_aload_n F.1 F.2.1 (dd D_X5_threesOfMonths 12 rfl) rfl (lv_at hl 0 rfl) ?_
        refine lv_iload_n F.1 F.2.1 (dd D_X5_threesOfMonths 13 rfl) rfl (lv_at hl 3 rfl) ?_
        refine lv_iconst (v := (1 : Int32)) F.1 F.2.1 (dd D_X5_threesOfMonths 14 rfl) ki_1 ?_
        refine lv_iadd F.1 F.2.1 (dd D_X5_threesOfMonths 15 rfl) ?_
        obtain ⟨r13, e14, h⟩ := Option.bind_eq_some_iff.mp h
        refine ro_go (st' := [.long r13, .long r11]) (rV (rest := [.long r11]) F (c_X5_at D cA a s n (w3_L9 + (1 : Int32)) r13 e14 l) lk_X5_61 (Nat.le_of_ble_eq_true rfl) (preRO hK hS hAb hP) (rcv_5 hK hP (q0 := (0)) rfl) rfl hl rfl (Nat.le_of_ble_eq_true rfl) (dd D_X5_threesOfMonths 16 rfl) ⟨Nat.le_of_ble_eq_true rfl, Nat.le_of_ble_eq_true rfl⟩) rfl ?_
        refine lv_aload_n F.1 F.2.1 (dd D_X5_threesOfMonths 17 rfl) rfl (lv_at hl 0 rfl) ?_
        refine lv_iload_n F.1 F.2.1 (dd D_X5_threesOfMonths 18 rfl) rfl (lv_at hl 3 rfl) ?_
        refine lv_iconst (v := (2 : Int32)) F.1 F.2.1 (dd D_X5_threesOfMonths 19 rfl) ki_2 ?_
        refine lv_iadd F.1 F.2.1 (dd D_X5_threesOfMonths 20 rfl) ?_
        obtain ⟨r15, e16, h⟩ := Option.bind_eq_some_iff.mp h
        refine ro_go (st' := [.long r15, .long r13, .long r11]) (rV (rest := [.long r13, .long r11]) F (c_X5_at D cA a s n (w3_L9 + (2 : Int32)) r15 e16 l) lk_X5_61 (Nat.le_of_ble_eq_true rfl) (preRO hK hS hAb hP) (rcv_5 hK hP (q0 := (0)) rfl) rfl hl rfl (Nat.le_of_ble_eq_true rfl) (dd D_X5_threesOfMonths 21 rfl) ⟨Nat.le_of_ble_eq_true rfl, Nat.le_of_ble_eq_true rfl⟩) rfl ?_
        refine ro_go (st' := [.int (bI (F_X5_isThreeMonths r11 r13 r15))]) (rS (rest := []) F (c_X5_isThreeMonths D cA r11 r13 r15 l) lk_X5_76 (Nat.le_of_ble_eq_true rfl) (preRO hK hS hAb (emP)) rfl hl rfl (Nat.le_of_ble_eq_true rfl) (dd D_X5_threesOfMonths 22 rfl) ⟨Nat.le_of_ble_eq_true rfl, Nat.le_of_ble_eq_true rfl⟩) rfl ?_
        refine x_bif_eq (tgt := 39) F.1 F.2.1 (dd D_X5_threesOfMonths 23 rfl) rfl h (fun c17 h => ?_) (fun c17 h => ?_)
        · refine lv_iinc (v := (w3_L9 + (1 : Int32))) (lv' := [(3, .int (w3_L9 + (1 : Int32))), (0, .ref (a 0)), (1, .int p1), (2, .int w2_L9)]) F.1 F.2.1 (dd D_X5_threesOfMonths 25 rfl) hl (k := 3) rfl (congrArg (fun z => w3_L9 + z) ki_1) (Nat.le_of_ble_eq_true rfl) rfl (fun ls hl => ?_)
          refine lv_goto (tgt := 4) F.1 F.2.1 (dd D_X5_threesOfMonths 26 rfl) rfl ?_
          exact ih_L9 w2_L9 (w3_L9 + (1 : Int32)) ls (lv_sub hl [1, 2, 3, 0] rfl) h
        · refine lv_iinc (v := (w2_L9 + (1 : Int32))) (lv' := [(2, .int (w2_L9 + (1 : Int32))), (0, .ref (a 0)), (1, .int p1), (3, .int w3_L9)]) F.1 F.2.1 (dd D_X5_threesOfMonths 24 rfl) hl (k := 2) rfl (congrArg (fun z => w2_L9 + z) ki_1) (Nat.le_of_ble_eq_true rfl) rfl (fun ls hl => ?_)
          refine lv_iinc (v := (w3_L9 + (1 : Int32))) (lv' := [(3, .int (w3_L9 + (1 : Int32))), (2, .int (w2_L9 + (1 : Int32))), (0, .ref (a 0)), (1, .int p1)]) F.1 F.2.1 (dd D_X5_threesOfMonths 25 rfl) hl (k := 3) rfl (congrArg (fun z => w3_L9 + z) ki_1) (Nat.le_of_ble_eq_true rfl) rfl (fun ls hl => ?_)
          refine lv_goto (tgt := 4) F.1 F.2.1 (dd D_X5_threesOfMonths 26 rfl) rfl ?_
          exact ih_L9 (w2_L9 + (1 : Int32)) (w3_L9 + (1 : Int32)) ls (lv_sub hl [2, 3, 1, 0] rfl) h
  exact L9 n (0 : Int32) (0 : Int32) ls (lv_sub hl [2, 3, 1, 0] rfl) h
def F_X6_askedOf (s : ST) (p1 : Int32) : Int32 := (if p1 = (0 : Int32) then ((st_off s)) else (if p1 = (1 : Int32) then ((st_node s)) else (if p1 = (2 : Int32) then ((st_swing s)) else (if p1 = (3 : Int32) then ((st_cloud s)) else ((-1 : Int32))))))
set_option maxHeartbeats 4000000 in
set_option maxRecDepth 100000 in
theorem c_X6_askedOf (D : va_G) (cA : Nat → ClassId) (a : Nat → Nat) (s : ST) (p1 : Int32) : RO m_X6_askedOf 0 D cA [.ref (a 0), .int p1] (stateW cA a s) (some (.int (F_X6_askedOf s p1))) := by
  obtain ⟨r, h⟩ : ∃ r, F_X6_askedOf s p1 = r := ⟨_, rfl⟩
  rw [h]
  refine RO.ofW gy_X6_askedOf.2.2 (Nat.le_of_ble_eq_true rfl) ?_
  intro l p e sM m below meth c F hr hlk hK hP hS hAb ls hl
  have hl : lv_has ls 2 [(0, .ref (a 0)), (1, .int p1)] := hl
  unfold F_X6_askedOf at h
  refine lv_iload_n F.1 F.2.1 (dd D_X6_askedOf 0 rfl) rfl (lv_at hl 1 rfl) ?_
  refine x_ts (tgt := 32) F.1 F.2.1 (0 : Int32) (dd D_X6_askedOf 1 rfl) h (by decide) (by decide) rfl rfl (fun c1_0 h => ?_) (fun c1_0 h => ?_)
  · refine lv_aload_n F.1 F.2.1 (dd D_X6_askedOf 2 rfl) rfl (lv_at hl 0 rfl) ?_
    refine getF F hK hP lf_X6_37 (0) rfl rfl (dd D_X6_askedOf 3 rfl) ?_
    exact ro_i (R := rmOf 0 0 0) F hr hlk (congrArg (fun z => some (Value.int z)) h) (dd D_X6_askedOf 4 rfl)
  refine x_ts (tgt := 37) F.1 F.2.1 (1 : Int32) (dd D_X6_askedOf 1 rfl) h (by decide) (by decide) rfl rfl (fun c1_1 h => ?_) (fun c1_1 h => ?_)
  · refine lv_aload_n F.1 F.2.1 (dd D_X6_askedOf 5 rfl) rfl (lv_at hl 0 rfl) ?_
    refine getF F hK hP lf_X6_40 (0) rfl rfl (dd D_X6_askedOf 6 rfl) ?_
    exact ro_i (R := rmOf 0 0 0) F hr hlk (congrArg (fun z => some (Value.int z)) h) (dd D_X6_askedOf 7 rfl)
  refine x_ts (tgt := 42) F.1 F.2.1 (2 : Int32) (dd D_X6_askedOf 1 rfl) h (by decide) (by decide) rfl rfl (fun c1_2 h => ?_) (fun c1_2 h => ?_)
  · refine lv_aload_n F.1 F.2.1 (dd D_X6_askedOf 8 rfl) rfl (lv_at hl 0 rfl) ?_
    refine getF F hK hP lf_X6_43 (0) rfl rfl (dd D_X6_askedOf 9 rfl) ?_
    exact ro_i (R := rmOf 0 0 0) F hr hlk (congrArg (fun z => some (Value.int z)) h) (dd D_X6_askedOf 10 rfl)
  refine x_ts (tgt := 47) F.1 F.2.1 (3 : Int32) (dd D_X6_askedOf 1 rfl) h (by decide) (by decide) rfl rfl (fun c1_3 h => ?_) (fun c1_3 h => ?_)
  · refine lv_aload_n F.1 F.2.1 (dd D_X6_askedOf 11 rfl) rfl (lv_at hl 0 rfl) ?_
    refine getF F hK hP lf_X6_9 (0) rfl rfl (dd D_X6_askedOf 12 rfl) ?_
    exact ro_i (R := rmOf 0 0 0) F hr hlk (congrArg (fun z => some (Value.int z)) h) (dd D_X6_askedOf 13 rfl)
  refine lv_tableOut (tgt := 52) F.1 F.2.1 (dd D_X6_askedOf 1 rfl) (ts_out (lo := 0) (vs := [(0 : Int32), (1 : Int32), (2 : Int32), (3 : Int32)]) tsv_0_4 (by intro v hv; simp only [List.mem_cons, List.not_mem_nil, or_false] at hv; rcases hv with rfl | rfl | rfl | rfl <;> assumption)) rfl ?_
  refine lv_iconst (v := (-1 : Int32)) F.1 F.2.1 (dd D_X6_askedOf 14 rfl) ki_m1 ?_
  exact ro_i (R := rmOf 0 0 0) F hr hlk (congrArg (fun z => some (Value.int z)) h) (dd D_X6_askedOf 15 rfl)
def F_X6_setAsked (s : ST) (p1 : Int32) (p2 : Int32) : ST := (if p1 = (0 : Int32) then (st_set_off s p2) else (if p1 = (1 : Int32) then (st_set_node s p2) else (if p1 = (2 : Int32) then (st_set_swing s p2) else (if p1 = (3 : Int32) then (st_set_cloud s p2) else s))))
set_option maxHeartbeats 4000000 in
set_option maxRecDepth 100000 in
theorem c_X6_setAsked (D : va_G) (cA : Nat → ClassId) (a : Nat → Nat) (s : ST) (p1 : Int32) (p2 : Int32) : RW m_X6_setAsked 0 0 0 D cA [.ref (a 0), .int p1, .int p2] (stateW cA a s) (exq (none) (stateW cA a (F_X6_setAsked s p1 p2))) := by
  obtain ⟨r, h⟩ : ∃ r, F_X6_setAsked s p1 p2 = r := ⟨_, rfl⟩
  rw [h]
  refine RW.ofW gy_X6_setAsked.2.2 (Nat.le_of_ble_eq_true rfl) ?_
  intro l p e sM m below meth c A H locs F hr hlk hnm hK hP hD hS hA hAb ls hl
  have hl : lv_has ls 3 [(0, .ref (a 0)), (1, .int p1), (2, .int p2)] := hl
  unfold F_X6_setAsked at h
  refine lv_iload_n F.1 F.2.1 (dd D_X6_setAsked 0 rfl) rfl (lv_at hl 1 rfl) ?_
  refine x_ts (tgt := 32) F.1 F.2.1 (0 : Int32) (dd D_X6_setAsked 1 rfl) h (by decide) (by decide) rfl rfl (fun c1_0 h => ?_) (fun c1_0 h => ?_)
  · refine lv_aload_n F.1 F.2.1 (dd D_X6_setAsked 2 rfl) rfl (lv_at hl 0 rfl) ?_
    refine lv_iload_n F.1 F.2.1 (dd D_X6_setAsked 3 rfl) rfl (lv_at hl 2 rfl) ?_
    refine putF F hK hP hD hS lp_X6_37 (0) rfl (Nat.le_of_ble_eq_true rfl) (nar_int _) (fit_int _) (ws' := (stateW cA a (st_set_off s p2))) (ss_0_0 cA a s p2) (dd D_X6_setAsked 4 rfl) (fun H locs hP hD hS => ?_)
    refine lv_goto (tgt := 64) F.1 F.2.1 (dd D_X6_setAsked 5 rfl) rfl ?_
    subst h
    exact rw_v (R := rmOf 0 0 0) F hP hD hS hr hlk ⟨Nat.le_of_ble_eq_true rfl, Nat.le_of_ble_eq_true rfl⟩ ⟨rfl, rfl⟩ (dd D_X6_setAsked 18 rfl)
  refine x_ts (tgt := 40) F.1 F.2.1 (1 : Int32) (dd D_X6_setAsked 1 rfl) h (by decide) (by decide) rfl rfl (fun c1_1 h => ?_) (fun c1_1 h => ?_)
  · refine lv_aload_n F.1 F.2.1 (dd D_X6_setAsked 6 rfl) rfl (lv_at hl 0 rfl) ?_
    refine lv_iload_n F.1 F.2.1 (dd D_X6_setAsked 7 rfl) rfl (lv_at hl 2 rfl) ?_
    refine putF F hK hP hD hS lp_X6_40 (0) rfl (Nat.le_of_ble_eq_true rfl) (nar_int _) (fit_int _) (ws' := (stateW cA a (st_set_node s p2))) (ss_0_1 cA a s p2) (dd D_X6_setAsked 8 rfl) (fun H locs hP hD hS => ?_)
    refine lv_goto (tgt := 64) F.1 F.2.1 (dd D_X6_setAsked 9 rfl) rfl ?_
    subst h
    exact rw_v (R := rmOf 0 0 0) F hP hD hS hr hlk ⟨Nat.le_of_ble_eq_true rfl, Nat.le_of_ble_eq_true rfl⟩ ⟨rfl, rfl⟩ (dd D_X6_setAsked 18 rfl)
  refine x_ts (tgt := 48) F.1 F.2.1 (2 : Int32) (dd D_X6_setAsked 1 rfl) h (by decide) (by decide) rfl rfl (fun c1_2 h => ?_) (fun c1_2 h => ?_)
  · refine lv_aload_n F.1 F.2.1 (dd D_X6_setAsked 10 rfl) rfl (lv_at hl 0 rfl) ?_
    refine lv_iload_n F.1 F.2.1 (dd D_X6_setAsked 11 rfl) rfl (lv_at hl 2 rfl) ?_
    refine putF F hK hP hD hS lp_X6_43 (0) rfl (Nat.le_of_ble_eq_true rfl) (nar_int _) (fit_int _) (ws' := (stateW cA a (st_set_swing s p2))) (ss_0_2 cA a s p2) (dd D_X6_setAsked 12 rfl) (fun H locs hP hD hS => ?_)
    refine lv_goto (tgt := 64) F.1 F.2.1 (dd D_X6_setAsked 13 rfl) rfl ?_
    subst h
    exact rw_v (R := rmOf 0 0 0) F hP hD hS hr hlk ⟨Nat.le_of_ble_eq_true rfl, Nat.le_of_ble_eq_true rfl⟩ ⟨rfl, rfl⟩ (dd D_X6_setAsked 18 rfl)
  refine x_ts (tgt := 56) F.1 F.2.1 (3 : Int32) (dd D_X6_setAsked 1 rfl) h (by decide) (by decide) rfl rfl (fun c1_3 h => ?_) (fun c1_3 h => ?_)
  · refine lv_aload_n F.1 F.2.1 (dd D_X6_setAsked 14 rfl) rfl (lv_at hl 0 rfl) ?_
    refine lv_iload_n F.1 F.2.1 (dd D_X6_setAsked 15 rfl) rfl (lv_at hl 2 rfl) ?_
    refine putF F hK hP hD hS lp_X6_9 (0) rfl (Nat.le_of_ble_eq_true rfl) (nar_int _) (fit_int _) (ws' := (stateW cA a (st_set_cloud s p2))) (ss_0_3 cA a s p2) (dd D_X6_setAsked 16 rfl) (fun H locs hP hD hS => ?_)
    refine lv_goto (tgt := 64) F.1 F.2.1 (dd D_X6_setAsked 17 rfl) rfl ?_
    subst h
    exact rw_v (R := rmOf 0 0 0) F hP hD hS hr hlk ⟨Nat.le_of_ble_eq_true rfl, Nat.le_of_ble_eq_true rfl⟩ ⟨rfl, rfl⟩ (dd D_X6_setAsked 18 rfl)
  refine lv_tableOut (tgt := 64) F.1 F.2.1 (dd D_X6_setAsked 1 rfl) (ts_out (lo := 0) (vs := [(0 : Int32), (1 : Int32), (2 : Int32), (3 : Int32)]) tsv_0_4 (by intro v hv; simp only [List.mem_cons, List.not_mem_nil, or_false] at hv; rcases hv with rfl | rfl | rfl | rfl <;> assumption)) rfl ?_
  subst h
  exact rw_v (R := rmOf 0 0 0) F hP hD hS hr hlk ⟨Nat.le_of_ble_eq_true rfl, Nat.le_of_ble_eq_true rfl⟩ ⟨rfl, rfl⟩ (dd D_X6_setAsked 18 rfl)
def F_X6_draw (n : Nat) (s : ST) (p1 : Int32) : Option (Int32 × ST) := (if (1 : Int32) ≤ p1 then gd (decide (¬ p1 = 0)) (some ((jrem (jushr (st_seed (st_set_seed s (((st_seed s) * (1103515245 : Int32)) + (12345 : Int32)))) (16 : Int32)) p1), (st_set_seed s (((st_seed s) * (1103515245 : Int32)) + (12345 : Int32))))) else some ((0 : Int32), (st_set_seed s (((st_seed s) * (1103515245 : Int32)) + (12345 : Int32)))))
set_option maxHeartbeats 4000000 in
set_option maxRecDepth 100000 in
theorem c_X6_draw (D : va_G) (cA : Nat → ClassId) (a : Nat → Nat) (s : ST) (n : Nat) (p1 : Int32) (r : (Int32 × ST)) (h : F_X6_draw n s p1 = some r) : RW m_X6_draw 0 0 0 D cA [.ref (a 0), .int p1] (stateW cA a s) (exq (some (.int r.1)) (stateW cA a r.2)) := by
  refine RW.ofW gy_X6_draw.2.2 (Nat.le_of_ble_eq_true rfl) ?_
  intro l p e sM m below meth c A H locs F hr hlk hnm hK hP hD hS hA hAb ls hl
  have hl : lv_has ls 2 [(0, .ref (a 0)), (1, .int p1)] := hl
  unfold F_X6_draw at h
  refine lv_aload_n F.1 F.2.1 (dd D_X6_draw 0 rfl) rfl (lv_at hl 0 rfl) ?_
  refine lv_aload_n F.1 F.2.1 (dd D_X6_draw 1 rfl) rfl (lv_at hl 0 rfl) ?_
  refine getF F hK hP lf_X6_34 (0) rfl rfl (dd D_X6_draw 2 rfl) ?_
  refine lv_ldc (own := RX6) (v := (1103515245 : Int32)) F.1 F.2.1 F.2.2.2.1 (F.2.2.2.2 _ (w_1094)) (dd D_X6_draw 3 rfl) ?_
  refine lv_imul F.1 F.2.1 (dd D_X6_draw 4 rfl) ?_
  refine lv_sipush (v := (12345 : Int32)) F.1 F.2.1 (dd D_X6_draw 5 rfl) ks_12345 ?_
  refine lv_iadd F.1 F.2.1 (dd D_X6_draw 6 rfl) ?_
  refine putF F hK hP hD hS lp_X6_34 (0) rfl (Nat.le_of_ble_eq_true rfl) (nar_int _) (fit_int _) (ws' := (stateW cA a (st_set_seed s (((st_seed s) * (1103515245 : Int32)) + (12345 : Int32))))) (ss_0_9 cA a s (((st_seed s) * (1103515245 : Int32)) + (12345 : Int32))) (dd D_X6_draw 7 rfl) (fun H locs hP hD hS => ?_)
  refine lv_iload_n F.1 F.2.1 (dd D_X6_draw 8 rfl) rfl (lv_at hl 1 rfl) ?_
  refine lv_iconst (v := (1 : Int32)) F.1 F.2.1 (dd D_X6_draw 9 rfl) ki_1 ?_
  refine x_icmp_ge (tgt := 24) F.1 F.2.1 (dd D_X6_draw 10 rfl) rfl h (fun c1 h => ?_) (fun c1 h => ?_)
  · refine lv_aload_n F.1 F.2.1 (dd D_X6_draw 13 rfl) rfl (lv_at hl 0 rfl) ?_
    refine getF F hK hP lf_X6_34 (0) rfl rfl (dd D_X6_draw 14 rfl) ?_
    refine lv_bipush (v := (16 : Int32)) F.1 F.2.1 (dd D_X6_draw 15 rfl) kb_16 ?_
    refine lv_iushr (v := (jushr (st_seed (st_set_seed s (((st_seed s) * (1103515245 : Int32)) + (12345 : Int32)))) (16 : Int32))) F.1 F.2.1 (dd D_X6_draw 16 rfl) rfl ?_
    refine lv_iload_n F.1 F.2.1 (dd D_X6_draw 17 rfl) rfl (lv_at hl 1 rfl) ?_
    obtain ⟨z2, h⟩ := gd_some h
    refine x_irem F.1 F.2.1 (dd D_X6_draw 18 rfl) (of_decide_eq_true z2) ?_
    obtain rfl := Option.some.inj h
    exact rw_i (R := rmOf 0 0 0) F hP hD hS hr hlk ⟨Nat.le_of_ble_eq_true rfl, Nat.le_of_ble_eq_true rfl⟩ ⟨rfl, rfl⟩ (dd D_X6_draw 19 rfl)
  · refine lv_iconst (v := (0 : Int32)) F.1 F.2.1 (dd D_X6_draw 11 rfl) ki_0 ?_
    refine lv_goto (tgt := 33) F.1 F.2.1 (dd D_X6_draw 12 rfl) rfl ?_
    obtain rfl := Option.some.inj h
    exact rw_i (R := rmOf 0 0 0) F hP hD hS hr hlk ⟨Nat.le_of_ble_eq_true rfl, Nat.le_of_ble_eq_true rfl⟩ ⟨rfl, rfl⟩ (dd D_X6_draw 19 rfl)
def F_X6_become (n : Nat) (s : ST) (t : ST) : Option ST := (((F_X1_become n (st_hill (st_set_cloud (st_set_swing (st_set_node (st_set_off s (st_off t)) (st_node t)) (st_swing t)) (st_cloud t))) (st_hill t))).bind fun r1 => (((F_X0_become n 6 (st_stones (st_set_hill (st_set_cloud (st_set_swing (st_set_node (st_set_off s (st_off t)) (st_node t)) (st_swing t)) (st_cloud t)) r1)) 6 (st_stones t))).bind fun r3 => (((F_X0_become n 8 (st_clouds (st_set_stones (st_set_hill (st_set_cloud (st_set_swing (st_set_node (st_set_off s (st_off t)) (st_node t)) (st_swing t)) (st_cloud t)) r1) r3)) 8 (st_clouds t))).bind fun r5 => some (st_set_seed (st_set_looks (st_set_today (st_set_clouds (st_set_stones (st_set_hill (st_set_cloud (st_set_swing (st_set_node (st_set_off s (st_off t)) (st_node t)) (st_swing t)) (st_cloud t)) r1) r3) r5) (st_today t)) (st_looks t)) (st_seed t)))))
set_option maxHeartbeats 4000000 in
set_option maxRecDepth 100000 in
theorem c_X6_become (D : va_G) (cA : Nat → ClassId) (a : Nat → Nat) (s : ST) (b : Nat → Nat) (t : ST) (n : Nat)  (r : ST) (h : F_X6_become n s t = some r) : RW m_X6_become 3 0 0 D cA [.ref (a 0), .ref (b 0)] ((stateW cA a s) ++ (stateW cA b t)) (exq (none) ((stateW cA a r) ++ (stateW cA b t))) := by
  refine RW.ofW gy_X6_become.2.2 (Nat.le_of_ble_eq_true rfl) ?_
  intro l p e sM m below meth c A H locs F hr hlk hnm hK hP hD hS hA hAb ls hl
  have hl : lv_has ls 2 [(0, .ref (a 0)), (1, .ref (b 0))] := hl
  unfold F_X6_become at h
  refine lv_aload_n F.1 F.2.1 (dd D_X6_become 0 rfl) rfl (lv_at hl 0 rfl) ?_
  refine lv_aload_n F.1 F.2.1 (dd D_X6_become 1 rfl) rfl (lv_at hl 1 rfl) ?_
  refine getF F hK hP lf_X6_37 (13) rfl rfl (dd D_X6_become 2 rfl) ?_
  refine putF F hK hP hD hS lp_X6_37 (0) rfl (Nat.le_of_ble_eq_true rfl) (nar_int _) (fit_int _) (ws' := ((stateW cA a (st_set_off s (st_off t))) ++ (stateW cA b t))) (sL (Nat.le_of_ble_eq_true rfl) (ss_0_0 cA a s (st_off t))) (dd D_X6_become 3 rfl) (fun H locs hP hD hS => ?_)
  refine lv_aload_n F.1 F.2.1 (dd D_X6_become 4 rfl) rfl (lv_at hl 0 rfl) ?_
  refine lv_aload_n F.1 F.2.1 (dd D_X6_become 5 rfl) rfl (lv_at hl 1 rfl) ?_
  refine getF F hK hP lf_X6_40 (13) rfl rfl (dd D_X6_become 6 rfl) ?_
  refine putF F hK hP hD hS lp_X6_40 (0) rfl (Nat.le_of_ble_eq_true rfl) (nar_int _) (fit_int _) (ws' := ((stateW cA a (st_set_node (st_set_off s (st_off t)) (st_node t))) ++ (stateW cA b t))) (sL (Nat.le_of_ble_eq_true rfl) (ss_0_1 cA a (st_set_off s (st_off t)) (st_node t))) (dd D_X6_become 7 rfl) (fun H locs hP hD hS => ?_)
  refine lv_aload_n F.1 F.2.1 (dd D_X6_become 8 rfl) rfl (lv_at hl 0 rfl) ?_
  refine lv_aload_n F.1 F.2.1 (dd D_X6_become 9 rfl) rfl (lv_at hl 1 rfl) ?_
  refine getF F hK hP lf_X6_43 (13) rfl rfl (dd D_X6_become 10 rfl) ?_
  refine putF F hK hP hD hS lp_X6_43 (0) rfl (Nat.le_of_ble_eq_true rfl) (nar_int _) (fit_int _) (ws' := ((stateW cA a (st_set_swing (st_set_node (st_set_off s (st_off t)) (st_node t)) (st_swing t))) ++ (stateW cA b t))) (sL (Nat.le_of_ble_eq_true rfl) (ss_0_2 cA a (st_set_node (st_set_off s (st_off t)) (st_node t)) (st_swing t))) (dd D_X6_become 11 rfl) (fun H locs hP hD hS => ?_)
  refine lv_aload_n F.1 F.2.1 (dd D_X6_become 12 rfl) rfl (lv_at hl 0 rfl) ?_
  refine lv_aload_n F.1 F.2.1 (dd D_X6_become 13 rfl) rfl (lv_at hl 1 rfl) ?_
  refine getF F hK hP lf_X6_9 (13) rfl rfl (dd D_X6_become 14 rfl) ?_
  refine putF F hK hP hD hS lp_X6_9 (0) rfl (Nat.le_of_ble_eq_true rfl) (nar_int _) (fit_int _) (ws' := ((stateW cA a (st_set_cloud (st_set_swing (st_set_node (st_set_off s (st_off t)) (st_node t)) (st_swing t)) (st_cloud t))) ++ (stateW cA b t))) (sL (Nat.le_of_ble_eq_true rfl) (ss_0_3 cA a (st_set_swing (st_set_node (st_set_off s (st_off t)) (st_node t)) (st_swing t)) (st_cloud t))) (dd D_X6_become 15 rfl) (fun H locs hP hD hS => ?_)
  refine lv_aload_n F.1 F.2.1 (dd D_X6_become 16 rfl) rfl (lv_at hl 0 rfl) ?_
  refine getF F hK hP lf_X6_18 (0) rfl rfl (dd D_X6_become 17 rfl) ?_
  refine lv_aload_n F.1 F.2.1 (dd D_X6_become 18 rfl) rfl (lv_at hl 1 rfl) ?_
  refine getF F hK hP lf_X6_18 (13) rfl rfl (dd D_X6_become 19 rfl) ?_
  obtain ⟨r1, e2, h⟩ := Option.bind_eq_some_iff.mp h
  refine rwe (V := none) (wc := ((hillW cA (fun i => a (1+i)) (st_hill (st_set_cloud (st_set_swing (st_set_node (st_set_off s (st_off t)) (st_node t)) (st_swing t)) (st_cloud t)))) ++ (hillW cA (fun i => b (1+i)) (st_hill t)))) (wc' := ((hillW cA (fun i => a (1+i)) r1) ++ (hillW cA (fun i => b (1+i)) (st_hill t)))) (st' := []) (W' := ((stateW cA a (st_set_hill (st_set_cloud (st_set_swing (st_set_node (st_set_off s (st_off t)) (st_node t)) (st_swing t)) (st_cloud t)) r1)) ++ (stateW cA b t))) hP hD hS hA [1, 2, 3, 4, 5, 6, 7, 8, 14, 15, 16, 17, 18, 19, 20, 21] (jc_state_state_0_1_1_1 cA a (st_set_cloud (st_set_swing (st_set_node (st_set_off s (st_off t)) (st_node t)) (st_swing t)) (st_cloud t)) b t) (Nat_nd rfl) rfl (rV (rest := []) F (c_X1_become D cA (fun i => a (1+i)) (st_hill (st_set_cloud (st_set_swing (st_set_node (st_set_off s (st_off t)) (st_node t)) (st_swing t)) (st_cloud t))) (fun i => b (1+i)) (st_hill t) n r1 e2 l H.size) lk_X6_47 (Nat.le_of_ble_eq_true rfl) (preRW hK hS hAb (selP (is := [1, 2, 3, 4, 5, 6, 7, 8, 14, 15, 16, 17, 18, 19, 20, 21]) hP (jc_state_state_0_1_1_1 cA a (st_set_cloud (st_set_swing (st_set_node (st_set_off s (st_off t)) (st_node t)) (st_swing t)) (st_cloud t)) b t)) (selD (is := [1, 2, 3, 4, 5, 6, 7, 8, 14, 15, 16, 17, 18, 19, 20, 21]) hD (Nat_nd rfl) (jc_state_state_0_1_1_1 cA a (st_set_cloud (st_set_swing (st_set_node (st_set_off s (st_off t)) (st_node t)) (st_swing t)) (st_cloud t)) b t))) (rcv_1 hK hP (q0 := (1)) rfl) rfl hl rfl (Nat.le_of_ble_eq_true rfl) (dd D_X6_become 20 rfl) ⟨Nat.le_of_ble_eq_true rfl, Nat.le_of_ble_eq_true rfl⟩) (js_state_state_0_1_1_1_m0 cA a (st_set_cloud (st_set_swing (st_set_node (st_set_off s (st_off t)) (st_node t)) (st_swing t)) (st_cloud t)) b t r1) rfl (fun H locs hP hD hS => ?_)
  refine lv_aload_n F.1 F.2.1 (dd D_X6_become 21 rfl) rfl (lv_at hl 0 rfl) ?_
  refine getF F hK hP lf_X6_27 (0) rfl rfl (dd D_X6_become 22 rfl) ?_
  refine lv_aload_n F.1 F.2.1 (dd D_X6_become 23 rfl) rfl (lv_at hl 1 rfl) ?_
  refine getF F hK hP lf_X6_27 (13) rfl rfl (dd D_X6_become 24 rfl) ?_
  obtain ⟨r3, e4, h⟩ := Option.bind_eq_some_iff.mp h
  refine rwe (V := none) (wc := ((fewW cA 6 (fun i => a (9+i)) (st_stones (st_set_hill (st_set_cloud (st_set_swing (st_set_node (st_set_off s (st_off t)) (st_node t)) (st_swing t)) (st_cloud t)) r1))) ++ (fewW cA 6 (fun i => b (9+i)) (st_stones t)))) (wc' := ((fewW cA 6 (fun i => a (9+i)) r3) ++ (fewW cA 6 (fun i => b (9+i)) (st_stones t)))) (st' := []) (W' := ((stateW cA a (st_set_stones (st_set_hill (st_set_cloud (st_set_swing (st_set_node (st_set_off s (st_off t)) (st_node t)) (st_swing t)) (st_cloud t)) r1) r3)) ++ (stateW cA b t))) hP hD hS hA [9, 10, 22, 23] (jc_state_state_0_9_1_9 cA a (st_set_hill (st_set_cloud (st_set_swing (st_set_node (st_set_off s (st_off t)) (st_node t)) (st_swing t)) (st_cloud t)) r1) b t) (Nat_nd rfl) rfl (rV (rest := []) F (c_X0_become D cA 6 (fun i => a (9+i)) (st_stones (st_set_hill (st_set_cloud (st_set_swing (st_set_node (st_set_off s (st_off t)) (st_node t)) (st_swing t)) (st_cloud t)) r1)) (fun i => b (9+i)) (st_stones t) n r3 e4 l H.size) lk_X6_51 (Nat.le_of_ble_eq_true rfl) (preRW hK hS hAb (selP (is := [9, 10, 22, 23]) hP (jc_state_state_0_9_1_9 cA a (st_set_hill (st_set_cloud (st_set_swing (st_set_node (st_set_off s (st_off t)) (st_node t)) (st_swing t)) (st_cloud t)) r1) b t)) (selD (is := [9, 10, 22, 23]) hD (Nat_nd rfl) (jc_state_state_0_9_1_9 cA a (st_set_hill (st_set_cloud (st_set_swing (st_set_node (st_set_off s (st_off t)) (st_node t)) (st_swing t)) (st_cloud t)) r1) b t))) (rcv_0 hK hP (q0 := (9)) rfl) rfl hl rfl (Nat.le_of_ble_eq_true rfl) (dd D_X6_become 25 rfl) ⟨Nat.le_of_ble_eq_true rfl, Nat.le_of_ble_eq_true rfl⟩) (js_state_state_0_9_1_9_m0 cA a (st_set_hill (st_set_cloud (st_set_swing (st_set_node (st_set_off s (st_off t)) (st_node t)) (st_swing t)) (st_cloud t)) r1) b t r3) rfl (fun H locs hP hD hS => ?_)
  refine lv_aload_n F.1 F.2.1 (dd D_X6_become 26 rfl) rfl (lv_at hl 0 rfl) ?_
  refine getF F hK hP lf_X6_31 (0) rfl rfl (dd D_X6_become 27 rfl) ?_
  refine lv_aload_n F.1 F.2.1 (dd D_X6_become 28 rfl) rfl (lv_at hl 1 rfl) ?_
  refine getF F hK hP lf_X6_31 (13) rfl rfl (dd D_X6_become 29 rfl) ?_
  obtain ⟨r5, e6, h⟩ := Option.bind_eq_some_iff.mp h
  refine rwe (V := none) (wc := ((fewW cA 8 (fun i => a (11+i)) (st_clouds (st_set_stones (st_set_hill (st_set_cloud (st_set_swing (st_set_node (st_set_off s (st_off t)) (st_node t)) (st_swing t)) (st_cloud t)) r1) r3))) ++ (fewW cA 8 (fun i => b (11+i)) (st_clouds t)))) (wc' := ((fewW cA 8 (fun i => a (11+i)) r5) ++ (fewW cA 8 (fun i => b (11+i)) (st_clouds t)))) (st' := []) (W' := ((stateW cA a (st_set_clouds (st_set_stones (st_set_hill (st_set_cloud (st_set_swing (st_set_node (st_set_off s (st_off t)) (st_node t)) (st_swing t)) (st_cloud t)) r1) r3) r5)) ++ (stateW cA b t))) hP hD hS hA [11, 12, 24, 25] (jc_state_state_0_11_1_11 cA a (st_set_stones (st_set_hill (st_set_cloud (st_set_swing (st_set_node (st_set_off s (st_off t)) (st_node t)) (st_swing t)) (st_cloud t)) r1) r3) b t) (Nat_nd rfl) rfl (rV (rest := []) F (c_X0_become D cA 8 (fun i => a (11+i)) (st_clouds (st_set_stones (st_set_hill (st_set_cloud (st_set_swing (st_set_node (st_set_off s (st_off t)) (st_node t)) (st_swing t)) (st_cloud t)) r1) r3)) (fun i => b (11+i)) (st_clouds t) n r5 e6 l H.size) lk_X6_51 (Nat.le_of_ble_eq_true rfl) (preRW hK hS hAb (selP (is := [11, 12, 24, 25]) hP (jc_state_state_0_11_1_11 cA a (st_set_stones (st_set_hill (st_set_cloud (st_set_swing (st_set_node (st_set_off s (st_off t)) (st_node t)) (st_swing t)) (st_cloud t)) r1) r3) b t)) (selD (is := [11, 12, 24, 25]) hD (Nat_nd rfl) (jc_state_state_0_11_1_11 cA a (st_set_stones (st_set_hill (st_set_cloud (st_set_swing (st_set_node (st_set_off s (st_off t)) (st_node t)) (st_swing t)) (st_cloud t)) r1) r3) b t))) (rcv_0 hK hP (q0 := (11)) rfl) rfl hl rfl (Nat.le_of_ble_eq_true rfl) (dd D_X6_become 30 rfl) ⟨Nat.le_of_ble_eq_true rfl, Nat.le_of_ble_eq_true rfl⟩) (js_state_state_0_11_1_11_m0 cA a (st_set_stones (st_set_hill (st_set_cloud (st_set_swing (st_set_node (st_set_off s (st_off t)) (st_node t)) (st_swing t)) (st_cloud t)) r1) r3) b t r5) rfl (fun H locs hP hD hS => ?_)
  refine lv_aload_n F.1 F.2.1 (dd D_X6_become 31 rfl) rfl (lv_at hl 0 rfl) ?_
  refine lv_aload_n F.1 F.2.1 (dd D_X6_become 32 rfl) rfl (lv_at hl 1 rfl) ?_
  refine getF F hK hP lf_X6_54 (13) rfl rfl (dd D_X6_become 33 rfl) ?_
  refine putF F hK hP hD hS lp_X6_54 (0) rfl (Nat.le_of_ble_eq_true rfl) (nar_int _) (fit_int _) (ws' := ((stateW cA a (st_set_today (st_set_clouds (st_set_stones (st_set_hill (st_set_cloud (st_set_swing (st_set_node (st_set_off s (st_off t)) (st_node t)) (st_swing t)) (st_cloud t)) r1) r3) r5) (st_today t))) ++ (stateW cA b t))) (sL (Nat.le_of_ble_eq_true rfl) (ss_0_7 cA a (st_set_clouds (st_set_stones (st_set_hill (st_set_cloud (st_set_swing (st_set_node (st_set_off s (st_off t)) (st_node t)) (st_swing t)) (st_cloud t)) r1) r3) r5) (st_today t))) (dd D_X6_become 34 rfl) (fun H locs hP hD hS => ?_)
  refine lv_aload_n F.1 F.2.1 (dd D_X6_become 35 rfl) rfl (lv_at hl 0 rfl) ?_
  refine lv_aload_n F.1 F.2.1 (dd D_X6_become 36 rfl) rfl (lv_at hl 1 rfl) ?_
  refine getF F hK hP lf_X6_57 (13) rfl rfl (dd D_X6_become 37 rfl) ?_
  refine putF F hK hP hD hS lp_X6_57 (0) rfl (Nat.le_of_ble_eq_true rfl) (nar_int _) (fit_int _) (ws' := ((stateW cA a (st_set_looks (st_set_today (st_set_clouds (st_set_stones (st_set_hill (st_set_cloud (st_set_swing (st_set_node (st_set_off s (st_off t)) (st_node t)) (st_swing t)) (st_cloud t)) r1) r3) r5) (st_today t)) (st_looks t))) ++ (stateW cA b t))) (sL (Nat.le_of_ble_eq_true rfl) (ss_0_8 cA a (st_set_today (st_set_clouds (st_set_stones (st_set_hill (st_set_cloud (st_set_swing (st_set_node (st_set_off s (st_off t)) (st_node t)) (st_swing t)) (st_cloud t)) r1) r3) r5) (st_today t)) (st_looks t))) (dd D_X6_become 38 rfl) (fun H locs hP hD hS => ?_)
  refine lv_aload_n F.1 F.2.1 (dd D_X6_become 39 rfl) rfl (lv_at hl 0 rfl) ?_
  refine lv_aload_n F.1 F.2.1 (dd D_X6_become 40 rfl) rfl (lv_at hl 1 rfl) ?_
  refine getF F hK hP lf_X6_34 (13) rfl rfl (dd D_X6_become 41 rfl) ?_
  refine putF F hK hP hD hS lp_X6_34 (0) rfl (Nat.le_of_ble_eq_true rfl) (nar_int _) (fit_int _) (ws' := ((stateW cA a (st_set_seed (st_set_looks (st_set_today (st_set_clouds (st_set_stones (st_set_hill (st_set_cloud (st_set_swing (st_set_node (st_set_off s (st_off t)) (st_node t)) (st_swing t)) (st_cloud t)) r1) r3) r5) (st_today t)) (st_looks t)) (st_seed t))) ++ (stateW cA b t))) (sL (Nat.le_of_ble_eq_true rfl) (ss_0_9 cA a (st_set_looks (st_set_today (st_set_clouds (st_set_stones (st_set_hill (st_set_cloud (st_set_swing (st_set_node (st_set_off s (st_off t)) (st_node t)) (st_swing t)) (st_cloud t)) r1) r3) r5) (st_today t)) (st_looks t)) (st_seed t))) (dd D_X6_become 42 rfl) (fun H locs hP hD hS => ?_)
  obtain rfl := Option.some.inj h
  exact rw_v (R := rmOf 3 0 0) F hP hD hS hr hlk ⟨Nat.le_of_ble_eq_true rfl, Nat.le_of_ble_eq_true rfl⟩ ⟨rfl, rfl⟩ (dd D_X6_become 43 rfl)
def F_J6_bitCount_0f7a4 (p0 : Int32) : Int32 := (((((((((p0 - ((jushr p0 (1 : Int32)) &&& (1431655765 : Int32))) &&& (858993459 : Int32)) + ((jushr (p0 - ((jushr p0 (1 : Int32)) &&& (1431655765 : Int32))) (2 : Int32)) &&& (858993459 : Int32))) + (jushr (((p0 - ((jushr p0 (1 : Int32)) &&& (1431655765 : Int32))) &&& (858993459 : Int32)) + ((jushr (p0 - ((jushr p0 (1 : Int32)) &&& (1431655765 : Int32))) (2 : Int32)) &&& (858993459 : Int32))) (4 : Int32))) &&& (252645135 : Int32)) + (jushr (((((p0 - ((jushr p0 (1 : Int32)) &&& (1431655765 : Int32))) &&& (858993459 : Int32)) + ((jushr (p0 - ((jushr p0 (1 : Int32)) &&& (1431655765 : Int32))) (2 : Int32)) &&& (858993459 : Int32))) + (jushr (((p0 - ((jushr p0 (1 : Int32)) &&& (1431655765 : Int32))) &&& (858993459 : Int32)) + ((jushr (p0 - ((jushr p0 (1 : Int32)) &&& (1431655765 : Int32))) (2 : Int32)) &&& (858993459 : Int32))) (4 : Int32))) &&& (252645135 : Int32)) (8 : Int32))) + (jushr ((((((p0 - ((jushr p0 (1 : Int32)) &&& (1431655765 : Int32))) &&& (858993459 : Int32)) + ((jushr (p0 - ((jushr p0 (1 : Int32)) &&& (1431655765 : Int32))) (2 : Int32)) &&& (858993459 : Int32))) + (jushr (((p0 - ((jushr p0 (1 : Int32)) &&& (1431655765 : Int32))) &&& (858993459 : Int32)) + ((jushr (p0 - ((jushr p0 (1 : Int32)) &&& (1431655765 : Int32))) (2 : Int32)) &&& (858993459 : Int32))) (4 : Int32))) &&& (252645135 : Int32)) + (jushr (((((p0 - ((jushr p0 (1 : Int32)) &&& (1431655765 : Int32))) &&& (858993459 : Int32)) + ((jushr (p0 - ((jushr p0 (1 : Int32)) &&& (1431655765 : Int32))) (2 : Int32)) &&& (858993459 : Int32))) + (jushr (((p0 - ((jushr p0 (1 : Int32)) &&& (1431655765 : Int32))) &&& (858993459 : Int32)) + ((jushr (p0 - ((jushr p0 (1 : Int32)) &&& (1431655765 : Int32))) (2 : Int32)) &&& (858993459 : Int32))) (4 : Int32))) &&& (252645135 : Int32)) (8 : Int32))) (16 : Int32))) &&& (63 : Int32)))
set_option maxHeartbeats 4000000 in
set_option maxRecDepth 100000 in
theorem c_J6_bitCount_0f7a4 (D : va_G) (cA : Nat → ClassId)  (p0 : Int32) : RO m_J6_bitCount_0f7a4 0 D cA [.int p0] [] (some (.int (F_J6_bitCount_0f7a4 p0))) := by
  obtain ⟨r, h⟩ : ∃ r, F_J6_bitCount_0f7a4 p0 = r := ⟨_, rfl⟩
  rw [h]
  refine RO.ofW gy_J6_bitCount_0f7a4.2.2 (Nat.le_of_ble_eq_true rfl) ?_
  intro l p e sM m below meth c F hr hlk hK hP hS hAb ls hl
  have hl : lv_has ls 1 [(0, .int p0)] := hl
  unfold F_J6_bitCount_0f7a4 at h
  refine lv_iload_n F.1 F.2.1 (dd D_J6_bitCount_0f7a4 0 rfl) rfl (lv_at hl 0 rfl) ?_
  refine lv_iload_n F.1 F.2.1 (dd D_J6_bitCount_0f7a4 1 rfl) rfl (lv_at hl 0 rfl) ?_
  refine lv_iconst (v := (1 : Int32)) F.1 F.2.1 (dd D_J6_bitCount_0f7a4 2 rfl) ki_1 ?_
  refine lv_iushr (v := (jushr p0 (1 : Int32))) F.1 F.2.1 (dd D_J6_bitCount_0f7a4 3 rfl) rfl ?_
  refine lv_ldcw (own := RJ6) (v := (1431655765 : Int32)) F.1 F.2.1 F.2.2.2.1 (F.2.2.2.2 _ (w_1074)) (dd D_J6_bitCount_0f7a4 4 rfl) ?_
  refine lv_iand F.1 F.2.1 (dd D_J6_bitCount_0f7a4 5 rfl) ?_
  refine lv_isub F.1 F.2.1 (dd D_J6_bitCount_0f7a4 6 rfl) ?_
  refine lv_istore_n (lv' := [(0, .int (p0 - ((jushr p0 (1 : Int32)) &&& (1431655765 : Int32))))]) F.1 F.2.1 (dd D_J6_bitCount_0f7a4 7 rfl) rfl hl (Nat.le_of_ble_eq_true rfl) rfl (fun ls hl => ?_)
  refine lv_iload_n F.1 F.2.1 (dd D_J6_bitCount_0f7a4 8 rfl) rfl (lv_at hl 0 rfl) ?_
  refine lv_ldcw (own := RJ6) (v := (858993459 : Int32)) F.1 F.2.1 F.2.2.2.1 (F.2.2.2.2 _ (w_1075)) (dd D_J6_bitCount_0f7a4 9 rfl) ?_
  refine lv_iand F.1 F.2.1 (dd D_J6_bitCount_0f7a4 10 rfl) ?_
  refine lv_iload_n F.1 F.2.1 (dd D_J6_bitCount_0f7a4 11 rfl) rfl (lv_at hl 0 rfl) ?_
  refine lv_iconst (v := (2 : Int32)) F.1 F.2.1 (dd D_J6_bitCount_0f7a4 12 rfl) ki_2 ?_
  refine lv_iushr (v := (jushr (p0 - ((jushr p0 (1 : Int32)) &&& (1431655765 : Int32))) (2 : Int32))) F.1 F.2.1 (dd D_J6_bitCount_0f7a4 13 rfl) rfl ?_
  refine lv_ldcw (own := RJ6) (v := (858993459 : Int32)) F.1 F.2.1 F.2.2.2.1 (F.2.2.2.2 _ (w_1075)) (dd D_J6_bitCount_0f7a4 14 rfl) ?_
  refine lv_iand F.1 F.2.1 (dd D_J6_bitCount_0f7a4 15 rfl) ?_
  refine lv_iadd F.1 F.2.1 (dd D_J6_bitCount_0f7a4 16 rfl) ?_
  refine lv_istore_n (lv' := [(0, .int (((p0 - ((jushr p0 (1 : Int32)) &&& (1431655765 : Int32))) &&& (858993459 : Int32)) + ((jushr (p0 - ((jushr p0 (1 : Int32)) &&& (1431655765 : Int32))) (2 : Int32)) &&& (858993459 : Int32))))]) F.1 F.2.1 (dd D_J6_bitCount_0f7a4 17 rfl) rfl hl (Nat.le_of_ble_eq_true rfl) rfl (fun ls hl => ?_)
  refine lv_iload_n F.1 F.2.1 (dd D_J6_bitCount_0f7a4 18 rfl) rfl (lv_at hl 0 rfl) ?_
  refine lv_iload_n F.1 F.2.1 (dd D_J6_bitCount_0f7a4 19 rfl) rfl (lv_at hl 0 rfl) ?_
  refine lv_iconst (v := (4 : Int32)) F.1 F.2.1 (dd D_J6_bitCount_0f7a4 20 rfl) ki_4 ?_
  refine lv_iushr (v := (jushr (((p0 - ((jushr p0 (1 : Int32)) &&& (1431655765 : Int32))) &&& (858993459 : Int32)) + ((jushr (p0 - ((jushr p0 (1 : Int32)) &&& (1431655765 : Int32))) (2 : Int32)) &&& (858993459 : Int32))) (4 : Int32))) F.1 F.2.1 (dd D_J6_bitCount_0f7a4 21 rfl) rfl ?_
  refine lv_iadd F.1 F.2.1 (dd D_J6_bitCount_0f7a4 22 rfl) ?_
  refine lv_ldcw (own := RJ6) (v := (252645135 : Int32)) F.1 F.2.1 F.2.2.2.1 (F.2.2.2.2 _ (w_1076)) (dd D_J6_bitCount_0f7a4 23 rfl) ?_
  refine lv_iand F.1 F.2.1 (dd D_J6_bitCount_0f7a4 24 rfl) ?_
  refine lv_istore_n (lv' := [(0, .int (((((p0 - ((jushr p0 (1 : Int32)) &&& (1431655765 : Int32))) &&& (858993459 : Int32)) + ((jushr (p0 - ((jushr p0 (1 : Int32)) &&& (1431655765 : Int32))) (2 : Int32)) &&& (858993459 : Int32))) + (jushr (((p0 - ((jushr p0 (1 : Int32)) &&& (1431655765 : Int32))) &&& (858993459 : Int32)) + ((jushr (p0 - ((jushr p0 (1 : Int32)) &&& (1431655765 : Int32))) (2 : Int32)) &&& (858993459 : Int32))) (4 : Int32))) &&& (252645135 : Int32)))]) F.1 F.2.1 (dd D_J6_bitCount_0f7a4 25 rfl) rfl hl (Nat.le_of_ble_eq_true rfl) rfl (fun ls hl => ?_)
  refine lv_iload_n F.1 F.2.1 (dd D_J6_bitCount_0f7a4 26 rfl) rfl (lv_at hl 0 rfl) ?_
  refine lv_iload_n F.1 F.2.1 (dd D_J6_bitCount_0f7a4 27 rfl) rfl (lv_at hl 0 rfl) ?_
  refine lv_bipush (v := (8 : Int32)) F.1 F.2.1 (dd D_J6_bitCount_0f7a4 28 rfl) kb_8 ?_
  refine lv_iushr (v := (jushr (((((p0 - ((jushr p0 (1 : Int32)) &&& (1431655765 : Int32))) &&& (858993459 : Int32)) + ((jushr (p0 - ((jushr p0 (1 : Int32)) &&& (1431655765 : Int32))) (2 : Int32)) &&& (858993459 : Int32))) + (jushr (((p0 - ((jushr p0 (1 : Int32)) &&& (1431655765 : Int32))) &&& (858993459 : Int32)) + ((jushr (p0 - ((jushr p0 (1 : Int32)) &&& (1431655765 : Int32))) (2 : Int32)) &&& (858993459 : Int32))) (4 : Int32))) &&& (252645135 : Int32)) (8 : Int32))) F.1 F.2.1 (dd D_J6_bitCount_0f7a4 29 rfl) rfl ?_
  refine lv_iadd F.1 F.2.1 (dd D_J6_bitCount_0f7a4 30 rfl) ?_
  refine lv_istore_n (lv' := [(0, .int ((((((p0 - ((jushr p0 (1 : Int32)) &&& (1431655765 : Int32))) &&& (858993459 : Int32)) + ((jushr (p0 - ((jushr p0 (1 : Int32)) &&& (1431655765 : Int32))) (2 : Int32)) &&& (858993459 : Int32))) + (jushr (((p0 - ((jushr p0 (1 : Int32)) &&& (1431655765 : Int32))) &&& (858993459 : Int32)) + ((jushr (p0 - ((jushr p0 (1 : Int32)) &&& (1431655765 : Int32))) (2 : Int32)) &&& (858993459 : Int32))) (4 : Int32))) &&& (252645135 : Int32)) + (jushr (((((p0 - ((jushr p0 (1 : Int32)) &&& (1431655765 : Int32))) &&& (858993459 : Int32)) + ((jushr (p0 - ((jushr p0 (1 : Int32)) &&& (1431655765 : Int32))) (2 : Int32)) &&& (858993459 : Int32))) + (jushr (((p0 - ((jushr p0 (1 : Int32)) &&& (1431655765 : Int32))) &&& (858993459 : Int32)) + ((jushr (p0 - ((jushr p0 (1 : Int32)) &&& (1431655765 : Int32))) (2 : Int32)) &&& (858993459 : Int32))) (4 : Int32))) &&& (252645135 : Int32)) (8 : Int32))))]) F.1 F.2.1 (dd D_J6_bitCount_0f7a4 31 rfl) rfl hl (Nat.le_of_ble_eq_true rfl) rfl (fun ls hl => ?_)
  refine lv_iload_n F.1 F.2.1 (dd D_J6_bitCount_0f7a4 32 rfl) rfl (lv_at hl 0 rfl) ?_
  refine lv_iload_n F.1 F.2.1 (dd D_J6_bitCount_0f7a4 33 rfl) rfl (lv_at hl 0 rfl) ?_
  refine lv_bipush (v := (16 : Int32)) F.1 F.2.1 (dd D_J6_bitCount_0f7a4 34 rfl) kb_16 ?_
  refine lv_iushr (v := (jushr ((((((p0 - ((jushr p0 (1 : Int32)) &&& (1431655765 : Int32))) &&& (858993459 : Int32)) + ((jushr (p0 - ((jushr p0 (1 : Int32)) &&& (1431655765 : Int32))) (2 : Int32)) &&& (858993459 : Int32))) + (jushr (((p0 - ((jushr p0 (1 : Int32)) &&& (1431655765 : Int32))) &&& (858993459 : Int32)) + ((jushr (p0 - ((jushr p0 (1 : Int32)) &&& (1431655765 : Int32))) (2 : Int32)) &&& (858993459 : Int32))) (4 : Int32))) &&& (252645135 : Int32)) + (jushr (((((p0 - ((jushr p0 (1 : Int32)) &&& (1431655765 : Int32))) &&& (858993459 : Int32)) + ((jushr (p0 - ((jushr p0 (1 : Int32)) &&& (1431655765 : Int32))) (2 : Int32)) &&& (858993459 : Int32))) + (jushr (((p0 - ((jushr p0 (1 : Int32)) &&& (1431655765 : Int32))) &&& (858993459 : Int32)) + ((jushr (p0 - ((jushr p0 (1 : Int32)) &&& (1431655765 : Int32))) (2 : Int32)) &&& (858993459 : Int32))) (4 : Int32))) &&& (252645135 : Int32)) (8 : Int32))) (16 : Int32))) F.1 F.2.1 (dd D_J6_bitCount_0f7a4 35 rfl) rfl ?_
  refine lv_iadd F.1 F.2.1 (dd D_J6_bitCount_0f7a4 36 rfl) ?_
  refine lv_istore_n (lv' := [(0, .int (((((((p0 - ((jushr p0 (1 : Int32)) &&& (1431655765 : Int32))) &&& (858993459 : Int32)) + ((jushr (p0 - ((jushr p0 (1 : Int32)) &&& (1431655765 : Int32))) (2 : Int32)) &&& (858993459 : Int32))) + (jushr (((p0 - ((jushr p0 (1 : Int32)) &&& (1431655765 : Int32))) &&& (858993459 : Int32)) + ((jushr (p0 - ((jushr p0 (1 : Int32)) &&& (1431655765 : Int32))) (2 : Int32)) &&& (858993459 : Int32))) (4 : Int32))) &&& (252645135 : Int32)) + (jushr (((((p0 - ((jushr p0 (1 : Int32)) &&& (1431655765 : Int32))) &&& (858993459 : Int32)) + ((jushr (p0 - ((jushr p0 (1 : Int32)) &&& (1431655765 : Int32))) (2 : Int32)) &&& (858993459 : Int32))) + (jushr (((p0 - ((jushr p0 (1 : Int32)) &&& (1431655765 : Int32))) &&& (858993459 : Int32)) + ((jushr (p0 - ((jushr p0 (1 : Int32)) &&& (1431655765 : Int32))) (2 : Int32)) &&& (858993459 : Int32))) (4 : Int32))) &&& (252645135 : Int32)) (8 : Int32))) + (jushr ((((((p0 - ((jushr p0 (1 : Int32)) &&& (1431655765 : Int32))) &&& (858993459 : Int32)) + ((jushr (p0 - ((jushr p0 (1 : Int32)) &&& (1431655765 : Int32))) (2 : Int32)) &&& (858993459 : Int32))) + (jushr (((p0 - ((jushr p0 (1 : Int32)) &&& (1431655765 : Int32))) &&& (858993459 : Int32)) + ((jushr (p0 - ((jushr p0 (1 : Int32)) &&& (1431655765 : Int32))) (2 : Int32)) &&& (858993459 : Int32))) (4 : Int32))) &&& (252645135 : Int32)) + (jushr (((((p0 - ((jushr p0 (1 : Int32)) &&& (1431655765 : Int32))) &&& (858993459 : Int32)) + ((jushr (p0 - ((jushr p0 (1 : Int32)) &&& (1431655765 : Int32))) (2 : Int32)) &&& (858993459 : Int32))) + (jushr (((p0 - ((jushr p0 (1 : Int32)) &&& (1431655765 : Int32))) &&& (858993459 : Int32)) + ((jushr (p0 - ((jushr p0 (1 : Int32)) &&& (1431655765 : Int32))) (2 : Int32)) &&& (858993459 : Int32))) (4 : Int32))) &&& (252645135 : Int32)) (8 : Int32))) (16 : Int32))))]) F.1 F.2.1 (dd D_J6_bitCount_0f7a4 37 rfl) rfl hl (Nat.le_of_ble_eq_true rfl) rfl (fun ls hl => ?_)
  refine lv_iload_n F.1 F.2.1 (dd D_J6_bitCount_0f7a4 38 rfl) rfl (lv_at hl 0 rfl) ?_
  refine lv_bipush (v := (63 : Int32)) F.1 F.2.1 (dd D_J6_bitCount_0f7a4 39 rfl) kb_63 ?_
  refine lv_iand F.1 F.2.1 (dd D_J6_bitCount_0f7a4 40 rfl) ?_
  exact ro_i (R := rmOf 0 0 0) F hr hlk (congrArg (fun z => some (Value.int z)) h) (dd D_J6_bitCount_0f7a4 41 rfl)
def F_J9_floorDiv_7cf53 (p0 : Int32) (p1 : Int32) : Int32 := (if 0 ≤ (p0 ^^^ p1) then ((p0 / p1)) else (if ((p0 / p1) * p1) = p0 then ((p0 / p1)) else (((p0 / p1) - (1 : Int32)))))
set_option maxHeartbeats 4000000 in
set_option maxRecDepth 100000 in
theorem c_J9_floorDiv_7cf53 (D : va_G) (cA : Nat → ClassId)  (p0 : Int32) (p1 : Int32) (hy0 : ¬ p1 = 0) : RO m_J9_floorDiv_7cf53 0 D cA [.int p0, .int p1] [] (some (.int (F_J9_floorDiv_7cf53 p0 p1))) := by
  obtain ⟨r, h⟩ : ∃ r, F_J9_floorDiv_7cf53 p0 p1 = r := ⟨_, rfl⟩
  rw [h]
  refine RO.ofW gy_J9_floorDiv_7cf53.2.2 (Nat.le_of_ble_eq_true rfl) ?_
  intro l p e sM m below meth c F hr hlk hK hP hS hAb ls hl
  have hl : lv_has ls 3 [(0, .int p0), (1, .int p1)] := hl
  unfold F_J9_floorDiv_7cf53 at h
  refine lv_iload_n F.1 F.2.1 (dd D_J9_floorDiv_7cf53 0 rfl) rfl (lv_at hl 0 rfl) ?_
  refine lv_iload_n F.1 F.2.1 (dd D_J9_floorDiv_7cf53 1 rfl) rfl (lv_at hl 1 rfl) ?_
  refine lv_idiv F.1 F.2.1 (dd D_J9_floorDiv_7cf53 2 rfl) hy0 ?_
  refine lv_istore_n (lv' := [(2, .int (p0 / p1)), (0, .int p0), (1, .int p1)]) F.1 F.2.1 (dd D_J9_floorDiv_7cf53 3 rfl) rfl hl (Nat.le_of_ble_eq_true rfl) rfl (fun ls hl => ?_)
  refine lv_iload_n F.1 F.2.1 (dd D_J9_floorDiv_7cf53 4 rfl) rfl (lv_at hl 1 rfl) ?_
  refine lv_iload_n F.1 F.2.1 (dd D_J9_floorDiv_7cf53 5 rfl) rfl (lv_at hl 2 rfl) ?_
  refine lv_ixor F.1 F.2.1 (dd D_J9_floorDiv_7cf53 6 rfl) ?_
  refine x_if_ge (tgt := 21) F.1 F.2.1 (dd D_J9_floorDiv_7cf53 7 rfl) rfl h (fun c1 h => ?_) (fun c1 h => ?_)
  · refine lv_iload_n F.1 F.2.1 (dd D_J9_floorDiv_7cf53 17 rfl) rfl (lv_at hl 0 rfl) ?_
    exact ro_i (R := rmOf 0 0 0) F hr hlk (congrArg (fun z => some (Value.int z)) h) (dd D_J9_floorDiv_7cf53 18 rfl)
  · refine lv_iload_n F.1 F.2.1 (dd D_J9_floorDiv_7cf53 8 rfl) rfl (lv_at hl 0 rfl) ?_
    refine lv_iload_n F.1 F.2.1 (dd D_J9_floorDiv_7cf53 9 rfl) rfl (lv_at hl 2 rfl) ?_
    refine lv_imul F.1 F.2.1 (dd D_J9_floorDiv_7cf53 10 rfl) ?_
    refine lv_iload_n F.1 F.2.1 (dd D_J9_floorDiv_7cf53 11 rfl) rfl (lv_at hl 1 rfl) ?_
    refine x_icmp_eq (tgt := 21) F.1 F.2.1 (dd D_J9_floorDiv_7cf53 12 rfl) rfl h (fun c2 h => ?_) (fun c2 h => ?_)
    · refine lv_iload_n F.1 F.2.1 (dd D_J9_floorDiv_7cf53 17 rfl) rfl (lv_at hl 0 rfl) ?_
      exact ro_i (R := rmOf 0 0 0) F hr hlk (congrArg (fun z => some (Value.int z)) h) (dd D_J9_floorDiv_7cf53 18 rfl)
    · refine lv_iload_n F.1 F.2.1 (dd D_J9_floorDiv_7cf53 13 rfl) rfl (lv_at hl 0 rfl) ?_
      refine lv_iconst (v := (1 : Int32)) F.1 F.2.1 (dd D_J9_floorDiv_7cf53 14 rfl) ki_1 ?_
      refine lv_isub F.1 F.2.1 (dd D_J9_floorDiv_7cf53 15 rfl) ?_
      exact ro_i (R := rmOf 0 0 0) F hr hlk (congrArg (fun z => some (Value.int z)) h) (dd D_J9_floorDiv_7cf53 16 rfl)
def F_J9_floorMod_7cf53 (p0 : Int32) (p1 : Int32) : Int32 := (if 0 ≤ (p0 ^^^ p1) then ((jrem p0 p1)) else (if (jrem p0 p1) = 0 then ((jrem p0 p1)) else (((jrem p0 p1) + p1))))
set_option maxHeartbeats 4000000 in
set_option maxRecDepth 100000 in
theorem c_J9_floorMod_7cf53 (D : va_G) (cA : Nat → ClassId)  (p0 : Int32) (p1 : Int32) (hy0 : ¬ p1 = 0) : RO m_J9_floorMod_7cf53 0 D cA [.int p0, .int p1] [] (some (.int (F_J9_floorMod_7cf53 p0 p1))) := by
  obtain ⟨r, h⟩ : ∃ r, F_J9_floorMod_7cf53 p0 p1 = r := ⟨_, rfl⟩
  rw [h]
  refine RO.ofW gy_J9_floorMod_7cf53.2.2 (Nat.le_of_ble_eq_true rfl) ?_
  intro l p e sM m below meth c F hr hlk hK hP hS hAb ls hl
  have hl : lv_has ls 3 [(0, .int p0), (1, .int p1)] := hl
  unfold F_J9_floorMod_7cf53 at h
  refine lv_iload_n F.1 F.2.1 (dd D_J9_floorMod_7cf53 0 rfl) rfl (lv_at hl 0 rfl) ?_
  refine lv_iload_n F.1 F.2.1 (dd D_J9_floorMod_7cf53 1 rfl) rfl (lv_at hl 1 rfl) ?_
  refine x_irem F.1 F.2.1 (dd D_J9_floorMod_7cf53 2 rfl) hy0 ?_
  refine lv_istore_n (lv' := [(2, .int (jrem p0 p1)), (0, .int p0), (1, .int p1)]) F.1 F.2.1 (dd D_J9_floorMod_7cf53 3 rfl) rfl hl (Nat.le_of_ble_eq_true rfl) rfl (fun ls hl => ?_)
  refine lv_iload_n F.1 F.2.1 (dd D_J9_floorMod_7cf53 4 rfl) rfl (lv_at hl 1 rfl) ?_
  refine lv_iload_n F.1 F.2.1 (dd D_J9_floorMod_7cf53 5 rfl) rfl (lv_at hl 2 rfl) ?_
  refine lv_ixor F.1 F.2.1 (dd D_J9_floorMod_7cf53 6 rfl) ?_
  refine x_if_ge (tgt := 18) F.1 F.2.1 (dd D_J9_floorMod_7cf53 7 rfl) rfl h (fun c1 h => ?_) (fun c1 h => ?_)
  · refine lv_iload_n F.1 F.2.1 (dd D_J9_floorMod_7cf53 14 rfl) rfl (lv_at hl 0 rfl) ?_
    exact ro_i (R := rmOf 0 0 0) F hr hlk (congrArg (fun z => some (Value.int z)) h) (dd D_J9_floorMod_7cf53 15 rfl)
  · refine lv_iload_n F.1 F.2.1 (dd D_J9_floorMod_7cf53 8 rfl) rfl (lv_at hl 0 rfl) ?_
    refine x_if_eq (tgt := 18) F.1 F.2.1 (dd D_J9_floorMod_7cf53 9 rfl) rfl h (fun c2 h => ?_) (fun c2 h => ?_)
    · refine lv_iload_n F.1 F.2.1 (dd D_J9_floorMod_7cf53 14 rfl) rfl (lv_at hl 0 rfl) ?_
      exact ro_i (R := rmOf 0 0 0) F hr hlk (congrArg (fun z => some (Value.int z)) h) (dd D_J9_floorMod_7cf53 15 rfl)
    · refine lv_iload_n F.1 F.2.1 (dd D_J9_floorMod_7cf53 10 rfl) rfl (lv_at hl 0 rfl) ?_
      refine lv_iload_n F.1 F.2.1 (dd D_J9_floorMod_7cf53 11 rfl) rfl (lv_at hl 2 rfl) ?_
      refine lv_iadd F.1 F.2.1 (dd D_J9_floorMod_7cf53 12 rfl) ?_
      exact ro_i (R := rmOf 0 0 0) F hr hlk (congrArg (fun z => some (Value.int z)) h) (dd D_J9_floorMod_7cf53 13 rfl)
def F_J9_abs_0f7a4 (p0 : Int32) : Int32 := (if 0 ≤ p0 then (p0) else ((-p0)))
set_option maxHeartbeats 4000000 in
set_option maxRecDepth 100000 in
theorem c_J9_abs_0f7a4 (D : va_G) (cA : Nat → ClassId)  (p0 : Int32) : RO m_J9_abs_0f7a4 0 D cA [.int p0] [] (some (.int (F_J9_abs_0f7a4 p0))) := by
  obtain ⟨r, h⟩ : ∃ r, F_J9_abs_0f7a4 p0 = r := ⟨_, rfl⟩
  rw [h]
  refine RO.ofW gy_J9_abs_0f7a4.2.2 (Nat.le_of_ble_eq_true rfl) ?_
  intro l p e sM m below meth c F hr hlk hK hP hS hAb ls hl
  have hl : lv_has ls 1 [(0, .int p0)] := hl
  unfold F_J9_abs_0f7a4 at h
  refine lv_iload_n F.1 F.2.1 (dd D_J9_abs_0f7a4 0 rfl) rfl (lv_at hl 0 rfl) ?_
  refine x_if_ge (tgt := 9) F.1 F.2.1 (dd D_J9_abs_0f7a4 1 rfl) rfl h (fun c1 h => ?_) (fun c1 h => ?_)
  · refine lv_iload_n F.1 F.2.1 (dd D_J9_abs_0f7a4 5 rfl) rfl (lv_at hl 0 rfl) ?_
    exact ro_i (R := rmOf 0 0 0) F hr hlk (congrArg (fun z => some (Value.int z)) h) (dd D_J9_abs_0f7a4 6 rfl)
  · refine lv_iload_n F.1 F.2.1 (dd D_J9_abs_0f7a4 2 rfl) rfl (lv_at hl 0 rfl) ?_
    refine lv_ineg F.1 F.2.1 (dd D_J9_abs_0f7a4 3 rfl) ?_
    refine lv_goto (tgt := 10) F.1 F.2.1 (dd D_J9_abs_0f7a4 4 rfl) rfl ?_
    exact ro_i (R := rmOf 0 0 0) F hr hlk (congrArg (fun z => some (Value.int z)) h) (dd D_J9_abs_0f7a4 6 rfl)
def F_X5_take_same (n : Nat) (s : SH) (p2 : Int32) (p3 : Int32) (p4 : Int32) : Option SH := bf (F_X5_hasPlaces s p2 p4) (bf (F_X5_hasPlaces s p3 p4) (gd (acok p2 p3 p4 40 40) (some (sh_set_el s (va_cpy (sh_el s) (sh_el s) (Int32.toNatClampNeg p2) (Int32.toNatClampNeg p3) (Int32.toNatClampNeg p4))))) (some s)) (some s)
set_option maxHeartbeats 4000000 in
set_option maxRecDepth 100000 in
theorem c_X5_take_same (D : va_G) (cA : Nat → ClassId) (a : Nat → Nat) (s : SH) (n : Nat) (p2 : Int32) (p3 : Int32) (p4 : Int32) (r : SH) (h : F_X5_take_same n s p2 p3 p4 = some r) : RW m_X5_take_same 1 0 0 D cA [.ref (a 0), .ref (a 0), .int p2, .int p3, .int p4] (shelfW cA a s) (exq (none) (shelfW cA a r)) := by
  refine RW.ofW gy_X5_take_same.2.2 (Nat.le_of_ble_eq_true rfl) ?_
  intro l p e sM m below meth c A H locs F hr hlk hnm hK hP hD hS hA hAb ls hl
  have hl : lv_has ls 5 [(0, .ref (a 0)), (1, .ref (a 0)), (2, .int p2), (3, .int p3), (4, .int p4)] := hl
  unfold F_X5_take_same at h
  refine lv_aload_n F.1 F.2.1 (dd D_X5_take_same 0 rfl) rfl (lv_at hl 1 rfl) ?_
  refine lv_iload_n F.1 F.2.1 (dd D_X5_take_same 1 rfl) rfl (lv_at hl 2 rfl) ?_
  refine lv_iload F.1 F.2.1 (dd D_X5_take_same 2 rfl) (lv_at hl 4 rfl) ?_
  refine ro_go (st' := [.int (bI (F_X5_hasPlaces s p2 p4))]) (rV (rest := []) F (c_X5_hasPlaces D cA a s p2 p4 l) lk_X5_51 (Nat.le_of_ble_eq_true rfl) (preRO hK hS hAb hP) (rcv_5 hK hP (q0 := (0)) rfl) rfl hl rfl (Nat.le_of_ble_eq_true rfl) (dd D_X5_take_same 3 rfl) ⟨Nat.le_of_ble_eq_true rfl, Nat.le_of_ble_eq_true rfl⟩) rfl ?_
  refine x_bif_eq (tgt := 35) F.1 F.2.1 (dd D_X5_take_same 4 rfl) rfl h (fun c2 h => ?_) (fun c2 h => ?_)
  · obtain rfl := Option.some.inj h
    exact rw_v (R := rmOf 1 0 0) F hP hD hS hr hlk ⟨Nat.le_of_ble_eq_true rfl, Nat.le_of_ble_eq_true rfl⟩ ⟨rfl, rfl⟩ (dd D_X5_take_same 18 rfl)
  · refine lv_aload_n F.1 F.2.1 (dd D_X5_take_same 5 rfl) rfl (lv_at hl 0 rfl) ?_
    refine lv_iload_n F.1 F.2.1 (dd D_X5_take_same 6 rfl) rfl (lv_at hl 3 rfl) ?_
    refine lv_iload F.1 F.2.1 (dd D_X5_take_same 7 rfl) (lv_at hl 4 rfl) ?_
    refine ro_go (st' := [.int (bI (F_X5_hasPlaces s p3 p4))]) (rV (rest := []) F (c_X5_hasPlaces D cA a s p3 p4 l) lk_X5_51 (Nat.le_of_ble_eq_true rfl) (preRO hK hS hAb hP) (rcv_5 hK hP (q0 := (0)) rfl) rfl hl rfl (Nat.le_of_ble_eq_true rfl) (dd D_X5_take_same 8 rfl) ⟨Nat.le_of_ble_eq_true rfl, Nat.le_of_ble_eq_true rfl⟩) rfl ?_
    refine x_bif_eq (tgt := 35) F.1 F.2.1 (dd D_X5_take_same 9 rfl) rfl h (fun c1 h => ?_) (fun c1 h => ?_)
    · obtain rfl := Option.some.inj h
      exact rw_v (R := rmOf 1 0 0) F hP hD hS hr hlk ⟨Nat.le_of_ble_eq_true rfl, Nat.le_of_ble_eq_true rfl⟩ ⟨rfl, rfl⟩ (dd D_X5_take_same 18 rfl)
    · refine lv_aload_n F.1 F.2.1 (dd D_X5_take_same 10 rfl) rfl (lv_at hl 1 rfl) ?_
      refine getF F hK hP lf_X5_11 (0) rfl rfl (dd D_X5_take_same 11 rfl) ?_
      refine lv_iload_n F.1 F.2.1 (dd D_X5_take_same 12 rfl) rfl (lv_at hl 2 rfl) ?_
      refine lv_aload_n F.1 F.2.1 (dd D_X5_take_same 13 rfl) rfl (lv_at hl 0 rfl) ?_
      refine getF F hK hP lf_X5_11 (0) rfl rfl (dd D_X5_take_same 14 rfl) ?_
      refine lv_iload_n F.1 F.2.1 (dd D_X5_take_same 15 rfl) rfl (lv_at hl 3 rfl) ?_
      refine lv_iload F.1 F.2.1 (dd D_X5_take_same 16 rfl) (lv_at hl 4 rfl) ?_
      refine acopyL F hK hP hD hS la_X5_55 hl (1) (1) rfl rfl h (ws' := (shelfW cA a (sh_set_el s (va_cpy (sh_el s) (sh_el s) (Int32.toNatClampNeg p2) (Int32.toNatClampNeg p3) (Int32.toNatClampNeg p4))))) rfl (Nat.le_of_ble_eq_true rfl) (Nat.le_of_ble_eq_true rfl) (dd D_X5_take_same 17 rfl) (fun h H locs hP hD hS => ?_)
      obtain rfl := Option.some.inj h
      exact rw_v (R := rmOf 1 0 0) F hP hD hS hr hlk ⟨Nat.le_of_ble_eq_true rfl, Nat.le_of_ble_eq_true rfl⟩ ⟨rfl, rfl⟩ (dd D_X5_take_same 18 rfl)
