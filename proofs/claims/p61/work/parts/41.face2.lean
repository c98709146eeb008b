/-- two models side by side -/
theorem jc_mm (cA : Nat → ClassId) (am bm : Nat → Nat) (s t : MS) : [31, 32, 33, 34, 35, 36, 37, 38, 39, 40, 41, 42, 43, 44, 45, 46, 47, 48, 49, 50, 51, 52, 53, 54, 55, 56, 57, 58, 59, 60, 61, 0, 1, 2, 3, 4, 5, 6, 7, 8, 9, 10, 11, 12, 13, 14, 15, 16, 17, 18, 19, 20, 21, 22, 23, 24, 25, 26, 27, 28, 29, 30].map (fun i => (mW cA am s ++ mW cA bm t)[i]?) = (mW cA bm t ++ mW cA am s).map some := rfl
theorem jc_m1 (cA : Nat → ClassId) (am : Nat → Nat) (s : MS) (W : va_W) : [0, 1, 2, 3, 4, 5, 6, 7, 8, 9, 10, 11, 12, 13, 14, 15, 16, 17, 18, 19, 20, 21, 22, 23, 24, 25, 26, 27, 28, 29, 30].map (fun i => (mW cA am s ++ W)[i]?) = (mW cA am s).map some := rfl
theorem js_m1 (cA : Nat → ClassId) (am : Nat → Nat) (s v : MS) (W : va_W) : putAll (mW cA am s ++ W) [0, 1, 2, 3, 4, 5, 6, 7, 8, 9, 10, 11, 12, 13, 14, 15, 16, 17, 18, 19, 20, 21, 22, 23, 24, 25, 26, 27, 28, 29, 30] (mW cA am v) = mW cA am v ++ W := jsx (L1 := []) (S := mW cA am s) (L2 := W) rfl rfl ((mp_len cA am v).trans (mp_len cA am s).symm) (by rw [mp_len]; rfl)
theorem js_mm (cA : Nat → ClassId) (am bm : Nat → Nat) (s t v : MS) : putAll (mW cA am s ++ mW cA bm t) [31, 32, 33, 34, 35, 36, 37, 38, 39, 40, 41, 42, 43, 44, 45, 46, 47, 48, 49, 50, 51, 52, 53, 54, 55, 56, 57, 58, 59, 60, 61, 0, 1, 2, 3, 4, 5, 6, 7, 8, 9, 10, 11, 12, 13, 14, 15, 16, 17, 18, 19, 20, 21, 22, 23, 24, 25, 26, 27, 28, 29, 30] (mW cA bm v ++ mW cA am s) = mW cA am s ++ mW cA bm v := by
  refine (putAll_app [31, 32, 33, 34, 35, 36, 37, 38, 39, 40, 41, 42, 43, 44, 45, 46, 47, 48, 49, 50, 51, 52, 53, 54, 55, 56, 57, 58, 59, 60, 61] [0, 1, 2, 3, 4, 5, 6, 7, 8, 9, 10, 11, 12, 13, 14, 15, 16, 17, 18, 19, 20, 21, 22, 23, 24, 25, 26, 27, 28, 29, 30] (mW cA bm v) (mW cA am s) _ (mp_len cA bm v).symm).trans ?_
  rw [jsx (ws := mW cA am s ++ mW cA bm t) (W' := mW cA am s ++ mW cA bm v) (is := [31, 32, 33, 34, 35, 36, 37, 38, 39, 40, 41, 42, 43, 44, 45, 46, 47, 48, 49, 50, 51, 52, 53, 54, 55, 56, 57, 58, 59, 60, 61]) (L1 := mW cA am s) (S := mW cA bm t) (L2 := []) (S' := mW cA bm v) (by rw [List.append_nil]) (by rw [List.append_nil]) ((mp_len cA bm v).trans (mp_len cA bm t).symm) (by rw [mp_len, mp_len]; rfl)]
  exact js_m1 cA am s s (mW cA bm v)
theorem set_kept_eta {r : MS} {o : Option Nat} (h : m_kept r = o) : r = m_set_kept r o := by rw [← h]
theorem set_tried_eta {r : MS} {o : Option Nat} (h : m_tried r = o) : r = m_set_tried r o := by rw [← h]
abbrev va_vals (_cA : Nat → ClassId) (am : Nat → Nat) (s : MS) : List Value := [.ref (am 1), .ref (am 2), .ref (am 3), .ref (am 4), .ref (am 13), .ref (am 14), .ref (am 15), .ref (am 16), .int (m_tapeSize s), .ref (am 17), .ref (am 18), .int (m_notches s), .ref (am 19), .int (m_stones s), .ref (am 28), .int (m_clouds s), .ref (am 29), .int (m_today s), .int (m_looks s), .int (m_seed s), va_rf (m_kept s), va_rf (m_tried s), .int (m_atp s), .int (m_token s), .int (m_frm s), .int (m_figures s), .int (m_fault s), .ref (am 30), .int (m_statements s)]
theorem mkept_ref (cA : Nat → ClassId) (am : Nat → Nat) (s : MS) (b : Nat) : (mW cA am s).set 0 (am 0, .inr (9, (va_vals cA am s).set 20 (.ref b))) = mW cA am (m_set_kept s (some b)) := rfl
theorem mkept_set (s : MS) (o o2 : Option Nat) : m_set_kept (m_set_kept s o) o2 = m_set_kept s o2 := rfl
theorem mkept_put (cA : Nat → ClassId) (am bm : Nat → Nat) (s t : MS) : (mW cA am (m_set_kept s none) ++ mW cA bm t).set 0 (am 0, .inr (9, (va_vals cA am (m_set_kept s none)).set 20 (.ref (bm 0)))) = mW cA am (m_set_kept s (some (bm 0))) ++ mW cA bm t := sL (by rw [mp_len]; exact Nat.le_of_ble_eq_true rfl) ((mkept_ref cA am (m_set_kept s none) (bm 0)).trans (congrArg (mW cA am) (mkept_set s none (some (bm 0)))))
theorem mtried_ref (cA : Nat → ClassId) (am : Nat → Nat) (s : MS) (b : Nat) : (mW cA am s).set 0 (am 0, .inr (9, (va_vals cA am s).set 21 (.ref b))) = mW cA am (m_set_tried s (some b)) := rfl
theorem mtried_set (s : MS) (o o2 : Option Nat) : m_set_tried (m_set_tried s o) o2 = m_set_tried s o2 := rfl
theorem mtried_put (cA : Nat → ClassId) (am bm : Nat → Nat) (s t : MS) : (mW cA am (m_set_tried s none) ++ mW cA bm t).set 0 (am 0, .inr (9, (va_vals cA am (m_set_tried s none)).set 21 (.ref (bm 0)))) = mW cA am (m_set_tried s (some (bm 0))) ++ mW cA bm t := sL (by rw [mp_len]; exact Nat.le_of_ble_eq_true rfl) ((mtried_ref cA am (m_set_tried s none) (bm 0)).trans (congrArg (mW cA am) (mtried_set s none (some (bm 0)))))
theorem w_36 : Cond.selects "MoonOverTheHillModel" (⟨"MoonOverTheHillModel", "takeFrom", "(LMoonOverTheHillModel;)V"⟩ : MethodName) (⟨"MoonOverTheHillModel", "takeFrom", "(LMoonOverTheHillModel;)V"⟩ : MethodName) ∈ ALL := inP 36 rfl rfl
theorem w_1377 : (Jvm.Cond.instanceMethod ({ cls := "MoonOverTheHillModel", name := "takeFrom", desc := "(LMoonOverTheHillModel;)V" } : Jvm.MethodName)) ∈ ALL := inT_6 117 rfl rfl
theorem w_1375 : (Jvm.Cond.methodLink "MoonOverTheHillModel" (220 : Nat) ({ cls := "MoonOverTheHillModel", name := "takeFrom", desc := "(LMoonOverTheHillModel;)V" } : Jvm.MethodName)) ∈ ALL := inT_6 115 rfl rfl
theorem lk_X9_220 : LkV RX9 220 m_X9_takeFrom 1 := ⟨(List.forall_mem_cons.mpr ⟨w_1375, (List.forall_mem_cons.mpr ⟨w_1377, (List.forall_mem_cons.mpr ⟨w_36, (List.forall_mem_cons.mpr ⟨w_70, (List.forall_mem_nil _)⟩)⟩)⟩)⟩), gy_X9_takeFrom⟩
theorem w_37 : Cond.selects "MoonOverTheHillModel" (⟨"MoonOverTheHillModel", "readAll", "()Z"⟩ : MethodName) (⟨"MoonOverTheHillModel", "readAll", "()Z"⟩ : MethodName) ∈ ALL := inP 37 rfl rfl
theorem w_1384 : (Jvm.Cond.instanceMethod ({ cls := "MoonOverTheHillModel", name := "readAll", desc := "()Z" } : Jvm.MethodName)) ∈ ALL := inT_6 124 rfl rfl
theorem w_1382 : (Jvm.Cond.methodLink "MoonOverTheHillModel" (224 : Nat) ({ cls := "MoonOverTheHillModel", name := "readAll", desc := "()Z" } : Jvm.MethodName)) ∈ ALL := inT_6 122 rfl rfl
theorem lk_X9_224 : LkV RX9 224 m_X9_readAll 0 := ⟨(List.forall_mem_cons.mpr ⟨w_1382, (List.forall_mem_cons.mpr ⟨w_1384, (List.forall_mem_cons.mpr ⟨w_37, (List.forall_mem_cons.mpr ⟨w_70, (List.forall_mem_nil _)⟩)⟩)⟩)⟩), gy_X9_readAll⟩
theorem lf_X9_163 : LkF RX9 163 9 26 := ⟨RX9, TX9, 29, rfl, wsin_X9, Nat.le_of_ble_eq_true rfl, w_1159⟩
theorem w_1373 : (Jvm.Cond.classLink "MoonOverTheHillModel" (8 : Nat) "MoonOverTheHillModel") ∈ ALL := inT_6 113 rfl rfl
theorem w_1124 : (Jvm.Cond.instantiable "MoonOverTheHillModel" (29 : Nat)) ∈ ALL := inT_5 104 rfl rfl
theorem ln_X9_8 : LkN RX9 8 9 29 [.null, .null, .null, .null, .null, .null, .null, .null, .int 0, .null, .null, .int 0, .null, .int 0, .null, .int 0, .null, .int 0, .int 0, .int 0, .null, .null, .int 0, .int 0, .int 0, .int 0, .int 0, .null, .int 0] := ⟨RX9, TX9, tyX9, rfl, wsin_X9, tyX9_ok, w_1373, w_1124, w_70, by decide +kernel⟩
theorem w_1126 : (Jvm.Cond.instanceMethod ({ cls := "MoonOverTheHillModel", name := "<init>", desc := "()V" } : Jvm.MethodName)) ∈ ALL := inT_5 106 rfl rfl
theorem w_1374 : (Jvm.Cond.methodLink "MoonOverTheHillModel" (219 : Nat) ({ cls := "MoonOverTheHillModel", name := "<init>", desc := "()V" } : Jvm.MethodName)) ∈ ALL := inT_6 114 rfl rfl
theorem lk_X9_219 : LkI RX9 219 m_X9_init 0 := ⟨(List.forall_mem_cons.mpr ⟨w_1374, (List.forall_mem_cons.mpr ⟨w_1126, (List.forall_mem_cons.mpr ⟨w_70, (List.forall_mem_nil _)⟩)⟩)⟩), gy_X9_init, rfl, rfl⟩
theorem lp_X9_215 : LkP RX9 215 9 21 false (.object "MoonOverTheHillModel") := ⟨RX9, TX9, 29, tyX9, rfl, wsin_X9, Nat.le_of_ble_eq_true rfl, w_1154, tyX9_ok, nmX9, rfl, by decide +kernel, fun h => Bool.noConfusion h⟩
theorem lp_X9_349 : LkP RX9 349 9 20 false (.object "MoonOverTheHillModel") := ⟨RX9, TX9, 29, tyX9, rfl, wsin_X9, Nat.le_of_ble_eq_true rfl, w_1153, tyX9_ok, nmX9, rfl, by decide +kernel, fun h => Bool.noConfusion h⟩
def F_X9_sky (n b : Nat) (s t : MS) : Option (Int32 × MS × MS) := ((F_X9_takeFrom n t (m_set_tried s (some b))).bind fun r1 => ((F_X9_readAll n (m_set_tried s (some b))).bind fun r3 => gd (decide (m_tried r3.2 = some b)) (bf r3.1 (some ((m_statements (m_set_tapeSize r3.2 (0 : Int32))), (m_set_tapeSize r3.2 (0 : Int32)), r1)) (((F_X9_takeFrom n (m_set_tapeSize r3.2 (0 : Int32)) r1).bind fun r7 => ((F_X9_refuse n r7 (-2 : Int32)).bind fun r9 => (some (((-20 : Int32) - (m_fault r9.2)), r9.2, r1))))))))
set_option maxHeartbeats 4000000 in
set_option maxRecDepth 100000 in
theorem c_X9_sky_r (D : va_G) (cA : Nat → ClassId) (am bm : Nat → Nat) (s t : MS) (n : Nat) (r : Int32 × MS × MS) (h : F_X9_sky n (bm 0) s t = some r) : RW m_X9_sky 8 0 0 D cA [.ref (am 0)] (mW cA am (m_set_tried s (some (bm 0))) ++ mW cA bm t) (exq (some (.int r.1)) (mW cA am r.2.1 ++ mW cA bm r.2.2)) := by
  refine RW.ofW gy_X9_sky.2.2 (Nat.le_of_ble_eq_true rfl) ?_
  intro l p e sM m below meth c A H locs F hr_ hlk hnm hK hP hD hS hA hAb ls hl
  have hl : lv_has ls 2 [(0, .ref (am 0))] := hl
  unfold F_X9_sky at h
  refine lv_aload_n F.1 F.2.1 (dd D_X9_sky 0 rfl) rfl (lv_at hl 0 rfl) ?_
  refine getF F hK hP lf_X9_215 (0) (gL (mp_0 cA am (m_set_tried s (some (bm 0))))) rfl (dd D_X9_sky 1 rfl) ?_
  refine lv_ifnonnull (tgt := 18) F.1 F.2.1 (dd D_X9_sky 2 rfl) rfl ?_
  refine lv_aload_n F.1 F.2.1 (dd D_X9_sky 8 rfl) rfl (lv_at hl 0 rfl) ?_
  refine getF F hK hP lf_X9_215 (0) (gL (mp_0 cA am (m_set_tried s (some (bm 0))))) rfl (dd D_X9_sky 9 rfl) ?_
  refine lv_aload_n F.1 F.2.1 (dd D_X9_sky 10 rfl) rfl (lv_at hl 0 rfl) ?_
  obtain ⟨r1, e2, h⟩ := Option.bind_eq_some_iff.mp h
  refine rwe (V := none) (wc := (mW cA bm t) ++ (mW cA am (m_set_tried s (some (bm 0))))) (wc' := (mW cA bm r1) ++ (mW cA am (m_set_tried s (some (bm 0))))) (st' := []) (W' := ((mW cA am (m_set_tried s (some (bm 0)))) ++ (mW cA bm r1))) hP hD hS hA [31, 32, 33, 34, 35, 36, 37, 38, 39, 40, 41, 42, 43, 44, 45, 46, 47, 48, 49, 50, 51, 52, 53, 54, 55, 56, 57, 58, 59, 60, 61, 0, 1, 2, 3, 4, 5, 6, 7, 8, 9, 10, 11, 12, 13, 14, 15, 16, 17, 18, 19, 20, 21, 22, 23, 24, 25, 26, 27, 28, 29, 30] (jc_mm cA am bm (m_set_tried s (some (bm 0))) t) (Nat_nd rfl) rfl (rV (rest := []) F (c_X9_takeFrom D cA bm t am (m_set_tried s (some (bm 0))) n r1 e2 l H.size) lk_X9_220 (Nat.le_of_ble_eq_true rfl) (preRW hK hS hAb (selP hP (jc_mm cA am bm (m_set_tried s (some (bm 0))) t)) (selD hD (Nat_nd rfl) (jc_mm cA am bm (m_set_tried s (some (bm 0))) t))) (rcv_9 hK hP (q0 := (31+(0))) (gR (mp_len cA am (m_set_tried s (some (bm 0)))) (mp_0 cA bm t))) rfl hl rfl (Nat.le_of_ble_eq_true rfl) (dd D_X9_sky 11 rfl) ⟨(Nat.le_of_ble_eq_true rfl), (Nat.le_of_ble_eq_true rfl)⟩) (js_mm cA am bm (m_set_tried s (some (bm 0))) t r1) rfl (fun H locs hP hD hS => ?_)
  refine lv_aload_n F.1 F.2.1 (dd D_X9_sky 12 rfl) rfl (lv_at hl 0 rfl) ?_
  obtain ⟨r3, e4, h⟩ := Option.bind_eq_some_iff.mp h
  refine rwe (V := some (.int (bI r3.1))) (wc := (mW cA am (m_set_tried s (some (bm 0))))) (wc' := (mW cA am r3.2)) (st' := [.int (bI r3.1)]) (W' := ((mW cA am r3.2) ++ (mW cA bm r1))) hP hD hS hA [0, 1, 2, 3, 4, 5, 6, 7, 8, 9, 10, 11, 12, 13, 14, 15, 16, 17, 18, 19, 20, 21, 22, 23, 24, 25, 26, 27, 28, 29, 30] (jc_m1 cA am (m_set_tried s (some (bm 0))) (mW cA bm r1)) (Nat_nd rfl) rfl (rV (rest := []) F (c_X9_readAll D cA am (m_set_tried s (some (bm 0))) n r3 e4 l H.size) lk_X9_224 (Nat.le_of_ble_eq_true rfl) (preRW hK hS hAb (selP hP (jc_m1 cA am (m_set_tried s (some (bm 0))) (mW cA bm r1))) (selD hD (Nat_nd rfl) (jc_m1 cA am (m_set_tried s (some (bm 0))) (mW cA bm r1)))) (rcv_9 hK hP (q0 := (0)) (gL (mp_0 cA am (m_set_tried s (some (bm 0)))))) rfl hl rfl (Nat.le_of_ble_eq_true rfl) (dd D_X9_sky 13 rfl) ⟨(Nat.le_of_ble_eq_true rfl), (Nat.le_of_ble_eq_true rfl)⟩) (js_m1 cA am (m_set_tried s (some (bm 0))) r3.2 (mW cA bm r1)) rfl (fun H locs hP hD hS => ?_)
  obtain ⟨z5, h⟩ := gd_some h
  obtain ⟨s6, z5⟩ : ∃ s6, r3.2 = m_set_tried s6 (some (bm 0)) := ⟨_, set_tried_eta (of_decide_eq_true z5)⟩
  rw [z5] at hP hD h
  refine lv_istore_n (lv' := [(1, .int (bI r3.1)), (0, .ref (am 0))]) F.1 F.2.1 (dd D_X9_sky 14 rfl) rfl hl (Nat.le_of_ble_eq_true rfl) rfl (fun ls hl => ?_)
  refine lv_aload_n F.1 F.2.1 (dd D_X9_sky 15 rfl) rfl (lv_at hl 1 rfl) ?_
  refine lv_iconst (v := (0 : Int32)) F.1 F.2.1 (dd D_X9_sky 16 rfl) ki_0 ?_
  refine putF F hK hP hD hS lp_X9_141 (0) (gL (mp_0 cA am (m_set_tried s6 (some (bm 0))))) (Nat.le_of_ble_eq_true rfl) (nar_int _) (fit_int _) (ws' := ((mW cA am (m_set_tapeSize (m_set_tried s6 (some (bm 0))) (0 : Int32))) ++ (mW cA bm r1))) (sL (Nat.le_of_ble_eq_true rfl) (ms_0_8 cA am (m_set_tried s6 (some (bm 0))) (0 : Int32))) (dd D_X9_sky 17 rfl) (fun H locs hP hD hS => ?_)
  refine lv_iload_n F.1 F.2.1 (dd D_X9_sky 18 rfl) rfl (lv_at hl 0 rfl) ?_
  refine x_bif_ne (tgt := 63) F.1 F.2.1 (dd D_X9_sky 19 rfl) rfl h (fun c11 h => ?_) (fun c11 h => ?_)
  · refine lv_aload_n F.1 F.2.1 (dd D_X9_sky 33 rfl) rfl (lv_at hl 1 rfl) ?_
    refine getF F hK hP lf_X9_209 (0) (gL (mp_0 cA am (m_set_tapeSize (m_set_tried s6 (some (bm 0))) (0 : Int32)))) rfl (dd D_X9_sky 34 rfl) ?_
    obtain rfl := Option.some.inj h
    exact rw_i (R := rmOf 8 0 0) F hP hD hS hr_ hlk ⟨(Nat.le_of_ble_eq_true rfl), (Nat.le_of_ble_eq_true rfl)⟩ ⟨rfl, rfl⟩ (dd D_X9_sky 35 rfl)
  · refine lv_aload_n F.1 F.2.1 (dd D_X9_sky 20 rfl) rfl (lv_at hl 1 rfl) ?_
    refine lv_aload_n F.1 F.2.1 (dd D_X9_sky 21 rfl) rfl (lv_at hl 1 rfl) ?_
    refine getF F hK hP lf_X9_215 (0) (gL (mp_0 cA am (m_set_tapeSize (m_set_tried s6 (some (bm 0))) (0 : Int32)))) rfl (dd D_X9_sky 22 rfl) ?_
    obtain ⟨r7, e8, h⟩ := Option.bind_eq_some_iff.mp h
    refine rwe_all (st' := []) hD hS hA (rV (rest := []) F (c_X9_takeFrom D cA am (m_set_tapeSize (m_set_tried s6 (some (bm 0))) (0 : Int32)) bm r1 n r7 e8 l H.size) lk_X9_220 (Nat.le_of_ble_eq_true rfl) (preRW hK hS hAb hP hD) (rcv_9 hK hP (q0 := (0)) (gL (mp_0 cA am (m_set_tapeSize (m_set_tried s6 (some (bm 0))) (0 : Int32))))) rfl hl rfl (Nat.le_of_ble_eq_true rfl) (dd D_X9_sky 23 rfl) ⟨(Nat.le_of_ble_eq_true rfl), (Nat.le_of_ble_eq_true rfl)⟩) rfl (fun H locs hP hD hS => ?_)
    refine lv_aload_n F.1 F.2.1 (dd D_X9_sky 24 rfl) rfl (lv_at hl 1 rfl) ?_
    refine lv_bipush (v := (-2 : Int32)) F.1 F.2.1 (dd D_X9_sky 25 rfl) kb_m2 ?_
    obtain ⟨r9, e10, h⟩ := Option.bind_eq_some_iff.mp h
    refine rwe (V := some (.int r9.1)) (wc := (mW cA am r7)) (wc' := (mW cA am r9.2)) (st' := [.int r9.1]) (W' := ((mW cA am r9.2) ++ (mW cA bm r1))) hP hD hS hA [0, 1, 2, 3, 4, 5, 6, 7, 8, 9, 10, 11, 12, 13, 14, 15, 16, 17, 18, 19, 20, 21, 22, 23, 24, 25, 26, 27, 28, 29, 30] (jc_m1 cA am r7 (mW cA bm r1)) (Nat_nd rfl) rfl (rV (rest := []) F (c_X9_refuse D cA am r7 n (-2 : Int32) r9 e10 l H.size) lk_X9_79 (Nat.le_of_ble_eq_true rfl) (preRW hK hS hAb (selP hP (jc_m1 cA am r7 (mW cA bm r1))) (selD hD (Nat_nd rfl) (jc_m1 cA am r7 (mW cA bm r1)))) (rcv_9 hK hP (q0 := (0)) (gL (mp_0 cA am r7))) rfl hl rfl (Nat.le_of_ble_eq_true rfl) (dd D_X9_sky 26 rfl) ⟨(Nat.le_of_ble_eq_true rfl), (Nat.le_of_ble_eq_true rfl)⟩) (js_m1 cA am r7 r9.2 (mW cA bm r1)) rfl (fun H locs hP hD hS => ?_)
    refine lv_pop F.1 F.2.1 (dd D_X9_sky 27 rfl) rfl ?_
    refine lv_bipush (v := (-20 : Int32)) F.1 F.2.1 (dd D_X9_sky 28 rfl) kb_m20 ?_
    refine lv_aload_n F.1 F.2.1 (dd D_X9_sky 29 rfl) rfl (lv_at hl 1 rfl) ?_
    refine getF F hK hP lf_X9_163 (0) (gL (mp_0 cA am r9.2)) rfl (dd D_X9_sky 30 rfl) ?_
    refine lv_isub F.1 F.2.1 (dd D_X9_sky 31 rfl) ?_
    obtain rfl := Option.some.inj h
    exact rw_i (R := rmOf 8 0 0) F hP hD hS hr_ hlk ⟨(Nat.le_of_ble_eq_true rfl), (Nat.le_of_ble_eq_true rfl)⟩ ⟨rfl, rfl⟩ (dd D_X9_sky 32 rfl)
set_option maxHeartbeats 4000000 in
set_option maxRecDepth 100000 in
theorem c_X9_sky_n (D : va_G) (cA : Nat → ClassId) (am : Nat → Nat) (s : MS) (n : Nat) (h0 : ∀ b : Nat, ∃ r, F_X9_sky n b s MSZ = some r) : RWE m_X9_sky 8 31 748 D cA [.ref (am 0)] (mW cA am (m_set_tried s none)) (fun v w => ∃ (bm : Nat → Nat) (r : Int32 × MS × MS), F_X9_sky n (bm 0) s MSZ = some r ∧ v = some (.int r.1) ∧ w = mW cA am r.2.1 ++ mW cA bm r.2.2) := by
  refine RWE.ofW gy_X9_sky.2.2 (Nat.le_of_ble_eq_true rfl) ?_
  intro l p e sM m below meth c A H locs F hr_ hlk hnm hK hE hP hD hS hA hAb ls hl
  have hl : lv_has ls 2 [(0, .ref (am 0))] := hl
  refine lv_aload_n F.1 F.2.1 (dd D_X9_sky 0 rfl) rfl (lv_at hl 0 rfl) ?_
  refine getF F hK hP lf_X9_215 (0) (mp_0 cA am (m_set_tried s none)) rfl (dd D_X9_sky 1 rfl) ?_
  refine lv_ifnonnullN F.1 F.2.1 (dd D_X9_sky 2 rfl) ?_
  refine lv_aload_n F.1 F.2.1 (dd D_X9_sky 3 rfl) rfl (lv_at hl 0 rfl) ?_
  refine newO F hK hP hD hS hA ln_X9_8 (Nat.le_of_ble_eq_true rfl) (Nat.le_of_ble_eq_true rfl) (dd D_X9_sky 4 rfl) (fun q1 H hP hD hS => ?_)
  refine lv_dup F.1 F.2.1 (dd D_X9_sky 5 rfl) rfl ?_
  refine rw_last hP hD hA hS (rI (rest := [.ref (q1), .ref (am 0)]) F (c_X9_init D cA q1 l H.size) lk_X9_219 (Nat.le_of_ble_eq_true rfl) (preRWE hK hE hS hAb (sufP hP) (sufD hD)) rfl hl rfl (Nat.le_of_ble_eq_true rfl) (dd D_X9_sky 6 rfl) ⟨(Nat.le_of_ble_eq_true rfl), (Nat.le_of_ble_eq_true rfl)⟩) ?_
  rintro S2 H locs ⟨bm, rfl, rfl⟩ hP hD hS
  refine putF F hK hP hD hS lp_X9_215 (0) (gL (mp_0 cA am (m_set_tried s none))) (Nat.le_of_ble_eq_true rfl) rfl rfl (ws' := ((mW cA am (m_set_tried s (some (bm 0)))) ++ (mW cA bm MSZ))) (mtried_put cA am bm s MSZ) (dd D_X9_sky 7 rfl) (fun H locs hP hD hS => ?_)
  obtain ⟨r, hr⟩ := h0 (bm 0)
  have h := hr
  unfold F_X9_sky at h
  refine lv_aload_n F.1 F.2.1 (dd D_X9_sky 8 rfl) rfl (lv_at hl 0 rfl) ?_
  refine getF F hK hP lf_X9_215 (0) (gL (mp_0 cA am (m_set_tried s (some (bm 0))))) rfl (dd D_X9_sky 9 rfl) ?_
  refine lv_aload_n F.1 F.2.1 (dd D_X9_sky 10 rfl) rfl (lv_at hl 0 rfl) ?_
  obtain ⟨r3, e4, h⟩ := Option.bind_eq_some_iff.mp h
  refine rwe (V := none) (wc := (mW cA bm MSZ) ++ (mW cA am (m_set_tried s (some (bm 0))))) (wc' := (mW cA bm r3) ++ (mW cA am (m_set_tried s (some (bm 0))))) (st' := []) (W' := ((mW cA am (m_set_tried s (some (bm 0)))) ++ (mW cA bm r3))) hP hD hS hA [31, 32, 33, 34, 35, 36, 37, 38, 39, 40, 41, 42, 43, 44, 45, 46, 47, 48, 49, 50, 51, 52, 53, 54, 55, 56, 57, 58, 59, 60, 61, 0, 1, 2, 3, 4, 5, 6, 7, 8, 9, 10, 11, 12, 13, 14, 15, 16, 17, 18, 19, 20, 21, 22, 23, 24, 25, 26, 27, 28, 29, 30] (jc_mm cA am bm (m_set_tried s (some (bm 0))) MSZ) (Nat_nd rfl) rfl (rV (rest := []) F (c_X9_takeFrom D cA bm MSZ am (m_set_tried s (some (bm 0))) n r3 e4 l H.size) lk_X9_220 (Nat.le_of_ble_eq_true rfl) (preRW hK hS hAb (selP hP (jc_mm cA am bm (m_set_tried s (some (bm 0))) MSZ)) (selD hD (Nat_nd rfl) (jc_mm cA am bm (m_set_tried s (some (bm 0))) MSZ))) (rcv_9 hK hP (q0 := (31+(0))) (gR (mp_len cA am (m_set_tried s (some (bm 0)))) (mp_0 cA bm MSZ))) rfl hl rfl (Nat.le_of_ble_eq_true rfl) (dd D_X9_sky 11 rfl) ⟨(Nat.le_of_ble_eq_true rfl), (Nat.le_of_ble_eq_true rfl)⟩) (js_mm cA am bm (m_set_tried s (some (bm 0))) MSZ r3) rfl (fun H locs hP hD hS => ?_)
  refine lv_aload_n F.1 F.2.1 (dd D_X9_sky 12 rfl) rfl (lv_at hl 0 rfl) ?_
  obtain ⟨r5, e6, h⟩ := Option.bind_eq_some_iff.mp h
  refine rwe (V := some (.int (bI r5.1))) (wc := (mW cA am (m_set_tried s (some (bm 0))))) (wc' := (mW cA am r5.2)) (st' := [.int (bI r5.1)]) (W' := ((mW cA am r5.2) ++ (mW cA bm r3))) hP hD hS hA [0, 1, 2, 3, 4, 5, 6, 7, 8, 9, 10, 11, 12, 13, 14, 15, 16, 17, 18, 19, 20, 21, 22, 23, 24, 25, 26, 27, 28, 29, 30] (jc_m1 cA am (m_set_tried s (some (bm 0))) (mW cA bm r3)) (Nat_nd rfl) rfl (rV (rest := []) F (c_X9_readAll D cA am (m_set_tried s (some (bm 0))) n r5 e6 l H.size) lk_X9_224 (Nat.le_of_ble_eq_true rfl) (preRW hK hS hAb (selP hP (jc_m1 cA am (m_set_tried s (some (bm 0))) (mW cA bm r3))) (selD hD (Nat_nd rfl) (jc_m1 cA am (m_set_tried s (some (bm 0))) (mW cA bm r3)))) (rcv_9 hK hP (q0 := (0)) (gL (mp_0 cA am (m_set_tried s (some (bm 0)))))) rfl hl rfl (Nat.le_of_ble_eq_true rfl) (dd D_X9_sky 13 rfl) ⟨(Nat.le_of_ble_eq_true rfl), (Nat.le_of_ble_eq_true rfl)⟩) (js_m1 cA am (m_set_tried s (some (bm 0))) r5.2 (mW cA bm r3)) rfl (fun H locs hP hD hS => ?_)
  obtain ⟨z7, h⟩ := gd_some h
  obtain ⟨s8, z7⟩ : ∃ s8, r5.2 = m_set_tried s8 (some (bm 0)) := ⟨_, set_tried_eta (of_decide_eq_true z7)⟩
  rw [z7] at hP hD h
  refine lv_istore_n (lv' := [(1, .int (bI r5.1)), (0, .ref (am 0))]) F.1 F.2.1 (dd D_X9_sky 14 rfl) rfl hl (Nat.le_of_ble_eq_true rfl) rfl (fun ls hl => ?_)
  refine lv_aload_n F.1 F.2.1 (dd D_X9_sky 15 rfl) rfl (lv_at hl 1 rfl) ?_
  refine lv_iconst (v := (0 : Int32)) F.1 F.2.1 (dd D_X9_sky 16 rfl) ki_0 ?_
  refine putF F hK hP hD hS lp_X9_141 (0) (gL (mp_0 cA am (m_set_tried s8 (some (bm 0))))) (Nat.le_of_ble_eq_true rfl) (nar_int _) (fit_int _) (ws' := ((mW cA am (m_set_tapeSize (m_set_tried s8 (some (bm 0))) (0 : Int32))) ++ (mW cA bm r3))) (sL (Nat.le_of_ble_eq_true rfl) (ms_0_8 cA am (m_set_tried s8 (some (bm 0))) (0 : Int32))) (dd D_X9_sky 17 rfl) (fun H locs hP hD hS => ?_)
  refine lv_iload_n F.1 F.2.1 (dd D_X9_sky 18 rfl) rfl (lv_at hl 0 rfl) ?_
  refine x_bif_ne (tgt := 63) F.1 F.2.1 (dd D_X9_sky 19 rfl) rfl h (fun c13 h => ?_) (fun c13 h => ?_)
  · refine lv_aload_n F.1 F.2.1 (dd D_X9_sky 33 rfl) rfl (lv_at hl 1 rfl) ?_
    refine getF F hK hP lf_X9_209 (0) (gL (mp_0 cA am (m_set_tapeSize (m_set_tried s8 (some (bm 0))) (0 : Int32)))) rfl (dd D_X9_sky 34 rfl) ?_
    obtain rfl := Option.some.inj h
    exact rw_i (R := rmOf 8 31 748) F hP hD hS hr_ hlk ⟨(Nat.le_of_ble_eq_true rfl), (Nat.le_of_ble_eq_true rfl)⟩ ⟨_, _, hr, rfl, rfl⟩ (dd D_X9_sky 35 rfl)
  · refine lv_aload_n F.1 F.2.1 (dd D_X9_sky 20 rfl) rfl (lv_at hl 1 rfl) ?_
    refine lv_aload_n F.1 F.2.1 (dd D_X9_sky 21 rfl) rfl (lv_at hl 1 rfl) ?_
    refine getF F hK hP lf_X9_215 (0) (gL (mp_0 cA am (m_set_tapeSize (m_set_tried s8 (some (bm 0))) (0 : Int32)))) rfl (dd D_X9_sky 22 rfl) ?_
    obtain ⟨r9, e10, h⟩ := Option.bind_eq_some_iff.mp h
    refine rwe_all (st' := []) hD hS hA (rV (rest := []) F (c_X9_takeFrom D cA am (m_set_tapeSize (m_set_tried s8 (some (bm 0))) (0 : Int32)) bm r3 n r9 e10 l H.size) lk_X9_220 (Nat.le_of_ble_eq_true rfl) (preRW hK hS hAb hP hD) (rcv_9 hK hP (q0 := (0)) (gL (mp_0 cA am (m_set_tapeSize (m_set_tried s8 (some (bm 0))) (0 : Int32))))) rfl hl rfl (Nat.le_of_ble_eq_true rfl) (dd D_X9_sky 23 rfl) ⟨(Nat.le_of_ble_eq_true rfl), (Nat.le_of_ble_eq_true rfl)⟩) rfl (fun H locs hP hD hS => ?_)
    refine lv_aload_n F.1 F.2.1 (dd D_X9_sky 24 rfl) rfl (lv_at hl 1 rfl) ?_
    refine lv_bipush (v := (-2 : Int32)) F.1 F.2.1 (dd D_X9_sky 25 rfl) kb_m2 ?_
    obtain ⟨r11, e12, h⟩ := Option.bind_eq_some_iff.mp h
    refine rwe (V := some (.int r11.1)) (wc := (mW cA am r9)) (wc' := (mW cA am r11.2)) (st' := [.int r11.1]) (W' := ((mW cA am r11.2) ++ (mW cA bm r3))) hP hD hS hA [0, 1, 2, 3, 4, 5, 6, 7, 8, 9, 10, 11, 12, 13, 14, 15, 16, 17, 18, 19, 20, 21, 22, 23, 24, 25, 26, 27, 28, 29, 30] (jc_m1 cA am r9 (mW cA bm r3)) (Nat_nd rfl) rfl (rV (rest := []) F (c_X9_refuse D cA am r9 n (-2 : Int32) r11 e12 l H.size) lk_X9_79 (Nat.le_of_ble_eq_true rfl) (preRW hK hS hAb (selP hP (jc_m1 cA am r9 (mW cA bm r3))) (selD hD (Nat_nd rfl) (jc_m1 cA am r9 (mW cA bm r3)))) (rcv_9 hK hP (q0 := (0)) (gL (mp_0 cA am r9))) rfl hl rfl (Nat.le_of_ble_eq_true rfl) (dd D_X9_sky 26 rfl) ⟨(Nat.le_of_ble_eq_true rfl), (Nat.le_of_ble_eq_true rfl)⟩) (js_m1 cA am r9 r11.2 (mW cA bm r3)) rfl (fun H locs hP hD hS => ?_)
    refine lv_pop F.1 F.2.1 (dd D_X9_sky 27 rfl) rfl ?_
    refine lv_bipush (v := (-20 : Int32)) F.1 F.2.1 (dd D_X9_sky 28 rfl) kb_m20 ?_
    refine lv_aload_n F.1 F.2.1 (dd D_X9_sky 29 rfl) rfl (lv_at hl 1 rfl) ?_
    refine getF F hK hP lf_X9_163 (0) (gL (mp_0 cA am r11.2)) rfl (dd D_X9_sky 30 rfl) ?_
    refine lv_isub F.1 F.2.1 (dd D_X9_sky 31 rfl) ?_
    obtain rfl := Option.some.inj h
    exact rw_i (R := rmOf 8 31 748) F hP hD hS hr_ hlk ⟨(Nat.le_of_ble_eq_true rfl), (Nat.le_of_ble_eq_true rfl)⟩ ⟨_, _, hr, rfl, rfl⟩ (dd D_X9_sky 32 rfl)
def F_X9_image (n b : Nat) (s t : MS) : Option (Int32 × MS × MS) := ((F_X9_takeFrom n t (m_set_kept s (some b))).bind fun r1 => some ((1 : Int32), (m_set_kept s (some b)), r1))
set_option maxHeartbeats 4000000 in
set_option maxRecDepth 100000 in
theorem c_X9_image_r (D : va_G) (cA : Nat → ClassId) (am bm : Nat → Nat) (s t : MS) (n : Nat) (r : Int32 × MS × MS) (h : F_X9_image n (bm 0) s t = some r) : RW m_X9_image 2 0 0 D cA [.ref (am 0)] (mW cA am (m_set_kept s (some (bm 0))) ++ mW cA bm t) (exq (some (.int r.1)) (mW cA am r.2.1 ++ mW cA bm r.2.2)) := by
  refine RW.ofW gy_X9_image.2.2 (Nat.le_of_ble_eq_true rfl) ?_
  intro l p e sM m below meth c A H locs F hr_ hlk hnm hK hP hD hS hA hAb ls hl
  have hl : lv_has ls 1 [(0, .ref (am 0))] := hl
  unfold F_X9_image at h
  refine lv_aload_n F.1 F.2.1 (dd D_X9_image 0 rfl) rfl (lv_at hl 0 rfl) ?_
  refine getF F hK hP lf_X9_349 (0) (gL (mp_0 cA am (m_set_kept s (some (bm 0))))) rfl (dd D_X9_image 1 rfl) ?_
  refine lv_ifnonnull (tgt := 18) F.1 F.2.1 (dd D_X9_image 2 rfl) rfl ?_
  refine lv_aload_n F.1 F.2.1 (dd D_X9_image 8 rfl) rfl (lv_at hl 0 rfl) ?_
  refine getF F hK hP lf_X9_349 (0) (gL (mp_0 cA am (m_set_kept s (some (bm 0))))) rfl (dd D_X9_image 9 rfl) ?_
  refine lv_aload_n F.1 F.2.1 (dd D_X9_image 10 rfl) rfl (lv_at hl 0 rfl) ?_
  obtain ⟨r1, e2, h⟩ := Option.bind_eq_some_iff.mp h
  refine rwe (V := none) (wc := (mW cA bm t) ++ (mW cA am (m_set_kept s (some (bm 0))))) (wc' := (mW cA bm r1) ++ (mW cA am (m_set_kept s (some (bm 0))))) (st' := []) (W' := ((mW cA am (m_set_kept s (some (bm 0)))) ++ (mW cA bm r1))) hP hD hS hA [31, 32, 33, 34, 35, 36, 37, 38, 39, 40, 41, 42, 43, 44, 45, 46, 47, 48, 49, 50, 51, 52, 53, 54, 55, 56, 57, 58, 59, 60, 61, 0, 1, 2, 3, 4, 5, 6, 7, 8, 9, 10, 11, 12, 13, 14, 15, 16, 17, 18, 19, 20, 21, 22, 23, 24, 25, 26, 27, 28, 29, 30] (jc_mm cA am bm (m_set_kept s (some (bm 0))) t) (Nat_nd rfl) rfl (rV (rest := []) F (c_X9_takeFrom D cA bm t am (m_set_kept s (some (bm 0))) n r1 e2 l H.size) lk_X9_220 (Nat.le_of_ble_eq_true rfl) (preRW hK hS hAb (selP hP (jc_mm cA am bm (m_set_kept s (some (bm 0))) t)) (selD hD (Nat_nd rfl) (jc_mm cA am bm (m_set_kept s (some (bm 0))) t))) (rcv_9 hK hP (q0 := (31+(0))) (gR (mp_len cA am (m_set_kept s (some (bm 0)))) (mp_0 cA bm t))) rfl hl rfl (Nat.le_of_ble_eq_true rfl) (dd D_X9_image 11 rfl) ⟨(Nat.le_of_ble_eq_true rfl), (Nat.le_of_ble_eq_true rfl)⟩) (js_mm cA am bm (m_set_kept s (some (bm 0))) t r1) rfl (fun H locs hP hD hS => ?_)
  refine lv_iconst (v := (1 : Int32)) F.1 F.2.1 (dd D_X9_image 12 rfl) ki_1 ?_
  obtain rfl := Option.some.inj h
  exact rw_i (R := rmOf 2 0 0) F hP hD hS hr_ hlk ⟨(Nat.le_of_ble_eq_true rfl), (Nat.le_of_ble_eq_true rfl)⟩ ⟨rfl, rfl⟩ (dd D_X9_image 13 rfl)
set_option maxHeartbeats 4000000 in
set_option maxRecDepth 100000 in
theorem c_X9_image_n (D : va_G) (cA : Nat → ClassId) (am : Nat → Nat) (s : MS) (n : Nat) (h0 : ∀ b : Nat, ∃ r, F_X9_image n b s MSZ = some r) : RWE m_X9_image 2 31 748 D cA [.ref (am 0)] (mW cA am (m_set_kept s none)) (fun v w => ∃ (bm : Nat → Nat) (r : Int32 × MS × MS), F_X9_image n (bm 0) s MSZ = some r ∧ v = some (.int r.1) ∧ w = mW cA am r.2.1 ++ mW cA bm r.2.2) := by
  refine RWE.ofW gy_X9_image.2.2 (Nat.le_of_ble_eq_true rfl) ?_
  intro l p e sM m below meth c A H locs F hr_ hlk hnm hK hE hP hD hS hA hAb ls hl
  have hl : lv_has ls 1 [(0, .ref (am 0))] := hl
  refine lv_aload_n F.1 F.2.1 (dd D_X9_image 0 rfl) rfl (lv_at hl 0 rfl) ?_
  refine getF F hK hP lf_X9_349 (0) (mp_0 cA am (m_set_kept s none)) rfl (dd D_X9_image 1 rfl) ?_
  refine lv_ifnonnullN F.1 F.2.1 (dd D_X9_image 2 rfl) ?_
  refine lv_aload_n F.1 F.2.1 (dd D_X9_image 3 rfl) rfl (lv_at hl 0 rfl) ?_
  refine newO F hK hP hD hS hA ln_X9_8 (Nat.le_of_ble_eq_true rfl) (Nat.le_of_ble_eq_true rfl) (dd D_X9_image 4 rfl) (fun q1 H hP hD hS => ?_)
  refine lv_dup F.1 F.2.1 (dd D_X9_image 5 rfl) rfl ?_
  refine rw_last hP hD hA hS (rI (rest := [.ref (q1), .ref (am 0)]) F (c_X9_init D cA q1 l H.size) lk_X9_219 (Nat.le_of_ble_eq_true rfl) (preRWE hK hE hS hAb (sufP hP) (sufD hD)) rfl hl rfl (Nat.le_of_ble_eq_true rfl) (dd D_X9_image 6 rfl) ⟨(Nat.le_of_ble_eq_true rfl), (Nat.le_of_ble_eq_true rfl)⟩) ?_
  rintro S2 H locs ⟨bm, rfl, rfl⟩ hP hD hS
  refine putF F hK hP hD hS lp_X9_349 (0) (gL (mp_0 cA am (m_set_kept s none))) (Nat.le_of_ble_eq_true rfl) rfl rfl (ws' := ((mW cA am (m_set_kept s (some (bm 0)))) ++ (mW cA bm MSZ))) (mkept_put cA am bm s MSZ) (dd D_X9_image 7 rfl) (fun H locs hP hD hS => ?_)
  obtain ⟨r, hr⟩ := h0 (bm 0)
  have h := hr
  unfold F_X9_image at h
  refine lv_aload_n F.1 F.2.1 (dd D_X9_image 8 rfl) rfl (lv_at hl 0 rfl) ?_
  refine getF F hK hP lf_X9_349 (0) (gL (mp_0 cA am (m_set_kept s (some (bm 0))))) rfl (dd D_X9_image 9 rfl) ?_
  refine lv_aload_n F.1 F.2.1 (dd D_X9_image 10 rfl) rfl (lv_at hl 0 rfl) ?_
  obtain ⟨r3, e4, h⟩ := Option.bind_eq_some_iff.mp h
  refine rwe (V := none) (wc := (mW cA bm MSZ) ++ (mW cA am (m_set_kept s (some (bm 0))))) (wc' := (mW cA bm r3) ++ (mW cA am (m_set_kept s (some (bm 0))))) (st' := []) (W' := ((mW cA am (m_set_kept s (some (bm 0)))) ++ (mW cA bm r3))) hP hD hS hA [31, 32, 33, 34, 35, 36, 37, 38, 39, 40, 41, 42, 43, 44, 45, 46, 47, 48, 49, 50, 51, 52, 53, 54, 55, 56, 57, 58, 59, 60, 61, 0, 1, 2, 3, 4, 5, 6, 7, 8, 9, 10, 11, 12, 13, 14, 15, 16, 17, 18, 19, 20, 21, 22, 23, 24, 25, 26, 27, 28, 29, 30] (jc_mm cA am bm (m_set_kept s (some (bm 0))) MSZ) (Nat_nd rfl) rfl (rV (rest := []) F (c_X9_takeFrom D cA bm MSZ am (m_set_kept s (some (bm 0))) n r3 e4 l H.size) lk_X9_220 (Nat.le_of_ble_eq_true rfl) (preRW hK hS hAb (selP hP (jc_mm cA am bm (m_set_kept s (some (bm 0))) MSZ)) (selD hD (Nat_nd rfl) (jc_mm cA am bm (m_set_kept s (some (bm 0))) MSZ))) (rcv_9 hK hP (q0 := (31+(0))) (gR (mp_len cA am (m_set_kept s (some (bm 0)))) (mp_0 cA bm MSZ))) rfl hl rfl (Nat.le_of_ble_eq_true rfl) (dd D_X9_image 11 rfl) ⟨(Nat.le_of_ble_eq_true rfl), (Nat.le_of_ble_eq_true rfl)⟩) (js_mm cA am bm (m_set_kept s (some (bm 0))) MSZ r3) rfl (fun H locs hP hD hS => ?_)
  refine lv_iconst (v := (1 : Int32)) F.1 F.2.1 (dd D_X9_image 12 rfl) ki_1 ?_
  obtain rfl := Option.some.inj h
  exact rw_i (R := rmOf 2 31 748) F hP hD hS hr_ hlk ⟨(Nat.le_of_ble_eq_true rfl), (Nat.le_of_ble_eq_true rfl)⟩ ⟨_, _, hr, rfl, rfl⟩ (dd D_X9_image 13 rfl)
def F_X9_back (n b : Nat) (s t : MS) : Option (Int32 × MS × MS) := ((F_X9_takeFrom n (m_set_kept s (some b)) t).bind fun r1 => some ((1 : Int32), r1, t))
set_option maxHeartbeats 4000000 in
set_option maxRecDepth 100000 in
theorem c_X9_back_r (D : va_G) (cA : Nat → ClassId) (am bm : Nat → Nat) (s t : MS) (n : Nat) (r : Int32 × MS × MS) (h : F_X9_back n (bm 0) s t = some r) : RW m_X9_back 2 0 0 D cA [.ref (am 0)] (mW cA am (m_set_kept s (some (bm 0))) ++ mW cA bm t) (exq (some (.int r.1)) (mW cA am r.2.1 ++ mW cA bm r.2.2)) := by
  refine RW.ofW gy_X9_back.2.2 (Nat.le_of_ble_eq_true rfl) ?_
  intro l p e sM m below meth c A H locs F hr_ hlk hnm hK hP hD hS hA hAb ls hl
  have hl : lv_has ls 1 [(0, .ref (am 0))] := hl
  unfold F_X9_back at h
  refine lv_aload_n F.1 F.2.1 (dd D_X9_back 0 rfl) rfl (lv_at hl 0 rfl) ?_
  refine getF F hK hP lf_X9_349 (0) (gL (mp_0 cA am (m_set_kept s (some (bm 0))))) rfl (dd D_X9_back 1 rfl) ?_
  refine lv_ifnonnull (tgt := 14) F.1 F.2.1 (dd D_X9_back 2 rfl) rfl ?_
  refine lv_aload_n F.1 F.2.1 (dd D_X9_back 7 rfl) rfl (lv_at hl 0 rfl) ?_
  refine lv_aload_n F.1 F.2.1 (dd D_X9_back 8 rfl) rfl (lv_at hl 0 rfl) ?_
  refine getF F hK hP lf_X9_349 (0) (gL (mp_0 cA am (m_set_kept s (some (bm 0))))) rfl (dd D_X9_back 9 rfl) ?_
  obtain ⟨r1, e2, h⟩ := Option.bind_eq_some_iff.mp h
  refine rwe_all (st' := []) hD hS hA (rV (rest := []) F (c_X9_takeFrom D cA am (m_set_kept s (some (bm 0))) bm t n r1 e2 l H.size) lk_X9_220 (Nat.le_of_ble_eq_true rfl) (preRW hK hS hAb hP hD) (rcv_9 hK hP (q0 := (0)) (gL (mp_0 cA am (m_set_kept s (some (bm 0)))))) rfl hl rfl (Nat.le_of_ble_eq_true rfl) (dd D_X9_back 10 rfl) ⟨(Nat.le_of_ble_eq_true rfl), (Nat.le_of_ble_eq_true rfl)⟩) rfl (fun H locs hP hD hS => ?_)
  refine lv_iconst (v := (1 : Int32)) F.1 F.2.1 (dd D_X9_back 11 rfl) ki_1 ?_
  obtain rfl := Option.some.inj h
  exact rw_i (R := rmOf 2 0 0) F hP hD hS hr_ hlk ⟨(Nat.le_of_ble_eq_true rfl), (Nat.le_of_ble_eq_true rfl)⟩ ⟨rfl, rfl⟩ (dd D_X9_back 12 rfl)
set_option maxHeartbeats 4000000 in
set_option maxRecDepth 100000 in
theorem c_X9_back_n (D : va_G) (cA : Nat → ClassId) (am : Nat → Nat) (s : MS) (n : Nat) (r : Int32 × MS) (h : F_X9_refuse n (m_set_kept s none) (-5) = some r) : RW m_X9_back 2 0 0 D cA [.ref (am 0)] (mW cA am (m_set_kept s none)) (exq (some (.int r.1)) (mW cA am r.2)) := by
  refine RW.ofW gy_X9_back.2.2 (Nat.le_of_ble_eq_true rfl) ?_
  intro l p e sM m below meth c A H locs F hr_ hlk hnm hK hP hD hS hA hAb ls hl
  have hl : lv_has ls 1 [(0, .ref (am 0))] := hl
  replace h : ((((F_X9_refuse n (m_set_kept s none) (-5 : Int32))).bind fun r1 => some r1)) = some r := by rw [h]; rfl
  refine lv_aload_n F.1 F.2.1 (dd D_X9_back 0 rfl) rfl (lv_at hl 0 rfl) ?_
  refine getF F hK hP lf_X9_349 (0) (mp_0 cA am (m_set_kept s none)) rfl (dd D_X9_back 1 rfl) ?_
  refine lv_ifnonnullN F.1 F.2.1 (dd D_X9_back 2 rfl) ?_
  refine lv_aload_n F.1 F.2.1 (dd D_X9_back 3 rfl) rfl (lv_at hl 0 rfl) ?_
  refine lv_bipush (v := (-5 : Int32)) F.1 F.2.1 (dd D_X9_back 4 rfl) kb_m5 ?_
  obtain ⟨r1, e2, h⟩ := Option.bind_eq_some_iff.mp h
  refine rwe_all (st' := [.int r1.1]) hD hS hA (rV (rest := []) F (c_X9_refuse D cA am (m_set_kept s none) n (-5 : Int32) r1 e2 l H.size) lk_X9_79 (Nat.le_of_ble_eq_true rfl) (preRW hK hS hAb hP hD) (rcv_9 hK hP (q0 := (0)) (mp_0 cA am (m_set_kept s none))) rfl hl rfl (Nat.le_of_ble_eq_true rfl) (dd D_X9_back 5 rfl) ⟨Nat.le_of_ble_eq_true rfl, Nat.le_of_ble_eq_true rfl⟩) rfl (fun H locs hP hD hS => ?_)
  obtain rfl := Option.some.inj h
  exact rw_i (R := rmOf 2 0 0) F hP hD hS hr_ hlk ⟨(Nat.le_of_ble_eq_true rfl), (Nat.le_of_ble_eq_true rfl)⟩ ⟨rfl, rfl⟩ (dd D_X9_back 6 rfl)
