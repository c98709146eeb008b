set_option maxHeartbeats 4000000 in
set_option maxRecDepth 100000 in
theorem c_J0_coder_7d493 (D : va_G) (cA : Nat → ClassId) (a : Nat) (w : List Int32) : ROX m_J0_coder_7d493 0 D cA [.ref a] [] (isStr cA a w) (some (.int 0)) := by
  refine ROX.ofW gy_J0_coder_7d493.2.2 (Nat.le_of_ble_eq_true rfl) ?_
  intro l p e sM m below meth c F hr hlk hK hP hS hAb hE ls hl
  have hl : lv_has ls 1 [(0, .ref a)] := hl
  obtain ⟨hE1, hE2, v, hE3, hE4⟩ := id hE
  have hSb : va_S (fun z : Nat => cA 9 ≤ z) sM.heap sM.heap [] := va_S.rf
  refine va_gets F.1 F.2.1 hK.2.2.1.2.1 hSb F.2.2.2.1 (F.2.2.2.2 _ w_682) (fun _ h => h) (dd D_J0_coder_7d493 0 rfl) ?_
  refine lv_if_eq (tgt := 13) F.1 F.2.1 (dd D_J0_coder_7d493 1 rfl) rfl (fun c => absurd c (by decide)) (fun _ => ?_)
  refine lv_aload_n F.1 F.2.1 (dd D_J0_coder_7d493 2 rfl) rfl (lv_at hl 0 rfl) ?_
  refine vk_getf F.1 F.2.1 hE2 hSb F.2.2.2.1 (F.2.2.2.2 _ w_1699) (fun _ h => h) (dd D_J0_coder_7d493 3 rfl) ?_
  refine lv_goto (tgt := 14) F.1 F.2.1 (dd D_J0_coder_7d493 4 rfl) rfl ?_
  exact ro_gen (R := rmOf 0 0 0) F hr rfl hlk rfl (dd D_J0_coder_7d493 6 rfl)
set_option maxHeartbeats 4000000 in
set_option maxRecDepth 100000 in
theorem c_J0_isLatin1_aae02 (D : va_G) (cA : Nat → ClassId) (a : Nat) (w : List Int32) : ROX m_J0_isLatin1_aae02 0 D cA [.ref a] [] (isStr cA a w) (some (.int 1)) := by
  refine ROX.ofW gy_J0_isLatin1_aae02.2.2 (Nat.le_of_ble_eq_true rfl) ?_
  intro l p e sM m below meth c F hr hlk hK hP hS hAb hE ls hl
  have hl : lv_has ls 1 [(0, .ref a)] := hl
  obtain ⟨hE1, hE2, v, hE3, hE4⟩ := id hE
  have hSb : va_S (fun z : Nat => cA 9 ≤ z) sM.heap sM.heap [] := va_S.rf
  refine va_gets F.1 F.2.1 hK.2.2.1.2.1 hSb F.2.2.2.1 (F.2.2.2.2 _ w_682) (fun _ h => h) (dd D_J0_isLatin1_aae02 0 rfl) ?_
  refine lv_if_eq (tgt := 17) F.1 F.2.1 (dd D_J0_isLatin1_aae02 1 rfl) rfl (fun c => absurd c (by decide)) (fun _ => ?_)
  refine lv_aload_n F.1 F.2.1 (dd D_J0_isLatin1_aae02 2 rfl) rfl (lv_at hl 0 rfl) ?_
  refine vk_getf F.1 F.2.1 hE2 hSb F.2.2.2.1 (F.2.2.2.2 _ w_1699) (fun _ h => h) (dd D_J0_isLatin1_aae02 3 rfl) ?_
  refine lv_if_ne (tgt := 17) F.1 F.2.1 (dd D_J0_isLatin1_aae02 4 rfl) rfl (fun c => absurd rfl c) (fun _ => ?_)
  refine lv_iconst (v := 1) F.1 F.2.1 (dd D_J0_isLatin1_aae02 5 rfl) ki_1 ?_
  refine lv_goto (tgt := 18) F.1 F.2.1 (dd D_J0_isLatin1_aae02 6 rfl) rfl ?_
  exact ro_gen (R := rmOf 0 0 0) F hr rfl hlk rfl (dd D_J0_isLatin1_aae02 8 rfl)
set_option maxHeartbeats 4000000 in
set_option maxRecDepth 100000 in
theorem c_J0_length_8abf5 (D : va_G) (cA : Nat → ClassId) (a : Nat) (w : List Int32) : ROX m_J0_length_8abf5 1 D cA [.ref a] [] (isStr cA a w) (some (.int (nI w.length))) := by
  refine ROX.ofW gy_J0_length_8abf5.2.2 (Nat.le_of_ble_eq_true rfl) ?_
  intro l p e sM m below meth c F hr hlk hK hP hS hAb hE ls hl
  have hl : lv_has ls 1 [(0, .ref a)] := hl
  obtain ⟨hE1, hE2, v, hE3, hE4⟩ := id hE
  have hSb : va_S (fun z : Nat => cA 9 ≤ z) sM.heap sM.heap [] := va_S.rf
  refine lv_aload_n F.1 F.2.1 (dd D_J0_length_8abf5 0 rfl) rfl (lv_at hl 0 rfl) ?_
  refine vk_getf F.1 F.2.1 hE3 hSb F.2.2.2.1 (F.2.2.2.2 _ w_1698) (fun _ h => h) (dd D_J0_length_8abf5 1 rfl) ?_
  refine va_tlen F.1 F.2.1 hE4 hSb (v := nI w.length) rfl (dd D_J0_length_8abf5 2 rfl) ?_
  refine lv_aload_n F.1 F.2.1 (dd D_J0_length_8abf5 3 rfl) rfl (lv_at hl 0 rfl) ?_
  refine ro_go (st' := [.int 0, .int (nI w.length)]) (rV (rest := [.int (nI w.length)]) F (c_J0_coder_7d493 D cA a w l) lk_J0_335 (Nat.le_of_ble_eq_true rfl) (preStr hK hS hAb emP hE) (rcvStr hS hAb hE) rfl hl rfl (Nat.le_of_ble_eq_true rfl) (dd D_J0_length_8abf5 4 rfl) ⟨(Nat.le_of_ble_eq_true rfl), (Nat.le_of_ble_eq_true rfl)⟩) rfl ?_
  refine lv_ishr F.1 F.2.1 (dd D_J0_length_8abf5 5 rfl) ?_
  rw [sb_shr0]
  exact ro_gen (R := rmOf 1 0 0) F hr (nar_int _) hlk rfl (dd D_J0_length_8abf5 6 rfl)
set_option maxHeartbeats 4000000 in
set_option maxRecDepth 100000 in
theorem c_J3_checkIndex_8e157 (D : va_G) (cA : Nat → ClassId) (i n : Int32) (z : Value) (hz : z = .null ∨ ∃ a, z = .ref a) (h0 : ¬ i < 0) (h1 : i < n) : RO m_J3_checkIndex_8e157 0 D cA [.int i, .int n, z] [] (some (.int i)) := by
  refine RO.ofW gy_J3_checkIndex_8e157.2.2 (by rcases hz with rfl | ⟨a, rfl⟩ <;> exact Nat.le_of_ble_eq_true rfl) ?_
  intro l p e sM m below meth c F hr hlk hK hP hS hAb ls hl
  have hl : lv_has ls 3 [(0, .int i), (1, .int n), (2, z)] := by rcases hz with rfl | ⟨a, rfl⟩ <;> exact hl
  refine lv_iload_n F.1 F.2.1 (dd D_J3_checkIndex_8e157 0 rfl) rfl (lv_at hl 0 rfl) ?_
  refine lv_if_lt (tgt := 9) F.1 F.2.1 (dd D_J3_checkIndex_8e157 1 rfl) rfl (fun c => absurd c h0) (fun _ => ?_)
  refine lv_iload_n F.1 F.2.1 (dd D_J3_checkIndex_8e157 2 rfl) rfl (lv_at hl 0 rfl) ?_
  refine lv_iload_n F.1 F.2.1 (dd D_J3_checkIndex_8e157 3 rfl) rfl (lv_at hl 1 rfl) ?_
  refine lv_icmp_lt (tgt := 16) F.1 F.2.1 (dd D_J3_checkIndex_8e157 4 rfl) rfl (fun _ => ?_) (fun c => absurd h1 c)
  refine lv_iload_n F.1 F.2.1 (dd D_J3_checkIndex_8e157 10 rfl) rfl (lv_at hl 0 rfl) ?_
  exact ro_gen (R := rmOf 0 0 0) F hr (nar_int _) hlk rfl (dd D_J3_checkIndex_8e157 11 rfl)
set_option maxHeartbeats 4000000 in
set_option maxRecDepth 100000 in
theorem c_J0_checkIndex_df160 (D : va_G) (cA : Nat → ClassId) (i n : Int32) (h0 : ¬ i < 0) (h1 : i < n) : RO m_J0_checkIndex_df160 1 D cA [.int i, .int n] [] none := by
  refine RO.ofW gy_J0_checkIndex_df160.2.2 (Nat.le_of_ble_eq_true rfl) ?_
  intro l p e sM m below meth c F hr hlk hK hP hS hAb ls hl
  have hl : lv_has ls 2 [(0, .int i), (1, .int n)] := hl
  have hSb : va_S (fun z : Nat => cA 9 ≤ z) sM.heap sM.heap [] := va_S.rf
  refine lv_iload_n F.1 F.2.1 (dd D_J0_checkIndex_df160 0 rfl) rfl (lv_at hl 0 rfl) ?_
  refine lv_iload_n F.1 F.2.1 (dd D_J0_checkIndex_df160 1 rfl) rfl (lv_at hl 1 rfl) ?_
  rcases hK.2.2.1.2.2 with hz | ⟨t, hz⟩
  · refine va_gets F.1 F.2.1 hz hSb F.2.2.2.1 (F.2.2.2.2 _ w_698) (fun _ h => h) (dd D_J0_checkIndex_df160 2 rfl) ?_
    refine ro_go (st' := [.int i]) (rS (rest := []) F (c_J3_checkIndex_8e157 D cA i n .null (Or.inl rfl) h0 h1 l) lk_J0_1059 (Nat.le_of_ble_eq_true rfl) (preRO hK hS hAb emP) rfl hl rfl (Nat.le_of_ble_eq_true rfl) (dd D_J0_checkIndex_df160 3 rfl) ⟨(Nat.le_of_ble_eq_true rfl), (Nat.le_of_ble_eq_true rfl)⟩) rfl ?_
    refine lv_pop F.1 F.2.1 (dd D_J0_checkIndex_df160 4 rfl) rfl ?_
    exact ro_v (R := rmOf 1 0 0) F hr hlk (dd D_J0_checkIndex_df160 5 rfl)
  · refine va_gets F.1 F.2.1 hz hSb F.2.2.2.1 (F.2.2.2.2 _ w_698) (fun _ h => h) (dd D_J0_checkIndex_df160 2 rfl) ?_
    refine ro_go (st' := [.int i]) (rS (rest := []) F (c_J3_checkIndex_8e157 D cA i n (.ref t) (Or.inr ⟨_, rfl⟩) h0 h1 l) lk_J0_1059 (Nat.le_of_ble_eq_true rfl) (preRO hK hS hAb emP) rfl hl rfl (Nat.le_of_ble_eq_true rfl) (dd D_J0_checkIndex_df160 3 rfl) ⟨(Nat.le_of_ble_eq_true rfl), (Nat.le_of_ble_eq_true rfl)⟩) rfl ?_
    refine lv_pop F.1 F.2.1 (dd D_J0_checkIndex_df160 4 rfl) rfl ?_
    exact ro_v (R := rmOf 1 0 0) F hr hlk (dd D_J0_checkIndex_df160 5 rfl)
set_option maxHeartbeats 4000000 in
set_option maxRecDepth 100000 in
theorem c_J1_charAt_3b067 (D : va_G) (cA : Nat → ClassId) (v : Nat) (w : List Int32) (i : Int32) (hw : w.length < 2 ^ 31) (h : inb i w.length = true) : ROX m_J1_charAt_3b067 2 D cA [.ref v, .int i] [] (isByt cA v w) (some (.int (strch w i))) := by
  refine ROX.ofW gy_J1_charAt_3b067.2.2 (Nat.le_of_ble_eq_true rfl) ?_
  intro l p e sM m below meth c F hr hlk hK hP hS hAb hE ls hl
  have hl : lv_has ls 2 [(0, .ref v), (1, .int i)] := hl
  have hSb : va_S (fun z : Nat => cA 9 ≤ z) sM.heap sM.heap [] := va_S.rf
  refine lv_iload_n F.1 F.2.1 (dd D_J1_charAt_3b067 0 rfl) rfl (lv_at hl 1 rfl) ?_
  refine lv_aload_n F.1 F.2.1 (dd D_J1_charAt_3b067 1 rfl) rfl (lv_at hl 0 rfl) ?_
  refine va_tlen F.1 F.2.1 hE hSb (v := nI w.length) rfl (dd D_J1_charAt_3b067 2 rfl) ?_
  refine ro_go (st' := []) (rS (rest := []) F (c_J0_checkIndex_df160 D cA i (nI w.length) (inb_lt2 h hw).1 (inb_lt2 h hw).2 l) lk_J1_9 (Nat.le_of_ble_eq_true rfl) (preRO hK hS hAb emP) rfl hl rfl (Nat.le_of_ble_eq_true rfl) (dd D_J1_charAt_3b067 3 rfl) ⟨(Nat.le_of_ble_eq_true rfl), (Nat.le_of_ble_eq_true rfl)⟩) rfl ?_
  refine lv_aload_n F.1 F.2.1 (dd D_J1_charAt_3b067 4 rfl) rfl (lv_at hl 0 rfl) ?_
  refine lv_iload_n F.1 F.2.1 (dd D_J1_charAt_3b067 5 rfl) rfl (lv_at hl 1 rfl) ?_
  refine va_tb F.1 F.2.1 hE hSb (inb_in h) rfl (dd D_J1_charAt_3b067 6 rfl) ?_
  refine lv_sipush (v := 255) F.1 F.2.1 (dd D_J1_charAt_3b067 7 rfl) ks_255 ?_
  refine lv_iand F.1 F.2.1 (dd D_J1_charAt_3b067 8 rfl) ?_
  refine lv_i2c (v := strch w i) F.1 F.2.1 (dd D_J1_charAt_3b067 9 rfl) rfl ?_
  exact ro_gen (R := rmOf 2 0 0) F hr (strch_nar w i) hlk rfl (dd D_J1_charAt_3b067 10 rfl)
set_option maxHeartbeats 4000000 in
set_option maxRecDepth 100000 in
theorem c_J0_charAt_5068e (D : va_G) (cA : Nat → ClassId) (a : Nat) (w : List Int32) (i : Int32) (hw : w.length < 2 ^ 31) (h : inb i w.length = true) : ROX m_J0_charAt_5068e 4 D cA [.ref a, .int i] [] (isStr cA a w) (some (.int (strch w i))) := by
  refine ROX.ofW gy_J0_charAt_5068e.2.2 (Nat.le_of_ble_eq_true rfl) ?_
  intro l p e sM m below meth c F hr hlk hK hP hS hAb hE ls hl
  have hl : lv_has ls 2 [(0, .ref a), (1, .int i)] := hl
  obtain ⟨hE1, hE2, v, hE3, hE4⟩ := id hE
  have hSb : va_S (fun z : Nat => cA 9 ≤ z) sM.heap sM.heap [] := va_S.rf
  refine lv_aload_n F.1 F.2.1 (dd D_J0_charAt_5068e 0 rfl) rfl (lv_at hl 0 rfl) ?_
  refine ro_go (st' := [.int 1]) (rV (rest := []) F (c_J0_isLatin1_aae02 D cA a w l) lk_J0_492 (Nat.le_of_ble_eq_true rfl) (preStr hK hS hAb emP hE) (rcvStr hS hAb hE) rfl hl rfl (Nat.le_of_ble_eq_true rfl) (dd D_J0_charAt_5068e 1 rfl) ⟨(Nat.le_of_ble_eq_true rfl), (Nat.le_of_ble_eq_true rfl)⟩) rfl ?_
  refine lv_if_eq (tgt := 16) F.1 F.2.1 (dd D_J0_charAt_5068e 2 rfl) rfl (fun c => absurd c (by decide)) (fun _ => ?_)
  refine lv_aload_n F.1 F.2.1 (dd D_J0_charAt_5068e 3 rfl) rfl (lv_at hl 0 rfl) ?_
  refine vk_getf F.1 F.2.1 hE3 hSb F.2.2.2.1 (F.2.2.2.2 _ w_1698) (fun _ h => h) (dd D_J0_charAt_5068e 4 rfl) ?_
  refine lv_iload_n F.1 F.2.1 (dd D_J0_charAt_5068e 5 rfl) rfl (lv_at hl 1 rfl) ?_
  refine ro_go (st' := [.int (strch w i)]) (rS (rest := []) F (c_J1_charAt_3b067 D cA v w i hw h l) lk_J0_495 (Nat.le_of_ble_eq_true rfl) (preByt hK hS hAb emP hE4) rfl hl rfl (Nat.le_of_ble_eq_true rfl) (dd D_J0_charAt_5068e 6 rfl) ⟨(Nat.le_of_ble_eq_true rfl), (Nat.le_of_ble_eq_true rfl)⟩) rfl ?_
  exact ro_gen (R := rmOf 4 0 0) F hr (strch_nar w i) hlk rfl (dd D_J0_charAt_5068e 7 rfl)
