section CASES
variable {p : Program} {l : Launch} {e : Env} {s : State} {m : MethodId} {below : List Frame} {meth : Method} {c : Code} {H : Heap} {locs : List Loc} {cells slots : Nat} {Q : State → Prop} {ls : Array Slot} {D : va_G} {cA : Nat → ClassId} {b L : Nat} {xs : Nat → Int32} {ax am : Nat → Nat} {x : XS} {y : MS} {KT : va_W} {ka ta : Option Nat} {mk : Option MS} {i : Int32}
theorem lg_cmp_self (x : Int64) : lg_cmp x x = 0 := by unfold lg_cmp; simp
set_option maxHeartbeats 4000000 in
set_option maxRecDepth 100000 in
theorem case_0 (G : LG p m c s b L xs D cA) (h1 : vp_in (i + (1 : Int32)) L) (h2 : vp_in (i + (2 : Int32)) L) (h3 : vp_in (i + (3 : Int32)) L) (h4 : vp_in (i + (4 : Int32)) L) (h5 : vp_in (i + (5 : Int32)) L) (h6 : vp_in (i + (6 : Int32)) L) (hP : va_P D vwCl (xW cA ax x ++ (mW cA am y ++ KT)) H) (hD : va_D (AL s) (xW cA ax x ++ (mW cA am y ++ KT))) (hS : va_S (AL s) s.heap H locs) (hR : Rel x y ka ta mk) (hc : cells + 40 ≤ 600000 ∧ slots + 800 ≤ 7302250) (hl : lv_has ls 4 [(3, .int i), (2, .ref (am 0)), (1, .ref (ax 0)), (0, .ref b)])
    (kk : ∀ (x' : XS) (y' : MS) (H' : Heap) (locs' : List Loc) (cells' slots' : Nat), va_P D vwCl (xW cA ax x' ++ (mW cA am y' ++ KT)) H' → va_D (AL s) (xW cA ax x' ++ (mW cA am y' ++ KT)) → va_S (AL s) s.heap H' locs' → Rel x' y' ka ta mk → cells' ≤ cells + 40 → slots' ≤ slots + 800 → W p l e room_1 s m #[Value.ref b] below meth c H' locs' cells' slots' Q (F0 m 2310 ls [])) : W p l e room_1 s m #[Value.ref b] below meth c H locs cells slots Q (F0 m 288 ls []) := by
  obtain ⟨F, hK, hE, hX, hbl, e9⟩ := G
  obtain ⟨hc1, hc2⟩ := hc
  have hA : ∀ q, s.heap.size ≤ q → AL s q := fun _ h => h
  have hAb : ∀ q, AL s q → cA 9 ≤ q := fun q h => by rw [e9]; exact h
  have hbA : ¬ AL s b := Nat.not_le.mpr hbl
  obtain ⟨r, x', y', e1, e2, hR'⟩ := ok_row (n := 20000) hR (Nat.le_refl _) (xs (Int32.toNatClampNeg (i + (1 : Int32)))) (xs (Int32.toNatClampNeg (i + (2 : Int32)))) (xs (Int32.toNatClampNeg (i + (3 : Int32))))
  refine lv_aload_n F.1 F.2.1 (dd D_law_0 22 rfl) rfl (lv_at hl 2 rfl) ?_
  refine lv_aload_n F.1 F.2.1 (dd D_law_0 23 rfl) rfl (lv_at hl 3 rfl) ?_
  refine lv_iload_n F.1 F.2.1 (dd D_law_0 24 rfl) rfl (lv_at hl 0 rfl) ?_
  refine lv_iconst (v := (1 : Int32)) F.1 F.2.1 (dd D_law_0 25 rfl) ki_1 ?_
  refine lv_iadd F.1 F.2.1 (dd D_law_0 26 rfl) ?_
  refine va_sld F.1 F.2.1 hX hbl hbA hS h1 (dd D_law_0 27 rfl) ?_
  refine lv_aload_n F.1 F.2.1 (dd D_law_0 28 rfl) rfl (lv_at hl 3 rfl) ?_
  refine lv_iload_n F.1 F.2.1 (dd D_law_0 29 rfl) rfl (lv_at hl 0 rfl) ?_
  refine lv_iconst (v := (2 : Int32)) F.1 F.2.1 (dd D_law_0 30 rfl) ki_2 ?_
  refine lv_iadd F.1 F.2.1 (dd D_law_0 31 rfl) ?_
  refine va_sld F.1 F.2.1 hX hbl hbA hS h2 (dd D_law_0 32 rfl) ?_
  refine lv_aload_n F.1 F.2.1 (dd D_law_0 33 rfl) rfl (lv_at hl 3 rfl) ?_
  refine lv_iload_n F.1 F.2.1 (dd D_law_0 34 rfl) rfl (lv_at hl 0 rfl) ?_
  refine lv_iconst (v := (3 : Int32)) F.1 F.2.1 (dd D_law_0 35 rfl) ki_3 ?_
  refine lv_iadd F.1 F.2.1 (dd D_law_0 36 rfl) ?_
  refine va_sld F.1 F.2.1 hX hbl hbA hS h3 (dd D_law_0 37 rfl) ?_
  refine lawW0 (rest := []) F hK hA hAb (c_X8_row D cA ax x 20000 (xs (Int32.toNatClampNeg (i + (1 : Int32)))) (xs (Int32.toNatClampNeg (i + (2 : Int32)))) (xs (Int32.toNatClampNeg (i + (3 : Int32)))) _ e1) lk_L_13 (Nat.le_of_ble_eq_true rfl) (rcv_8 hK hP (q0 := 0) (gL (xp_0 cA ax x))) rfl hl rfl (Nat.le_of_ble_eq_true rfl) (dd D_law_0 38 rfl) ⟨by omega, by omega⟩ hP hD hS (fun H locs hP hD hS => ?_)
  refine lv_pop F.1 F.2.1 (dd D_law_0 39 rfl) rfl ?_
  refine lv_aload_n F.1 F.2.1 (dd D_law_1 0 rfl) rfl (lv_at hl 1 rfl) ?_
  refine lv_aload_n F.1 F.2.1 (dd D_law_1 1 rfl) rfl (lv_at hl 3 rfl) ?_
  refine lv_iload_n F.1 F.2.1 (dd D_law_1 2 rfl) rfl (lv_at hl 0 rfl) ?_
  refine lv_iconst (v := (1 : Int32)) F.1 F.2.1 (dd D_law_1 3 rfl) ki_1 ?_
  refine lv_iadd F.1 F.2.1 (dd D_law_1 4 rfl) ?_
  refine va_sld F.1 F.2.1 hX hbl hbA hS h1 (dd D_law_1 5 rfl) ?_
  refine lv_aload_n F.1 F.2.1 (dd D_law_1 6 rfl) rfl (lv_at hl 3 rfl) ?_
  refine lv_iload_n F.1 F.2.1 (dd D_law_1 7 rfl) rfl (lv_at hl 0 rfl) ?_
  refine lv_iconst (v := (2 : Int32)) F.1 F.2.1 (dd D_law_1 8 rfl) ki_2 ?_
  refine lv_iadd F.1 F.2.1 (dd D_law_1 9 rfl) ?_
  refine va_sld F.1 F.2.1 hX hbl hbA hS h2 (dd D_law_1 10 rfl) ?_
  refine lv_aload_n F.1 F.2.1 (dd D_law_1 11 rfl) rfl (lv_at hl 3 rfl) ?_
  refine lv_iload_n F.1 F.2.1 (dd D_law_1 12 rfl) rfl (lv_at hl 0 rfl) ?_
  refine lv_iconst (v := (3 : Int32)) F.1 F.2.1 (dd D_law_1 13 rfl) ki_3 ?_
  refine lv_iadd F.1 F.2.1 (dd D_law_1 14 rfl) ?_
  refine va_sld F.1 F.2.1 hX hbl hbA hS h3 (dd D_law_1 15 rfl) ?_
  refine lawW (rest := []) F hK hA hAb (c_X9_row D cA am y 20000 (xs (Int32.toNatClampNeg (i + (1 : Int32)))) (xs (Int32.toNatClampNeg (i + (2 : Int32)))) (xs (Int32.toNatClampNeg (i + (3 : Int32)))) _ e2) lk_L_17 (Nat.le_of_ble_eq_true rfl) (rcv_9 hK hP (q0 := 63 + (0)) (gR (xp_len cA ax x') (gL (mp_0 cA am y)))) rfl hl rfl (Nat.le_of_ble_eq_true rfl) (dd D_law_1 16 rfl) ⟨by omega, by omega⟩ hP hD hS (fun H locs hP hD hS => ?_)
  refine lv_pop F.1 F.2.1 (dd D_law_1 17 rfl) rfl ?_
  refine lv_goto (tgt := 2310) F.1 F.2.1 (dd D_law_1 18 rfl) rfl ?_
  exact kk x' y' H locs _ _ hP hD hS hR' (by omega) (by omega)
set_option maxHeartbeats 4000000 in
set_option maxRecDepth 100000 in
theorem case_1 (G : LG p m c s b L xs D cA) (h1 : vp_in (i + (1 : Int32)) L) (h2 : vp_in (i + (2 : Int32)) L) (h3 : vp_in (i + (3 : Int32)) L) (h4 : vp_in (i + (4 : Int32)) L) (h5 : vp_in (i + (5 : Int32)) L) (h6 : vp_in (i + (6 : Int32)) L) (hP : va_P D vwCl (xW cA ax x ++ (mW cA am y ++ KT)) H) (hD : va_D (AL s) (xW cA ax x ++ (mW cA am y ++ KT))) (hS : va_S (AL s) s.heap H locs) (hR : Rel x y ka ta mk) (hc : cells + 40 ≤ 600000 ∧ slots + 800 ≤ 7302250) (hl : lv_has ls 4 [(3, .int i), (2, .ref (am 0)), (1, .ref (ax 0)), (0, .ref b)])
    (kk : ∀ (x' : XS) (y' : MS) (H' : Heap) (locs' : List Loc) (cells' slots' : Nat), va_P D vwCl (xW cA ax x' ++ (mW cA am y' ++ KT)) H' → va_D (AL s) (xW cA ax x' ++ (mW cA am y' ++ KT)) → va_S (AL s) s.heap H' locs' → Rel x' y' ka ta mk → cells' ≤ cells + 40 → slots' ≤ slots + 800 → W p l e room_1 s m #[Value.ref b] below meth c H' locs' cells' slots' Q (F0 m 2310 ls [])) : W p l e room_1 s m #[Value.ref b] below meth c H locs cells slots Q (F0 m 331 ls []) := by
  obtain ⟨F, hK, hE, hX, hbl, e9⟩ := G
  obtain ⟨hc1, hc2⟩ := hc
  have hA : ∀ q, s.heap.size ≤ q → AL s q := fun _ h => h
  have hAb : ∀ q, AL s q → cA 9 ≤ q := fun q h => by rw [e9]; exact h
  have hbA : ¬ AL s b := Nat.not_le.mpr hbl
  obtain ⟨r, x', y', e1, e2, hR'⟩ := ok_set (n := 20000) hR (xs (Int32.toNatClampNeg (i + (1 : Int32)))) (xs (Int32.toNatClampNeg (i + (2 : Int32)))) (((Int32.toInt64 (xs (Int32.toNatClampNeg (i + (3 : Int32))))) <<< (Int32.toInt64 (32 : Int32) &&& 63)) ||| ((Int32.toInt64 (xs (Int32.toNatClampNeg (i + (4 : Int32))))) &&& (4294967295 : Int64)))
  refine lv_aload_n F.1 F.2.1 (dd D_law_1 19 rfl) rfl (lv_at hl 2 rfl) ?_
  refine lv_aload_n F.1 F.2.1 (dd D_law_1 20 rfl) rfl (lv_at hl 3 rfl) ?_
  refine lv_iload_n F.1 F.2.1 (dd D_law_1 21 rfl) rfl (lv_at hl 0 rfl) ?_
  refine lv_iconst (v := (1 : Int32)) F.1 F.2.1 (dd D_law_1 22 rfl) ki_1 ?_
  refine lv_iadd F.1 F.2.1 (dd D_law_1 23 rfl) ?_
  refine va_sld F.1 F.2.1 hX hbl hbA hS h1 (dd D_law_1 24 rfl) ?_
  refine lv_aload_n F.1 F.2.1 (dd D_law_1 25 rfl) rfl (lv_at hl 3 rfl) ?_
  refine lv_iload_n F.1 F.2.1 (dd D_law_1 26 rfl) rfl (lv_at hl 0 rfl) ?_
  refine lv_iconst (v := (2 : Int32)) F.1 F.2.1 (dd D_law_1 27 rfl) ki_2 ?_
  refine lv_iadd F.1 F.2.1 (dd D_law_1 28 rfl) ?_
  refine va_sld F.1 F.2.1 hX hbl hbA hS h2 (dd D_law_1 29 rfl) ?_
  refine lv_aload_n F.1 F.2.1 (dd D_law_1 30 rfl) rfl (lv_at hl 3 rfl) ?_
  refine lv_iload_n F.1 F.2.1 (dd D_law_1 31 rfl) rfl (lv_at hl 0 rfl) ?_
  refine lv_iconst (v := (3 : Int32)) F.1 F.2.1 (dd D_law_1 32 rfl) ki_3 ?_
  refine lv_iadd F.1 F.2.1 (dd D_law_1 33 rfl) ?_
  refine va_sld F.1 F.2.1 hX hbl hbA hS h3 (dd D_law_1 34 rfl) ?_
  refine lv_i2l (v := (Int32.toInt64 (xs (Int32.toNatClampNeg (i + (3 : Int32)))))) F.1 F.2.1 (dd D_law_1 35 rfl) rfl ?_
  refine lv_bipush (v := (32 : Int32)) F.1 F.2.1 (dd D_law_1 36 rfl) kb_32 ?_
  refine lv_lshl (v := ((Int32.toInt64 (xs (Int32.toNatClampNeg (i + (3 : Int32))))) <<< (Int32.toInt64 (32 : Int32) &&& 63))) F.1 F.2.1 (dd D_law_1 37 rfl) rfl ?_
  refine lv_aload_n F.1 F.2.1 (dd D_law_1 38 rfl) rfl (lv_at hl 3 rfl) ?_
  refine lv_iload_n F.1 F.2.1 (dd D_law_1 39 rfl) rfl (lv_at hl 0 rfl) ?_
  refine lv_iconst (v := (4 : Int32)) F.1 F.2.1 (dd D_law_2 0 rfl) ki_4 ?_
  refine lv_iadd F.1 F.2.1 (dd D_law_2 1 rfl) ?_
  refine va_sld F.1 F.2.1 hX hbl hbA hS h4 (dd D_law_2 2 rfl) ?_
  refine lv_i2l (v := (Int32.toInt64 (xs (Int32.toNatClampNeg (i + (4 : Int32)))))) F.1 F.2.1 (dd D_law_2 3 rfl) rfl ?_
  refine lv_ldc2 (own := RL) (v := (4294967295 : Int64)) F.1 F.2.1 F.2.2.2.1 (F.2.2.2.2 _ (kL_L_18)) (dd D_law_2 4 rfl) ?_
  refine lv_land F.1 F.2.1 (dd D_law_2 5 rfl) ?_
  refine lv_lor F.1 F.2.1 (dd D_law_2 6 rfl) ?_
  refine lawW0 (rest := []) F hK hA hAb (c_X8_set D cA ax x 20000 (xs (Int32.toNatClampNeg (i + (1 : Int32)))) (xs (Int32.toNatClampNeg (i + (2 : Int32)))) (((Int32.toInt64 (xs (Int32.toNatClampNeg (i + (3 : Int32))))) <<< (Int32.toInt64 (32 : Int32) &&& 63)) ||| ((Int32.toInt64 (xs (Int32.toNatClampNeg (i + (4 : Int32))))) &&& (4294967295 : Int64))) _ e1) lk_L_20 (Nat.le_of_ble_eq_true rfl) (rcv_8 hK hP (q0 := 0) (gL (xp_0 cA ax x))) rfl hl rfl (Nat.le_of_ble_eq_true rfl) (dd D_law_2 7 rfl) ⟨by omega, by omega⟩ hP hD hS (fun H locs hP hD hS => ?_)
  refine lv_pop F.1 F.2.1 (dd D_law_2 8 rfl) rfl ?_
  refine lv_aload_n F.1 F.2.1 (dd D_law_2 9 rfl) rfl (lv_at hl 1 rfl) ?_
  refine lv_aload_n F.1 F.2.1 (dd D_law_2 10 rfl) rfl (lv_at hl 3 rfl) ?_
  refine lv_iload_n F.1 F.2.1 (dd D_law_2 11 rfl) rfl (lv_at hl 0 rfl) ?_
  refine lv_iconst (v := (1 : Int32)) F.1 F.2.1 (dd D_law_2 12 rfl) ki_1 ?_
  refine lv_iadd F.1 F.2.1 (dd D_law_2 13 rfl) ?_
  refine va_sld F.1 F.2.1 hX hbl hbA hS h1 (dd D_law_2 14 rfl) ?_
  refine lv_aload_n F.1 F.2.1 (dd D_law_2 15 rfl) rfl (lv_at hl 3 rfl) ?_
  refine lv_iload_n F.1 F.2.1 (dd D_law_2 16 rfl) rfl (lv_at hl 0 rfl) ?_
  refine lv_iconst (v := (2 : Int32)) F.1 F.2.1 (dd D_law_2 17 rfl) ki_2 ?_
  refine lv_iadd F.1 F.2.1 (dd D_law_2 18 rfl) ?_
  refine va_sld F.1 F.2.1 hX hbl hbA hS h2 (dd D_law_2 19 rfl) ?_
  refine lv_aload_n F.1 F.2.1 (dd D_law_2 20 rfl) rfl (lv_at hl 3 rfl) ?_
  refine lv_iload_n F.1 F.2.1 (dd D_law_2 21 rfl) rfl (lv_at hl 0 rfl) ?_
  refine lv_iconst (v := (3 : Int32)) F.1 F.2.1 (dd D_law_2 22 rfl) ki_3 ?_
  refine lv_iadd F.1 F.2.1 (dd D_law_2 23 rfl) ?_
  refine va_sld F.1 F.2.1 hX hbl hbA hS h3 (dd D_law_2 24 rfl) ?_
  refine lv_i2l (v := (Int32.toInt64 (xs (Int32.toNatClampNeg (i + (3 : Int32)))))) F.1 F.2.1 (dd D_law_2 25 rfl) rfl ?_
  refine lv_bipush (v := (32 : Int32)) F.1 F.2.1 (dd D_law_2 26 rfl) kb_32 ?_
  refine lv_lshl (v := ((Int32.toInt64 (xs (Int32.toNatClampNeg (i + (3 : Int32))))) <<< (Int32.toInt64 (32 : Int32) &&& 63))) F.1 F.2.1 (dd D_law_2 27 rfl) rfl ?_
  refine lv_aload_n F.1 F.2.1 (dd D_law_2 28 rfl) rfl (lv_at hl 3 rfl) ?_
  refine lv_iload_n F.1 F.2.1 (dd D_law_2 29 rfl) rfl (lv_at hl 0 rfl) ?_
  refine lv_iconst (v := (4 : Int32)) F.1 F.2.1 (dd D_law_2 30 rfl) ki_4 ?_
  refine lv_iadd F.1 F.2.1 (dd D_law_2 31 rfl) ?_
  refine va_sld F.1 F.2.1 hX hbl hbA hS h4 (dd D_law_2 32 rfl) ?_
  refine lv_i2l (v := (Int32.toInt64 (xs (Int32.toNatClampNeg (i + (4 : Int32)))))) F.1 F.2.1 (dd D_law_2 33 rfl) rfl ?_
  refine lv_ldc2 (own := RL) (v := (4294967295 : Int64)) F.1 F.2.1 F.2.2.2.1 (F.2.2.2.2 _ (kL_L_18)) (dd D_law_2 34 rfl) ?_
  refine lv_land F.1 F.2.1 (dd D_law_2 35 rfl) ?_
  refine lv_lor F.1 F.2.1 (dd D_law_2 36 rfl) ?_
  refine lawW (rest := []) F hK hA hAb (c_X9_set D cA am y 20000 (xs (Int32.toNatClampNeg (i + (1 : Int32)))) (xs (Int32.toNatClampNeg (i + (2 : Int32)))) (((Int32.toInt64 (xs (Int32.toNatClampNeg (i + (3 : Int32))))) <<< (Int32.toInt64 (32 : Int32) &&& 63)) ||| ((Int32.toInt64 (xs (Int32.toNatClampNeg (i + (4 : Int32))))) &&& (4294967295 : Int64))) _ e2) lk_L_24 (Nat.le_of_ble_eq_true rfl) (rcv_9 hK hP (q0 := 63 + (0)) (gR (xp_len cA ax x') (gL (mp_0 cA am y)))) rfl hl rfl (Nat.le_of_ble_eq_true rfl) (dd D_law_2 37 rfl) ⟨by omega, by omega⟩ hP hD hS (fun H locs hP hD hS => ?_)
  refine lv_pop F.1 F.2.1 (dd D_law_2 38 rfl) rfl ?_
  refine lv_goto (tgt := 2310) F.1 F.2.1 (dd D_law_2 39 rfl) rfl ?_
  exact kk x' y' H locs _ _ hP hD hS hR' (by omega) (by omega)
set_option maxHeartbeats 4000000 in
set_option maxRecDepth 100000 in
theorem case_2 (G : LG p m c s b L xs D cA) (h1 : vp_in (i + (1 : Int32)) L) (h2 : vp_in (i + (2 : Int32)) L) (h3 : vp_in (i + (3 : Int32)) L) (h4 : vp_in (i + (4 : Int32)) L) (h5 : vp_in (i + (5 : Int32)) L) (h6 : vp_in (i + (6 : Int32)) L) (hP : va_P D vwCl (xW cA ax x ++ (mW cA am y ++ KT)) H) (hD : va_D (AL s) (xW cA ax x ++ (mW cA am y ++ KT))) (hS : va_S (AL s) s.heap H locs) (hR : Rel x y ka ta mk) (hc : cells + 40 ≤ 600000 ∧ slots + 800 ≤ 7302250) (hl : lv_has ls 4 [(3, .int i), (2, .ref (am 0)), (1, .ref (ax 0)), (0, .ref b)])
    (kk : ∀ (x' : XS) (y' : MS) (H' : Heap) (locs' : List Loc) (cells' slots' : Nat), va_P D vwCl (xW cA ax x' ++ (mW cA am y' ++ KT)) H' → va_D (AL s) (xW cA ax x' ++ (mW cA am y' ++ KT)) → va_S (AL s) s.heap H' locs' → Rel x' y' ka ta mk → cells' ≤ cells + 40 → slots' ≤ slots + 800 → W p l e room_1 s m #[Value.ref b] below meth c H' locs' cells' slots' Q (F0 m 2310 ls [])) : W p l e room_1 s m #[Value.ref b] below meth c H locs cells slots Q (F0 m 404 ls []) := by
  obtain ⟨F, hK, hE, hX, hbl, e9⟩ := G
  obtain ⟨hc1, hc2⟩ := hc
  have hA : ∀ q, s.heap.size ≤ q → AL s q := fun _ h => h
  have hAb : ∀ q, AL s q → cA 9 ≤ q := fun q h => by rw [e9]; exact h
  have hbA : ¬ AL s b := Nat.not_le.mpr hbl
  obtain ⟨r, x', y', e1, e2, hR'⟩ := ok_copy (n := 20000) hR (Nat.le_refl _) (xs (Int32.toNatClampNeg (i + (1 : Int32)))) (xs (Int32.toNatClampNeg (i + (2 : Int32)))) (xs (Int32.toNatClampNeg (i + (3 : Int32)))) (xs (Int32.toNatClampNeg (i + (4 : Int32)))) (xs (Int32.toNatClampNeg (i + (5 : Int32))))
  refine lv_aload_n F.1 F.2.1 (dd D_law_3 0 rfl) rfl (lv_at hl 2 rfl) ?_
  refine lv_aload_n F.1 F.2.1 (dd D_law_3 1 rfl) rfl (lv_at hl 3 rfl) ?_
  refine lv_iload_n F.1 F.2.1 (dd D_law_3 2 rfl) rfl (lv_at hl 0 rfl) ?_
  refine lv_iconst (v := (1 : Int32)) F.1 F.2.1 (dd D_law_3 3 rfl) ki_1 ?_
  refine lv_iadd F.1 F.2.1 (dd D_law_3 4 rfl) ?_
  refine va_sld F.1 F.2.1 hX hbl hbA hS h1 (dd D_law_3 5 rfl) ?_
  refine lv_aload_n F.1 F.2.1 (dd D_law_3 6 rfl) rfl (lv_at hl 3 rfl) ?_
  refine lv_iload_n F.1 F.2.1 (dd D_law_3 7 rfl) rfl (lv_at hl 0 rfl) ?_
  refine lv_iconst (v := (2 : Int32)) F.1 F.2.1 (dd D_law_3 8 rfl) ki_2 ?_
  refine lv_iadd F.1 F.2.1 (dd D_law_3 9 rfl) ?_
  refine va_sld F.1 F.2.1 hX hbl hbA hS h2 (dd D_law_3 10 rfl) ?_
  refine lv_aload_n F.1 F.2.1 (dd D_law_3 11 rfl) rfl (lv_at hl 3 rfl) ?_
  refine lv_iload_n F.1 F.2.1 (dd D_law_3 12 rfl) rfl (lv_at hl 0 rfl) ?_
  refine lv_iconst (v := (3 : Int32)) F.1 F.2.1 (dd D_law_3 13 rfl) ki_3 ?_
  refine lv_iadd F.1 F.2.1 (dd D_law_3 14 rfl) ?_
  refine va_sld F.1 F.2.1 hX hbl hbA hS h3 (dd D_law_3 15 rfl) ?_
  refine lv_aload_n F.1 F.2.1 (dd D_law_3 16 rfl) rfl (lv_at hl 3 rfl) ?_
  refine lv_iload_n F.1 F.2.1 (dd D_law_3 17 rfl) rfl (lv_at hl 0 rfl) ?_
  refine lv_iconst (v := (4 : Int32)) F.1 F.2.1 (dd D_law_3 18 rfl) ki_4 ?_
  refine lv_iadd F.1 F.2.1 (dd D_law_3 19 rfl) ?_
  refine va_sld F.1 F.2.1 hX hbl hbA hS h4 (dd D_law_3 20 rfl) ?_
  refine lv_aload_n F.1 F.2.1 (dd D_law_3 21 rfl) rfl (lv_at hl 3 rfl) ?_
  refine lv_iload_n F.1 F.2.1 (dd D_law_3 22 rfl) rfl (lv_at hl 0 rfl) ?_
  refine lv_iconst (v := (5 : Int32)) F.1 F.2.1 (dd D_law_3 23 rfl) ki_5 ?_
  refine lv_iadd F.1 F.2.1 (dd D_law_3 24 rfl) ?_
  refine va_sld F.1 F.2.1 hX hbl hbA hS h5 (dd D_law_3 25 rfl) ?_
  refine lawW0 (rest := []) F hK hA hAb (c_X8_copy D cA ax x 20000 (xs (Int32.toNatClampNeg (i + (1 : Int32)))) (xs (Int32.toNatClampNeg (i + (2 : Int32)))) (xs (Int32.toNatClampNeg (i + (3 : Int32)))) (xs (Int32.toNatClampNeg (i + (4 : Int32)))) (xs (Int32.toNatClampNeg (i + (5 : Int32)))) _ e1) lk_L_25 (Nat.le_of_ble_eq_true rfl) (rcv_8 hK hP (q0 := 0) (gL (xp_0 cA ax x))) rfl hl rfl (Nat.le_of_ble_eq_true rfl) (dd D_law_3 26 rfl) ⟨by omega, by omega⟩ hP hD hS (fun H locs hP hD hS => ?_)
  refine lv_pop F.1 F.2.1 (dd D_law_3 27 rfl) rfl ?_
  refine lv_aload_n F.1 F.2.1 (dd D_law_3 28 rfl) rfl (lv_at hl 1 rfl) ?_
  refine lv_aload_n F.1 F.2.1 (dd D_law_3 29 rfl) rfl (lv_at hl 3 rfl) ?_
  refine lv_iload_n F.1 F.2.1 (dd D_law_3 30 rfl) rfl (lv_at hl 0 rfl) ?_
  refine lv_iconst (v := (1 : Int32)) F.1 F.2.1 (dd D_law_3 31 rfl) ki_1 ?_
  refine lv_iadd F.1 F.2.1 (dd D_law_3 32 rfl) ?_
  refine va_sld F.1 F.2.1 hX hbl hbA hS h1 (dd D_law_3 33 rfl) ?_
  refine lv_aload_n F.1 F.2.1 (dd D_law_3 34 rfl) rfl (lv_at hl 3 rfl) ?_
  refine lv_iload_n F.1 F.2.1 (dd D_law_3 35 rfl) rfl (lv_at hl 0 rfl) ?_
  refine lv_iconst (v := (2 : Int32)) F.1 F.2.1 (dd D_law_3 36 rfl) ki_2 ?_
  refine lv_iadd F.1 F.2.1 (dd D_law_3 37 rfl) ?_
  refine va_sld F.1 F.2.1 hX hbl hbA hS h2 (dd D_law_3 38 rfl) ?_
  refine lv_aload_n F.1 F.2.1 (dd D_law_3 39 rfl) rfl (lv_at hl 3 rfl) ?_
  refine lv_iload_n F.1 F.2.1 (dd D_law_4 0 rfl) rfl (lv_at hl 0 rfl) ?_
  refine lv_iconst (v := (3 : Int32)) F.1 F.2.1 (dd D_law_4 1 rfl) ki_3 ?_
  refine lv_iadd F.1 F.2.1 (dd D_law_4 2 rfl) ?_
  refine va_sld F.1 F.2.1 hX hbl hbA hS h3 (dd D_law_4 3 rfl) ?_
  refine lv_aload_n F.1 F.2.1 (dd D_law_4 4 rfl) rfl (lv_at hl 3 rfl) ?_
  refine lv_iload_n F.1 F.2.1 (dd D_law_4 5 rfl) rfl (lv_at hl 0 rfl) ?_
  refine lv_iconst (v := (4 : Int32)) F.1 F.2.1 (dd D_law_4 6 rfl) ki_4 ?_
  refine lv_iadd F.1 F.2.1 (dd D_law_4 7 rfl) ?_
  refine va_sld F.1 F.2.1 hX hbl hbA hS h4 (dd D_law_4 8 rfl) ?_
  refine lv_aload_n F.1 F.2.1 (dd D_law_4 9 rfl) rfl (lv_at hl 3 rfl) ?_
  refine lv_iload_n F.1 F.2.1 (dd D_law_4 10 rfl) rfl (lv_at hl 0 rfl) ?_
  refine lv_iconst (v := (5 : Int32)) F.1 F.2.1 (dd D_law_4 11 rfl) ki_5 ?_
  refine lv_iadd F.1 F.2.1 (dd D_law_4 12 rfl) ?_
  refine va_sld F.1 F.2.1 hX hbl hbA hS h5 (dd D_law_4 13 rfl) ?_
  refine lawW (rest := []) F hK hA hAb (c_X9_copy D cA am y 20000 (xs (Int32.toNatClampNeg (i + (1 : Int32)))) (xs (Int32.toNatClampNeg (i + (2 : Int32)))) (xs (Int32.toNatClampNeg (i + (3 : Int32)))) (xs (Int32.toNatClampNeg (i + (4 : Int32)))) (xs (Int32.toNatClampNeg (i + (5 : Int32)))) _ e2) lk_L_29 (Nat.le_of_ble_eq_true rfl) (rcv_9 hK hP (q0 := 63 + (0)) (gR (xp_len cA ax x') (gL (mp_0 cA am y)))) rfl hl rfl (Nat.le_of_ble_eq_true rfl) (dd D_law_4 14 rfl) ⟨by omega, by omega⟩ hP hD hS (fun H locs hP hD hS => ?_)
  refine lv_pop F.1 F.2.1 (dd D_law_4 15 rfl) rfl ?_
  refine lv_goto (tgt := 2310) F.1 F.2.1 (dd D_law_4 16 rfl) rfl ?_
  exact kk x' y' H locs _ _ hP hD hS hR' (by omega) (by omega)
set_option maxHeartbeats 4000000 in
set_option maxRecDepth 100000 in
theorem case_3 (G : LG p m c s b L xs D cA) (h1 : vp_in (i + (1 : Int32)) L) (h2 : vp_in (i + (2 : Int32)) L) (h3 : vp_in (i + (3 : Int32)) L) (h4 : vp_in (i + (4 : Int32)) L) (h5 : vp_in (i + (5 : Int32)) L) (h6 : vp_in (i + (6 : Int32)) L) (hP : va_P D vwCl (xW cA ax x ++ (mW cA am y ++ KT)) H) (hD : va_D (AL s) (xW cA ax x ++ (mW cA am y ++ KT))) (hS : va_S (AL s) s.heap H locs) (hR : Rel x y ka ta mk) (hc : cells + 40 ≤ 600000 ∧ slots + 800 ≤ 7302250) (hl : lv_has ls 4 [(3, .int i), (2, .ref (am 0)), (1, .ref (ax 0)), (0, .ref b)])
    (kk : ∀ (x' : XS) (y' : MS) (H' : Heap) (locs' : List Loc) (cells' slots' : Nat), va_P D vwCl (xW cA ax x' ++ (mW cA am y' ++ KT)) H' → va_D (AL s) (xW cA ax x' ++ (mW cA am y' ++ KT)) → va_S (AL s) s.heap H' locs' → Rel x' y' ka ta mk → cells' ≤ cells + 40 → slots' ≤ slots + 800 → W p l e room_1 s m #[Value.ref b] below meth c H' locs' cells' slots' Q (F0 m 2310 ls [])) : W p l e room_1 s m #[Value.ref b] below meth c H locs cells slots Q (F0 m 467 ls []) := by
  obtain ⟨F, hK, hE, hX, hbl, e9⟩ := G
  obtain ⟨hc1, hc2⟩ := hc
  have hA : ∀ q, s.heap.size ≤ q → AL s q := fun _ h => h
  have hAb : ∀ q, AL s q → cA 9 ≤ q := fun q h => by rw [e9]; exact h
  have hbA : ¬ AL s b := Nat.not_le.mpr hbl
  obtain ⟨r, e1, e2⟩ := ok_element (n := 20000) hR (xs (Int32.toNatClampNeg (i + (1 : Int32)))) (xs (Int32.toNatClampNeg (i + (2 : Int32))))
  refine lv_aload_n F.1 F.2.1 (dd D_law_4 17 rfl) rfl (lv_at hl 2 rfl) ?_
  refine lv_aload_n F.1 F.2.1 (dd D_law_4 18 rfl) rfl (lv_at hl 3 rfl) ?_
  refine lv_iload_n F.1 F.2.1 (dd D_law_4 19 rfl) rfl (lv_at hl 0 rfl) ?_
  refine lv_iconst (v := (1 : Int32)) F.1 F.2.1 (dd D_law_4 20 rfl) ki_1 ?_
  refine lv_iadd F.1 F.2.1 (dd D_law_4 21 rfl) ?_
  refine va_sld F.1 F.2.1 hX hbl hbA hS h1 (dd D_law_4 22 rfl) ?_
  refine lv_aload_n F.1 F.2.1 (dd D_law_4 23 rfl) rfl (lv_at hl 3 rfl) ?_
  refine lv_iload_n F.1 F.2.1 (dd D_law_4 24 rfl) rfl (lv_at hl 0 rfl) ?_
  refine lv_iconst (v := (2 : Int32)) F.1 F.2.1 (dd D_law_4 25 rfl) ki_2 ?_
  refine lv_iadd F.1 F.2.1 (dd D_law_4 26 rfl) ?_
  refine va_sld F.1 F.2.1 hX hbl hbA hS h2 (dd D_law_4 27 rfl) ?_
  refine lawO (rest := []) F hK hAb (c_X8_element D cA ax x 20000 (xs (Int32.toNatClampNeg (i + (1 : Int32)))) (xs (Int32.toNatClampNeg (i + (2 : Int32)))) _ e1) lk_L_30 (Nat.le_of_ble_eq_true rfl) (rcv_8 hK hP (q0 := 0) (gL (xp_0 cA ax x))) rfl hl rfl (Nat.le_of_ble_eq_true rfl) (dd D_law_4 28 rfl) ⟨by omega, by omega⟩ (preP hP) hS ?_
  refine lv_pop2_2 F.1 F.2.1 (dd D_law_4 29 rfl) rfl ?_
  refine lv_aload_n F.1 F.2.1 (dd D_law_4 30 rfl) rfl (lv_at hl 1 rfl) ?_
  refine lv_aload_n F.1 F.2.1 (dd D_law_4 31 rfl) rfl (lv_at hl 3 rfl) ?_
  refine lv_iload_n F.1 F.2.1 (dd D_law_4 32 rfl) rfl (lv_at hl 0 rfl) ?_
  refine lv_iconst (v := (1 : Int32)) F.1 F.2.1 (dd D_law_4 33 rfl) ki_1 ?_
  refine lv_iadd F.1 F.2.1 (dd D_law_4 34 rfl) ?_
  refine va_sld F.1 F.2.1 hX hbl hbA hS h1 (dd D_law_4 35 rfl) ?_
  refine lv_aload_n F.1 F.2.1 (dd D_law_4 36 rfl) rfl (lv_at hl 3 rfl) ?_
  refine lv_iload_n F.1 F.2.1 (dd D_law_4 37 rfl) rfl (lv_at hl 0 rfl) ?_
  refine lv_iconst (v := (2 : Int32)) F.1 F.2.1 (dd D_law_4 38 rfl) ki_2 ?_
  refine lv_iadd F.1 F.2.1 (dd D_law_4 39 rfl) ?_
  refine va_sld F.1 F.2.1 hX hbl hbA hS h2 (dd D_law_5 0 rfl) ?_
  refine lawO (rest := []) F hK hAb (c_X9_element D cA am y 20000 (xs (Int32.toNatClampNeg (i + (1 : Int32)))) (xs (Int32.toNatClampNeg (i + (2 : Int32)))) _ e2) lk_L_34 (Nat.le_of_ble_eq_true rfl) (rcv_9 hK hP (q0 := 63 + (0)) (gR (xp_len cA ax x) (gL (mp_0 cA am y)))) rfl hl rfl (Nat.le_of_ble_eq_true rfl) (dd D_law_5 1 rfl) ⟨by omega, by omega⟩ (preP (sufP hP)) hS ?_
  refine lv_pop2_2 F.1 F.2.1 (dd D_law_5 2 rfl) rfl ?_
  refine lv_goto (tgt := 2310) F.1 F.2.1 (dd D_law_5 3 rfl) rfl ?_
  exact kk x y H locs _ _ hP hD hS hR (by omega) (by omega)
set_option maxHeartbeats 4000000 in
set_option maxRecDepth 100000 in
theorem case_4 (G : LG p m c s b L xs D cA) (h1 : vp_in (i + (1 : Int32)) L) (h2 : vp_in (i + (2 : Int32)) L) (h3 : vp_in (i + (3 : Int32)) L) (h4 : vp_in (i + (4 : Int32)) L) (h5 : vp_in (i + (5 : Int32)) L) (h6 : vp_in (i + (6 : Int32)) L) (hP : va_P D vwCl (xW cA ax x ++ (mW cA am y ++ KT)) H) (hD : va_D (AL s) (xW cA ax x ++ (mW cA am y ++ KT))) (hS : va_S (AL s) s.heap H locs) (hR : Rel x y ka ta mk) (hc : cells + 40 ≤ 600000 ∧ slots + 800 ≤ 7302250) (hl : lv_has ls 4 [(3, .int i), (2, .ref (am 0)), (1, .ref (ax 0)), (0, .ref b)])
    (kk : ∀ (x' : XS) (y' : MS) (H' : Heap) (locs' : List Loc) (cells' slots' : Nat), va_P D vwCl (xW cA ax x' ++ (mW cA am y' ++ KT)) H' → va_D (AL s) (xW cA ax x' ++ (mW cA am y' ++ KT)) → va_S (AL s) s.heap H' locs' → Rel x' y' ka ta mk → cells' ≤ cells + 40 → slots' ≤ slots + 800 → W p l e room_1 s m #[Value.ref b] below meth c H' locs' cells' slots' Q (F0 m 2310 ls [])) : W p l e room_1 s m #[Value.ref b] below meth c H locs cells slots Q (F0 m 500 ls []) := by
  obtain ⟨F, hK, hE, hX, hbl, e9⟩ := G
  obtain ⟨hc1, hc2⟩ := hc
  have hA : ∀ q, s.heap.size ≤ q → AL s q := fun _ h => h
  have hAb : ∀ q, AL s q → cA 9 ≤ q := fun q h => by rw [e9]; exact h
  have hbA : ¬ AL s b := Nat.not_le.mpr hbl
  obtain ⟨r, e1, e2⟩ := ok_holds (n := 20000) hR (xs (Int32.toNatClampNeg (i + (1 : Int32))))
  refine lv_aload_n F.1 F.2.1 (dd D_law_5 4 rfl) rfl (lv_at hl 2 rfl) ?_
  refine lv_aload_n F.1 F.2.1 (dd D_law_5 5 rfl) rfl (lv_at hl 3 rfl) ?_
  refine lv_iload_n F.1 F.2.1 (dd D_law_5 6 rfl) rfl (lv_at hl 0 rfl) ?_
  refine lv_iconst (v := (1 : Int32)) F.1 F.2.1 (dd D_law_5 7 rfl) ki_1 ?_
  refine lv_iadd F.1 F.2.1 (dd D_law_5 8 rfl) ?_
  refine va_sld F.1 F.2.1 hX hbl hbA hS h1 (dd D_law_5 9 rfl) ?_
  refine lawO (rest := []) F hK hAb (c_X8_holds D cA ax x 20000 (xs (Int32.toNatClampNeg (i + (1 : Int32)))) _ e1) lk_L_35 (Nat.le_of_ble_eq_true rfl) (rcv_8 hK hP (q0 := 0) (gL (xp_0 cA ax x))) rfl hl rfl (Nat.le_of_ble_eq_true rfl) (dd D_law_5 10 rfl) ⟨by omega, by omega⟩ (preP hP) hS ?_
  refine lv_pop F.1 F.2.1 (dd D_law_5 11 rfl) rfl ?_
  refine lv_aload_n F.1 F.2.1 (dd D_law_5 12 rfl) rfl (lv_at hl 1 rfl) ?_
  refine lv_aload_n F.1 F.2.1 (dd D_law_5 13 rfl) rfl (lv_at hl 3 rfl) ?_
  refine lv_iload_n F.1 F.2.1 (dd D_law_5 14 rfl) rfl (lv_at hl 0 rfl) ?_
  refine lv_iconst (v := (1 : Int32)) F.1 F.2.1 (dd D_law_5 15 rfl) ki_1 ?_
  refine lv_iadd F.1 F.2.1 (dd D_law_5 16 rfl) ?_
  refine va_sld F.1 F.2.1 hX hbl hbA hS h1 (dd D_law_5 17 rfl) ?_
  refine lawO (rest := []) F hK hAb (c_X9_holds D cA am y 20000 (xs (Int32.toNatClampNeg (i + (1 : Int32)))) _ e2) lk_L_39 (Nat.le_of_ble_eq_true rfl) (rcv_9 hK hP (q0 := 63 + (0)) (gR (xp_len cA ax x) (gL (mp_0 cA am y)))) rfl hl rfl (Nat.le_of_ble_eq_true rfl) (dd D_law_5 18 rfl) ⟨by omega, by omega⟩ (preP (sufP hP)) hS ?_
  refine lv_pop F.1 F.2.1 (dd D_law_5 19 rfl) rfl ?_
  refine lv_goto (tgt := 2310) F.1 F.2.1 (dd D_law_5 20 rfl) rfl ?_
  exact kk x y H locs _ _ hP hD hS hR (by omega) (by omega)
set_option maxHeartbeats 4000000 in
set_option maxRecDepth 100000 in
theorem case_5 (G : LG p m c s b L xs D cA) (h1 : vp_in (i + (1 : Int32)) L) (h2 : vp_in (i + (2 : Int32)) L) (h3 : vp_in (i + (3 : Int32)) L) (h4 : vp_in (i + (4 : Int32)) L) (h5 : vp_in (i + (5 : Int32)) L) (h6 : vp_in (i + (6 : Int32)) L) (hP : va_P D vwCl (xW cA ax x ++ (mW cA am y ++ KT)) H) (hD : va_D (AL s) (xW cA ax x ++ (mW cA am y ++ KT))) (hS : va_S (AL s) s.heap H locs) (hR : Rel x y ka ta mk) (hc : cells + 40 ≤ 600000 ∧ slots + 800 ≤ 7302250) (hl : lv_has ls 4 [(3, .int i), (2, .ref (am 0)), (1, .ref (ax 0)), (0, .ref b)])
    (kk : ∀ (x' : XS) (y' : MS) (H' : Heap) (locs' : List Loc) (cells' slots' : Nat), va_P D vwCl (xW cA ax x' ++ (mW cA am y' ++ KT)) H' → va_D (AL s) (xW cA ax x' ++ (mW cA am y' ++ KT)) → va_S (AL s) s.heap H' locs' → Rel x' y' ka ta mk → cells' ≤ cells + 40 → slots' ≤ slots + 800 → W p l e room_1 s m #[Value.ref b] below meth c H' locs' cells' slots' Q (F0 m 2310 ls [])) : W p l e room_1 s m #[Value.ref b] below meth c H locs cells slots Q (F0 m 523 ls []) := by
  obtain ⟨F, hK, hE, hX, hbl, e9⟩ := G
  obtain ⟨hc1, hc2⟩ := hc
  have hA : ∀ q, s.heap.size ≤ q → AL s q := fun _ h => h
  have hAb : ∀ q, AL s q → cA 9 ≤ q := fun q h => by rw [e9]; exact h
  have hbA : ¬ AL s b := Nat.not_le.mpr hbl
  obtain ⟨r, x', y', e1, e2, hR'⟩ := ok_evening (n := 20000) hR (xs (Int32.toNatClampNeg (i + (1 : Int32)))) (xs (Int32.toNatClampNeg (i + (2 : Int32)))) (xs (Int32.toNatClampNeg (i + (3 : Int32))))
  refine lv_aload_n F.1 F.2.1 (dd D_law_5 21 rfl) rfl (lv_at hl 2 rfl) ?_
  refine lv_aload_n F.1 F.2.1 (dd D_law_5 22 rfl) rfl (lv_at hl 3 rfl) ?_
  refine lv_iload_n F.1 F.2.1 (dd D_law_5 23 rfl) rfl (lv_at hl 0 rfl) ?_
  refine lv_iconst (v := (1 : Int32)) F.1 F.2.1 (dd D_law_5 24 rfl) ki_1 ?_
  refine lv_iadd F.1 F.2.1 (dd D_law_5 25 rfl) ?_
  refine va_sld F.1 F.2.1 hX hbl hbA hS h1 (dd D_law_5 26 rfl) ?_
  refine lv_aload_n F.1 F.2.1 (dd D_law_5 27 rfl) rfl (lv_at hl 3 rfl) ?_
  refine lv_iload_n F.1 F.2.1 (dd D_law_5 28 rfl) rfl (lv_at hl 0 rfl) ?_
  refine lv_iconst (v := (2 : Int32)) F.1 F.2.1 (dd D_law_5 29 rfl) ki_2 ?_
  refine lv_iadd F.1 F.2.1 (dd D_law_5 30 rfl) ?_
  refine va_sld F.1 F.2.1 hX hbl hbA hS h2 (dd D_law_5 31 rfl) ?_
  refine lv_aload_n F.1 F.2.1 (dd D_law_5 32 rfl) rfl (lv_at hl 3 rfl) ?_
  refine lv_iload_n F.1 F.2.1 (dd D_law_5 33 rfl) rfl (lv_at hl 0 rfl) ?_
  refine lv_iconst (v := (3 : Int32)) F.1 F.2.1 (dd D_law_5 34 rfl) ki_3 ?_
  refine lv_iadd F.1 F.2.1 (dd D_law_5 35 rfl) ?_
  refine va_sld F.1 F.2.1 hX hbl hbA hS h3 (dd D_law_5 36 rfl) ?_
  refine lawW0 (rest := []) F hK hA hAb (c_X8_evening D cA ax x 20000 (xs (Int32.toNatClampNeg (i + (1 : Int32)))) (xs (Int32.toNatClampNeg (i + (2 : Int32)))) (xs (Int32.toNatClampNeg (i + (3 : Int32)))) _ e1) lk_L_40 (Nat.le_of_ble_eq_true rfl) (rcv_8 hK hP (q0 := 0) (gL (xp_0 cA ax x))) rfl hl rfl (Nat.le_of_ble_eq_true rfl) (dd D_law_5 37 rfl) ⟨by omega, by omega⟩ hP hD hS (fun H locs hP hD hS => ?_)
  refine lv_pop F.1 F.2.1 (dd D_law_5 38 rfl) rfl ?_
  refine lv_aload_n F.1 F.2.1 (dd D_law_5 39 rfl) rfl (lv_at hl 1 rfl) ?_
  refine lv_aload_n F.1 F.2.1 (dd D_law_6 0 rfl) rfl (lv_at hl 3 rfl) ?_
  refine lv_iload_n F.1 F.2.1 (dd D_law_6 1 rfl) rfl (lv_at hl 0 rfl) ?_
  refine lv_iconst (v := (1 : Int32)) F.1 F.2.1 (dd D_law_6 2 rfl) ki_1 ?_
  refine lv_iadd F.1 F.2.1 (dd D_law_6 3 rfl) ?_
  refine va_sld F.1 F.2.1 hX hbl hbA hS h1 (dd D_law_6 4 rfl) ?_
  refine lv_aload_n F.1 F.2.1 (dd D_law_6 5 rfl) rfl (lv_at hl 3 rfl) ?_
  refine lv_iload_n F.1 F.2.1 (dd D_law_6 6 rfl) rfl (lv_at hl 0 rfl) ?_
  refine lv_iconst (v := (2 : Int32)) F.1 F.2.1 (dd D_law_6 7 rfl) ki_2 ?_
  refine lv_iadd F.1 F.2.1 (dd D_law_6 8 rfl) ?_
  refine va_sld F.1 F.2.1 hX hbl hbA hS h2 (dd D_law_6 9 rfl) ?_
  refine lv_aload_n F.1 F.2.1 (dd D_law_6 10 rfl) rfl (lv_at hl 3 rfl) ?_
  refine lv_iload_n F.1 F.2.1 (dd D_law_6 11 rfl) rfl (lv_at hl 0 rfl) ?_
  refine lv_iconst (v := (3 : Int32)) F.1 F.2.1 (dd D_law_6 12 rfl) ki_3 ?_
  refine lv_iadd F.1 F.2.1 (dd D_law_6 13 rfl) ?_
  refine va_sld F.1 F.2.1 hX hbl hbA hS h3 (dd D_law_6 14 rfl) ?_
  refine lawW (rest := []) F hK hA hAb (c_X9_evening D cA am y 20000 (xs (Int32.toNatClampNeg (i + (1 : Int32)))) (xs (Int32.toNatClampNeg (i + (2 : Int32)))) (xs (Int32.toNatClampNeg (i + (3 : Int32)))) _ e2) lk_L_43 (Nat.le_of_ble_eq_true rfl) (rcv_9 hK hP (q0 := 63 + (0)) (gR (xp_len cA ax x') (gL (mp_0 cA am y)))) rfl hl rfl (Nat.le_of_ble_eq_true rfl) (dd D_law_6 15 rfl) ⟨by omega, by omega⟩ hP hD hS (fun H locs hP hD hS => ?_)
  refine lv_pop F.1 F.2.1 (dd D_law_6 16 rfl) rfl ?_
  refine lv_goto (tgt := 2310) F.1 F.2.1 (dd D_law_6 17 rfl) rfl ?_
  exact kk x' y' H locs _ _ hP hD hS hR' (by omega) (by omega)
set_option maxHeartbeats 4000000 in
set_option maxRecDepth 100000 in
theorem case_6 (G : LG p m c s b L xs D cA) (h1 : vp_in (i + (1 : Int32)) L) (h2 : vp_in (i + (2 : Int32)) L) (h3 : vp_in (i + (3 : Int32)) L) (h4 : vp_in (i + (4 : Int32)) L) (h5 : vp_in (i + (5 : Int32)) L) (h6 : vp_in (i + (6 : Int32)) L) (hP : va_P D vwCl (xW cA ax x ++ (mW cA am y ++ KT)) H) (hD : va_D (AL s) (xW cA ax x ++ (mW cA am y ++ KT))) (hS : va_S (AL s) s.heap H locs) (hR : Rel x y ka ta mk) (hc : cells + 40 ≤ 600000 ∧ slots + 800 ≤ 7302250) (hl : lv_has ls 4 [(3, .int i), (2, .ref (am 0)), (1, .ref (ax 0)), (0, .ref b)])
    (kk : ∀ (x' : XS) (y' : MS) (H' : Heap) (locs' : List Loc) (cells' slots' : Nat), va_P D vwCl (xW cA ax x' ++ (mW cA am y' ++ KT)) H' → va_D (AL s) (xW cA ax x' ++ (mW cA am y' ++ KT)) → va_S (AL s) s.heap H' locs' → Rel x' y' ka ta mk → cells' ≤ cells + 40 → slots' ≤ slots + 800 → W p l e room_1 s m #[Value.ref b] below meth c H' locs' cells' slots' Q (F0 m 2310 ls [])) : W p l e room_1 s m #[Value.ref b] below meth c H locs cells slots Q (F0 m 566 ls []) := by
  obtain ⟨F, hK, hE, hX, hbl, e9⟩ := G
  obtain ⟨hc1, hc2⟩ := hc
  have hA : ∀ q, s.heap.size ≤ q → AL s q := fun _ h => h
  have hAb : ∀ q, AL s q → cA 9 ≤ q := fun q h => by rw [e9]; exact h
  have hbA : ¬ AL s b := Nat.not_le.mpr hbl
  obtain ⟨r, x', y', e1, e2, hR'⟩ := ok_says (n := 20000) hR (Nat.le_refl _) (xs (Int32.toNatClampNeg (i + (1 : Int32)))) (xs (Int32.toNatClampNeg (i + (2 : Int32))))
  refine lv_aload_n F.1 F.2.1 (dd D_law_6 18 rfl) rfl (lv_at hl 2 rfl) ?_
  refine lv_aload_n F.1 F.2.1 (dd D_law_6 19 rfl) rfl (lv_at hl 3 rfl) ?_
  refine lv_iload_n F.1 F.2.1 (dd D_law_6 20 rfl) rfl (lv_at hl 0 rfl) ?_
  refine lv_iconst (v := (1 : Int32)) F.1 F.2.1 (dd D_law_6 21 rfl) ki_1 ?_
  refine lv_iadd F.1 F.2.1 (dd D_law_6 22 rfl) ?_
  refine va_sld F.1 F.2.1 hX hbl hbA hS h1 (dd D_law_6 23 rfl) ?_
  refine lv_aload_n F.1 F.2.1 (dd D_law_6 24 rfl) rfl (lv_at hl 3 rfl) ?_
  refine lv_iload_n F.1 F.2.1 (dd D_law_6 25 rfl) rfl (lv_at hl 0 rfl) ?_
  refine lv_iconst (v := (2 : Int32)) F.1 F.2.1 (dd D_law_6 26 rfl) ki_2 ?_
  refine lv_iadd F.1 F.2.1 (dd D_law_6 27 rfl) ?_
  refine va_sld F.1 F.2.1 hX hbl hbA hS h2 (dd D_law_6 28 rfl) ?_
  refine lawW0 (rest := []) F hK hA hAb (c_X8_says D cA ax x 20000 (xs (Int32.toNatClampNeg (i + (1 : Int32)))) (xs (Int32.toNatClampNeg (i + (2 : Int32)))) _ e1) lk_L_44 (Nat.le_of_ble_eq_true rfl) (rcv_8 hK hP (q0 := 0) (gL (xp_0 cA ax x))) rfl hl rfl (Nat.le_of_ble_eq_true rfl) (dd D_law_6 29 rfl) ⟨by omega, by omega⟩ hP hD hS (fun H locs hP hD hS => ?_)
  refine lv_pop F.1 F.2.1 (dd D_law_6 30 rfl) rfl ?_
  refine lv_aload_n F.1 F.2.1 (dd D_law_6 31 rfl) rfl (lv_at hl 1 rfl) ?_
  refine lv_aload_n F.1 F.2.1 (dd D_law_6 32 rfl) rfl (lv_at hl 3 rfl) ?_
  refine lv_iload_n F.1 F.2.1 (dd D_law_6 33 rfl) rfl (lv_at hl 0 rfl) ?_
  refine lv_iconst (v := (1 : Int32)) F.1 F.2.1 (dd D_law_6 34 rfl) ki_1 ?_
  refine lv_iadd F.1 F.2.1 (dd D_law_6 35 rfl) ?_
  refine va_sld F.1 F.2.1 hX hbl hbA hS h1 (dd D_law_6 36 rfl) ?_
  refine lv_aload_n F.1 F.2.1 (dd D_law_6 37 rfl) rfl (lv_at hl 3 rfl) ?_
  refine lv_iload_n F.1 F.2.1 (dd D_law_6 38 rfl) rfl (lv_at hl 0 rfl) ?_
  refine lv_iconst (v := (2 : Int32)) F.1 F.2.1 (dd D_law_6 39 rfl) ki_2 ?_
  refine lv_iadd F.1 F.2.1 (dd D_law_7 0 rfl) ?_
  refine va_sld F.1 F.2.1 hX hbl hbA hS h2 (dd D_law_7 1 rfl) ?_
  refine lawW (rest := []) F hK hA hAb (c_X9_says D cA am y 20000 (xs (Int32.toNatClampNeg (i + (1 : Int32)))) (xs (Int32.toNatClampNeg (i + (2 : Int32)))) _ e2) lk_L_48 (Nat.le_of_ble_eq_true rfl) (rcv_9 hK hP (q0 := 63 + (0)) (gR (xp_len cA ax x') (gL (mp_0 cA am y)))) rfl hl rfl (Nat.le_of_ble_eq_true rfl) (dd D_law_7 2 rfl) ⟨by omega, by omega⟩ hP hD hS (fun H locs hP hD hS => ?_)
  refine lv_pop F.1 F.2.1 (dd D_law_7 3 rfl) rfl ?_
  refine lv_goto (tgt := 2310) F.1 F.2.1 (dd D_law_7 4 rfl) rfl ?_
  exact kk x' y' H locs _ _ hP hD hS hR' (by omega) (by omega)
set_option maxHeartbeats 4000000 in
set_option maxRecDepth 100000 in
theorem case_7 (G : LG p m c s b L xs D cA) (h1 : vp_in (i + (1 : Int32)) L) (h2 : vp_in (i + (2 : Int32)) L) (h3 : vp_in (i + (3 : Int32)) L) (h4 : vp_in (i + (4 : Int32)) L) (h5 : vp_in (i + (5 : Int32)) L) (h6 : vp_in (i + (6 : Int32)) L) (hP : va_P D vwCl (xW cA ax x ++ (mW cA am y ++ KT)) H) (hD : va_D (AL s) (xW cA ax x ++ (mW cA am y ++ KT))) (hS : va_S (AL s) s.heap H locs) (hR : Rel x y ka ta mk) (hc : cells + 40 ≤ 600000 ∧ slots + 800 ≤ 7302250) (hl : lv_has ls 4 [(3, .int i), (2, .ref (am 0)), (1, .ref (ax 0)), (0, .ref b)])
    (kk : ∀ (x' : XS) (y' : MS) (H' : Heap) (locs' : List Loc) (cells' slots' : Nat), va_P D vwCl (xW cA ax x' ++ (mW cA am y' ++ KT)) H' → va_D (AL s) (xW cA ax x' ++ (mW cA am y' ++ KT)) → va_S (AL s) s.heap H' locs' → Rel x' y' ka ta mk → cells' ≤ cells + 40 → slots' ≤ slots + 800 → W p l e room_1 s m #[Value.ref b] below meth c H' locs' cells' slots' Q (F0 m 2310 ls [])) : W p l e room_1 s m #[Value.ref b] below meth c H locs cells slots Q (F0 m 599 ls []) := by
  obtain ⟨F, hK, hE, hX, hbl, e9⟩ := G
  obtain ⟨hc1, hc2⟩ := hc
  have hA : ∀ q, s.heap.size ≤ q → AL s q := fun _ h => h
  have hAb : ∀ q, AL s q → cA 9 ≤ q := fun q h => by rw [e9]; exact h
  have hbA : ¬ AL s b := Nat.not_le.mpr hbl
  obtain ⟨r, x', y', e1, e2, hR'⟩ := ok_isSo (n := 20000) hR (Nat.le_refl _) (xs (Int32.toNatClampNeg (i + (1 : Int32))))
  refine lv_aload_n F.1 F.2.1 (dd D_law_7 5 rfl) rfl (lv_at hl 2 rfl) ?_
  refine lv_aload_n F.1 F.2.1 (dd D_law_7 6 rfl) rfl (lv_at hl 3 rfl) ?_
  refine lv_iload_n F.1 F.2.1 (dd D_law_7 7 rfl) rfl (lv_at hl 0 rfl) ?_
  refine lv_iconst (v := (1 : Int32)) F.1 F.2.1 (dd D_law_7 8 rfl) ki_1 ?_
  refine lv_iadd F.1 F.2.1 (dd D_law_7 9 rfl) ?_
  refine va_sld F.1 F.2.1 hX hbl hbA hS h1 (dd D_law_7 10 rfl) ?_
  refine lawW0 (rest := []) F hK hA hAb (c_X8_isSo D cA ax x 20000 (xs (Int32.toNatClampNeg (i + (1 : Int32)))) _ e1) lk_L_49 (Nat.le_of_ble_eq_true rfl) (rcv_8 hK hP (q0 := 0) (gL (xp_0 cA ax x))) rfl hl rfl (Nat.le_of_ble_eq_true rfl) (dd D_law_7 11 rfl) ⟨by omega, by omega⟩ hP hD hS (fun H locs hP hD hS => ?_)
  refine lv_pop F.1 F.2.1 (dd D_law_7 12 rfl) rfl ?_
  refine lv_aload_n F.1 F.2.1 (dd D_law_7 13 rfl) rfl (lv_at hl 1 rfl) ?_
  refine lv_aload_n F.1 F.2.1 (dd D_law_7 14 rfl) rfl (lv_at hl 3 rfl) ?_
  refine lv_iload_n F.1 F.2.1 (dd D_law_7 15 rfl) rfl (lv_at hl 0 rfl) ?_
  refine lv_iconst (v := (1 : Int32)) F.1 F.2.1 (dd D_law_7 16 rfl) ki_1 ?_
  refine lv_iadd F.1 F.2.1 (dd D_law_7 17 rfl) ?_
  refine va_sld F.1 F.2.1 hX hbl hbA hS h1 (dd D_law_7 18 rfl) ?_
  refine lawW (rest := []) F hK hA hAb (c_X9_isSo D cA am y 20000 (xs (Int32.toNatClampNeg (i + (1 : Int32)))) _ e2) lk_L_52 (Nat.le_of_ble_eq_true rfl) (rcv_9 hK hP (q0 := 63 + (0)) (gR (xp_len cA ax x') (gL (mp_0 cA am y)))) rfl hl rfl (Nat.le_of_ble_eq_true rfl) (dd D_law_7 19 rfl) ⟨by omega, by omega⟩ hP hD hS (fun H locs hP hD hS => ?_)
  refine lv_pop F.1 F.2.1 (dd D_law_7 20 rfl) rfl ?_
  refine lv_goto (tgt := 2310) F.1 F.2.1 (dd D_law_7 21 rfl) rfl ?_
  exact kk x' y' H locs _ _ hP hD hS hR' (by omega) (by omega)
set_option maxHeartbeats 4000000 in
set_option maxRecDepth 100000 in
theorem case_8 (G : LG p m c s b L xs D cA) (h1 : vp_in (i + (1 : Int32)) L) (h2 : vp_in (i + (2 : Int32)) L) (h3 : vp_in (i + (3 : Int32)) L) (h4 : vp_in (i + (4 : Int32)) L) (h5 : vp_in (i + (5 : Int32)) L) (h6 : vp_in (i + (6 : Int32)) L) (hP : va_P D vwCl (xW cA ax x ++ (mW cA am y ++ KT)) H) (hD : va_D (AL s) (xW cA ax x ++ (mW cA am y ++ KT))) (hS : va_S (AL s) s.heap H locs) (hR : Rel x y ka ta mk) (hc : cells + 40 ≤ 600000 ∧ slots + 800 ≤ 7302250) (hl : lv_has ls 4 [(3, .int i), (2, .ref (am 0)), (1, .ref (ax 0)), (0, .ref b)])
    (kk : ∀ (x' : XS) (y' : MS) (H' : Heap) (locs' : List Loc) (cells' slots' : Nat), va_P D vwCl (xW cA ax x' ++ (mW cA am y' ++ KT)) H' → va_D (AL s) (xW cA ax x' ++ (mW cA am y' ++ KT)) → va_S (AL s) s.heap H' locs' → Rel x' y' ka ta mk → cells' ≤ cells + 40 → slots' ≤ slots + 800 → W p l e room_1 s m #[Value.ref b] below meth c H' locs' cells' slots' Q (F0 m 2310 ls [])) : W p l e room_1 s m #[Value.ref b] below meth c H locs cells slots Q (F0 m 622 ls []) := by
  obtain ⟨F, hK, hE, hX, hbl, e9⟩ := G
  obtain ⟨hc1, hc2⟩ := hc
  have hA : ∀ q, s.heap.size ≤ q → AL s q := fun _ h => h
  have hAb : ∀ q, AL s q → cA 9 ≤ q := fun q h => by rw [e9]; exact h
  have hbA : ¬ AL s b := Nat.not_le.mpr hbl
  obtain ⟨r, x', y', e1, e2, hR'⟩ := ok_ask (n := 20000) hR (xs (Int32.toNatClampNeg (i + (1 : Int32)))) (xs (Int32.toNatClampNeg (i + (2 : Int32))))
  refine lv_aload_n F.1 F.2.1 (dd D_law_7 22 rfl) rfl (lv_at hl 2 rfl) ?_
  refine lv_aload_n F.1 F.2.1 (dd D_law_7 23 rfl) rfl (lv_at hl 3 rfl) ?_
  refine lv_iload_n F.1 F.2.1 (dd D_law_7 24 rfl) rfl (lv_at hl 0 rfl) ?_
  refine lv_iconst (v := (1 : Int32)) F.1 F.2.1 (dd D_law_7 25 rfl) ki_1 ?_
  refine lv_iadd F.1 F.2.1 (dd D_law_7 26 rfl) ?_
  refine va_sld F.1 F.2.1 hX hbl hbA hS h1 (dd D_law_7 27 rfl) ?_
  refine lv_aload_n F.1 F.2.1 (dd D_law_7 28 rfl) rfl (lv_at hl 3 rfl) ?_
  refine lv_iload_n F.1 F.2.1 (dd D_law_7 29 rfl) rfl (lv_at hl 0 rfl) ?_
  refine lv_iconst (v := (2 : Int32)) F.1 F.2.1 (dd D_law_7 30 rfl) ki_2 ?_
  refine lv_iadd F.1 F.2.1 (dd D_law_7 31 rfl) ?_
  refine va_sld F.1 F.2.1 hX hbl hbA hS h2 (dd D_law_7 32 rfl) ?_
  refine lawW0 (rest := []) F hK hA hAb (c_X8_ask D cA ax x 20000 (xs (Int32.toNatClampNeg (i + (1 : Int32)))) (xs (Int32.toNatClampNeg (i + (2 : Int32)))) _ e1) lk_L_53 (Nat.le_of_ble_eq_true rfl) (rcv_8 hK hP (q0 := 0) (gL (xp_0 cA ax x))) rfl hl rfl (Nat.le_of_ble_eq_true rfl) (dd D_law_7 33 rfl) ⟨by omega, by omega⟩ hP hD hS (fun H locs hP hD hS => ?_)
  refine lv_pop F.1 F.2.1 (dd D_law_7 34 rfl) rfl ?_
  refine lv_aload_n F.1 F.2.1 (dd D_law_7 35 rfl) rfl (lv_at hl 1 rfl) ?_
  refine lv_aload_n F.1 F.2.1 (dd D_law_7 36 rfl) rfl (lv_at hl 3 rfl) ?_
  refine lv_iload_n F.1 F.2.1 (dd D_law_7 37 rfl) rfl (lv_at hl 0 rfl) ?_
  refine lv_iconst (v := (1 : Int32)) F.1 F.2.1 (dd D_law_7 38 rfl) ki_1 ?_
  refine lv_iadd F.1 F.2.1 (dd D_law_7 39 rfl) ?_
  refine va_sld F.1 F.2.1 hX hbl hbA hS h1 (dd D_law_8 0 rfl) ?_
  refine lv_aload_n F.1 F.2.1 (dd D_law_8 1 rfl) rfl (lv_at hl 3 rfl) ?_
  refine lv_iload_n F.1 F.2.1 (dd D_law_8 2 rfl) rfl (lv_at hl 0 rfl) ?_
  refine lv_iconst (v := (2 : Int32)) F.1 F.2.1 (dd D_law_8 3 rfl) ki_2 ?_
  refine lv_iadd F.1 F.2.1 (dd D_law_8 4 rfl) ?_
  refine va_sld F.1 F.2.1 hX hbl hbA hS h2 (dd D_law_8 5 rfl) ?_
  refine lawW (rest := []) F hK hA hAb (c_X9_ask D cA am y 20000 (xs (Int32.toNatClampNeg (i + (1 : Int32)))) (xs (Int32.toNatClampNeg (i + (2 : Int32)))) _ e2) lk_L_56 (Nat.le_of_ble_eq_true rfl) (rcv_9 hK hP (q0 := 63 + (0)) (gR (xp_len cA ax x') (gL (mp_0 cA am y)))) rfl hl rfl (Nat.le_of_ble_eq_true rfl) (dd D_law_8 6 rfl) ⟨by omega, by omega⟩ hP hD hS (fun H locs hP hD hS => ?_)
  refine lv_pop F.1 F.2.1 (dd D_law_8 7 rfl) rfl ?_
  refine lv_goto (tgt := 2310) F.1 F.2.1 (dd D_law_8 8 rfl) rfl ?_
  exact kk x' y' H locs _ _ hP hD hS hR' (by omega) (by omega)
set_option maxHeartbeats 4000000 in
set_option maxRecDepth 100000 in
theorem case_9 (G : LG p m c s b L xs D cA) (h1 : vp_in (i + (1 : Int32)) L) (h2 : vp_in (i + (2 : Int32)) L) (h3 : vp_in (i + (3 : Int32)) L) (h4 : vp_in (i + (4 : Int32)) L) (h5 : vp_in (i + (5 : Int32)) L) (h6 : vp_in (i + (6 : Int32)) L) (hP : va_P D vwCl (xW cA ax x ++ (mW cA am y ++ KT)) H) (hD : va_D (AL s) (xW cA ax x ++ (mW cA am y ++ KT))) (hS : va_S (AL s) s.heap H locs) (hR : Rel x y ka ta mk) (hc : cells + 40 ≤ 600000 ∧ slots + 800 ≤ 7302250) (hl : lv_has ls 4 [(3, .int i), (2, .ref (am 0)), (1, .ref (ax 0)), (0, .ref b)])
    (kk : ∀ (x' : XS) (y' : MS) (H' : Heap) (locs' : List Loc) (cells' slots' : Nat), va_P D vwCl (xW cA ax x' ++ (mW cA am y' ++ KT)) H' → va_D (AL s) (xW cA ax x' ++ (mW cA am y' ++ KT)) → va_S (AL s) s.heap H' locs' → Rel x' y' ka ta mk → cells' ≤ cells + 40 → slots' ≤ slots + 800 → W p l e room_1 s m #[Value.ref b] below meth c H' locs' cells' slots' Q (F0 m 2310 ls [])) : W p l e room_1 s m #[Value.ref b] below meth c H locs cells slots Q (F0 m 655 ls []) := by
  obtain ⟨F, hK, hE, hX, hbl, e9⟩ := G
  obtain ⟨hc1, hc2⟩ := hc
  have hA : ∀ q, s.heap.size ≤ q → AL s q := fun _ h => h
  have hAb : ∀ q, AL s q → cA 9 ≤ q := fun q h => by rw [e9]; exact h
  have hbA : ¬ AL s b := Nat.not_le.mpr hbl
  obtain ⟨r, x', y', e1, e2, hR'⟩ := ok_notch (n := 20000) hR (Nat.le_refl _) (xs (Int32.toNatClampNeg (i + (1 : Int32)))) (xs (Int32.toNatClampNeg (i + (2 : Int32)))) (xs (Int32.toNatClampNeg (i + (3 : Int32))))
  refine lv_aload_n F.1 F.2.1 (dd D_law_8 9 rfl) rfl (lv_at hl 2 rfl) ?_
  refine lv_aload_n F.1 F.2.1 (dd D_law_8 10 rfl) rfl (lv_at hl 3 rfl) ?_
  refine lv_iload_n F.1 F.2.1 (dd D_law_8 11 rfl) rfl (lv_at hl 0 rfl) ?_
  refine lv_iconst (v := (1 : Int32)) F.1 F.2.1 (dd D_law_8 12 rfl) ki_1 ?_
  refine lv_iadd F.1 F.2.1 (dd D_law_8 13 rfl) ?_
  refine va_sld F.1 F.2.1 hX hbl hbA hS h1 (dd D_law_8 14 rfl) ?_
  refine lv_aload_n F.1 F.2.1 (dd D_law_8 15 rfl) rfl (lv_at hl 3 rfl) ?_
  refine lv_iload_n F.1 F.2.1 (dd D_law_8 16 rfl) rfl (lv_at hl 0 rfl) ?_
  refine lv_iconst (v := (2 : Int32)) F.1 F.2.1 (dd D_law_8 17 rfl) ki_2 ?_
  refine lv_iadd F.1 F.2.1 (dd D_law_8 18 rfl) ?_
  refine va_sld F.1 F.2.1 hX hbl hbA hS h2 (dd D_law_8 19 rfl) ?_
  refine lv_aload_n F.1 F.2.1 (dd D_law_8 20 rfl) rfl (lv_at hl 3 rfl) ?_
  refine lv_iload_n F.1 F.2.1 (dd D_law_8 21 rfl) rfl (lv_at hl 0 rfl) ?_
  refine lv_iconst (v := (3 : Int32)) F.1 F.2.1 (dd D_law_8 22 rfl) ki_3 ?_
  refine lv_iadd F.1 F.2.1 (dd D_law_8 23 rfl) ?_
  refine va_sld F.1 F.2.1 hX hbl hbA hS h3 (dd D_law_8 24 rfl) ?_
  refine lawW0 (rest := []) F hK hA hAb (c_X8_notch D cA ax x 20000 (xs (Int32.toNatClampNeg (i + (1 : Int32)))) (xs (Int32.toNatClampNeg (i + (2 : Int32)))) (xs (Int32.toNatClampNeg (i + (3 : Int32)))) _ e1) lk_L_57 (Nat.le_of_ble_eq_true rfl) (rcv_8 hK hP (q0 := 0) (gL (xp_0 cA ax x))) rfl hl rfl (Nat.le_of_ble_eq_true rfl) (dd D_law_8 25 rfl) ⟨by omega, by omega⟩ hP hD hS (fun H locs hP hD hS => ?_)
  refine lv_pop F.1 F.2.1 (dd D_law_8 26 rfl) rfl ?_
  refine lv_aload_n F.1 F.2.1 (dd D_law_8 27 rfl) rfl (lv_at hl 1 rfl) ?_
  refine lv_aload_n F.1 F.2.1 (dd D_law_8 28 rfl) rfl (lv_at hl 3 rfl) ?_
  refine lv_iload_n F.1 F.2.1 (dd D_law_8 29 rfl) rfl (lv_at hl 0 rfl) ?_
  refine lv_iconst (v := (1 : Int32)) F.1 F.2.1 (dd D_law_8 30 rfl) ki_1 ?_
  refine lv_iadd F.1 F.2.1 (dd D_law_8 31 rfl) ?_
  refine va_sld F.1 F.2.1 hX hbl hbA hS h1 (dd D_law_8 32 rfl) ?_
  refine lv_aload_n F.1 F.2.1 (dd D_law_8 33 rfl) rfl (lv_at hl 3 rfl) ?_
  refine lv_iload_n F.1 F.2.1 (dd D_law_8 34 rfl) rfl (lv_at hl 0 rfl) ?_
  refine lv_iconst (v := (2 : Int32)) F.1 F.2.1 (dd D_law_8 35 rfl) ki_2 ?_
  refine lv_iadd F.1 F.2.1 (dd D_law_8 36 rfl) ?_
  refine va_sld F.1 F.2.1 hX hbl hbA hS h2 (dd D_law_8 37 rfl) ?_
  refine lv_aload_n F.1 F.2.1 (dd D_law_8 38 rfl) rfl (lv_at hl 3 rfl) ?_
  refine lv_iload_n F.1 F.2.1 (dd D_law_8 39 rfl) rfl (lv_at hl 0 rfl) ?_
  refine lv_iconst (v := (3 : Int32)) F.1 F.2.1 (dd D_law_9 0 rfl) ki_3 ?_
  refine lv_iadd F.1 F.2.1 (dd D_law_9 1 rfl) ?_
  refine va_sld F.1 F.2.1 hX hbl hbA hS h3 (dd D_law_9 2 rfl) ?_
  refine lawW (rest := []) F hK hA hAb (c_X9_notch D cA am y 20000 (xs (Int32.toNatClampNeg (i + (1 : Int32)))) (xs (Int32.toNatClampNeg (i + (2 : Int32)))) (xs (Int32.toNatClampNeg (i + (3 : Int32)))) _ e2) lk_L_60 (Nat.le_of_ble_eq_true rfl) (rcv_9 hK hP (q0 := 63 + (0)) (gR (xp_len cA ax x') (gL (mp_0 cA am y)))) rfl hl rfl (Nat.le_of_ble_eq_true rfl) (dd D_law_9 3 rfl) ⟨by omega, by omega⟩ hP hD hS (fun H locs hP hD hS => ?_)
  refine lv_pop F.1 F.2.1 (dd D_law_9 4 rfl) rfl ?_
  refine lv_goto (tgt := 2310) F.1 F.2.1 (dd D_law_9 5 rfl) rfl ?_
  exact kk x' y' H locs _ _ hP hD hS hR' (by omega) (by omega)
set_option maxHeartbeats 4000000 in
set_option maxRecDepth 100000 in
theorem case_10 (G : LG p m c s b L xs D cA) (h1 : vp_in (i + (1 : Int32)) L) (h2 : vp_in (i + (2 : Int32)) L) (h3 : vp_in (i + (3 : Int32)) L) (h4 : vp_in (i + (4 : Int32)) L) (h5 : vp_in (i + (5 : Int32)) L) (h6 : vp_in (i + (6 : Int32)) L) (hP : va_P D vwCl (xW cA ax x ++ (mW cA am y ++ KT)) H) (hD : va_D (AL s) (xW cA ax x ++ (mW cA am y ++ KT))) (hS : va_S (AL s) s.heap H locs) (hR : Rel x y ka ta mk) (hc : cells + 40 ≤ 600000 ∧ slots + 800 ≤ 7302250) (hl : lv_has ls 4 [(3, .int i), (2, .ref (am 0)), (1, .ref (ax 0)), (0, .ref b)])
    (kk : ∀ (x' : XS) (y' : MS) (H' : Heap) (locs' : List Loc) (cells' slots' : Nat), va_P D vwCl (xW cA ax x' ++ (mW cA am y' ++ KT)) H' → va_D (AL s) (xW cA ax x' ++ (mW cA am y' ++ KT)) → va_S (AL s) s.heap H' locs' → Rel x' y' ka ta mk → cells' ≤ cells + 40 → slots' ≤ slots + 800 → W p l e room_1 s m #[Value.ref b] below meth c H' locs' cells' slots' Q (F0 m 2310 ls [])) : W p l e room_1 s m #[Value.ref b] below meth c H locs cells slots Q (F0 m 698 ls []) := by
  obtain ⟨F, hK, hE, hX, hbl, e9⟩ := G
  obtain ⟨hc1, hc2⟩ := hc
  have hA : ∀ q, s.heap.size ≤ q → AL s q := fun _ h => h
  have hAb : ∀ q, AL s q → cA 9 ≤ q := fun q h => by rw [e9]; exact h
  have hbA : ¬ AL s b := Nat.not_le.mpr hbl
  obtain ⟨r, x', y', e1, e2, hR'⟩ := ok_stone (n := 20000) hR (xs (Int32.toNatClampNeg (i + (1 : Int32))))
  refine lv_aload_n F.1 F.2.1 (dd D_law_9 6 rfl) rfl (lv_at hl 2 rfl) ?_
  refine lv_aload_n F.1 F.2.1 (dd D_law_9 7 rfl) rfl (lv_at hl 3 rfl) ?_
  refine lv_iload_n F.1 F.2.1 (dd D_law_9 8 rfl) rfl (lv_at hl 0 rfl) ?_
  refine lv_iconst (v := (1 : Int32)) F.1 F.2.1 (dd D_law_9 9 rfl) ki_1 ?_
  refine lv_iadd F.1 F.2.1 (dd D_law_9 10 rfl) ?_
  refine va_sld F.1 F.2.1 hX hbl hbA hS h1 (dd D_law_9 11 rfl) ?_
  refine lawW0 (rest := []) F hK hA hAb (c_X8_stone D cA ax x 20000 (xs (Int32.toNatClampNeg (i + (1 : Int32)))) _ e1) lk_L_61 (Nat.le_of_ble_eq_true rfl) (rcv_8 hK hP (q0 := 0) (gL (xp_0 cA ax x))) rfl hl rfl (Nat.le_of_ble_eq_true rfl) (dd D_law_9 12 rfl) ⟨by omega, by omega⟩ hP hD hS (fun H locs hP hD hS => ?_)
  refine lv_pop F.1 F.2.1 (dd D_law_9 13 rfl) rfl ?_
  refine lv_aload_n F.1 F.2.1 (dd D_law_9 14 rfl) rfl (lv_at hl 1 rfl) ?_
  refine lv_aload_n F.1 F.2.1 (dd D_law_9 15 rfl) rfl (lv_at hl 3 rfl) ?_
  refine lv_iload_n F.1 F.2.1 (dd D_law_9 16 rfl) rfl (lv_at hl 0 rfl) ?_
  refine lv_iconst (v := (1 : Int32)) F.1 F.2.1 (dd D_law_9 17 rfl) ki_1 ?_
  refine lv_iadd F.1 F.2.1 (dd D_law_9 18 rfl) ?_
  refine va_sld F.1 F.2.1 hX hbl hbA hS h1 (dd D_law_9 19 rfl) ?_
  refine lawW (rest := []) F hK hA hAb (c_X9_stone D cA am y 20000 (xs (Int32.toNatClampNeg (i + (1 : Int32)))) _ e2) lk_L_64 (Nat.le_of_ble_eq_true rfl) (rcv_9 hK hP (q0 := 63 + (0)) (gR (xp_len cA ax x') (gL (mp_0 cA am y)))) rfl hl rfl (Nat.le_of_ble_eq_true rfl) (dd D_law_9 20 rfl) ⟨by omega, by omega⟩ hP hD hS (fun H locs hP hD hS => ?_)
  refine lv_pop F.1 F.2.1 (dd D_law_9 21 rfl) rfl ?_
  refine lv_goto (tgt := 2310) F.1 F.2.1 (dd D_law_9 22 rfl) rfl ?_
  exact kk x' y' H locs _ _ hP hD hS hR' (by omega) (by omega)
set_option maxHeartbeats 4000000 in
set_option maxRecDepth 100000 in
theorem case_11 (G : LG p m c s b L xs D cA) (h1 : vp_in (i + (1 : Int32)) L) (h2 : vp_in (i + (2 : Int32)) L) (h3 : vp_in (i + (3 : Int32)) L) (h4 : vp_in (i + (4 : Int32)) L) (h5 : vp_in (i + (5 : Int32)) L) (h6 : vp_in (i + (6 : Int32)) L) (hP : va_P D vwCl (xW cA ax x ++ (mW cA am y ++ KT)) H) (hD : va_D (AL s) (xW cA ax x ++ (mW cA am y ++ KT))) (hS : va_S (AL s) s.heap H locs) (hR : Rel x y ka ta mk) (hc : cells + 40 ≤ 600000 ∧ slots + 800 ≤ 7302250) (hl : lv_has ls 4 [(3, .int i), (2, .ref (am 0)), (1, .ref (ax 0)), (0, .ref b)])
    (kk : ∀ (x' : XS) (y' : MS) (H' : Heap) (locs' : List Loc) (cells' slots' : Nat), va_P D vwCl (xW cA ax x' ++ (mW cA am y' ++ KT)) H' → va_D (AL s) (xW cA ax x' ++ (mW cA am y' ++ KT)) → va_S (AL s) s.heap H' locs' → Rel x' y' ka ta mk → cells' ≤ cells + 40 → slots' ≤ slots + 800 → W p l e room_1 s m #[Value.ref b] below meth c H' locs' cells' slots' Q (F0 m 2310 ls [])) : W p l e room_1 s m #[Value.ref b] below meth c H locs cells slots Q (F0 m 721 ls []) := by
  obtain ⟨F, hK, hE, hX, hbl, e9⟩ := G
  obtain ⟨hc1, hc2⟩ := hc
  have hA : ∀ q, s.heap.size ≤ q → AL s q := fun _ h => h
  have hAb : ∀ q, AL s q → cA 9 ≤ q := fun q h => by rw [e9]; exact h
  have hbA : ¬ AL s b := Nat.not_le.mpr hbl
  obtain ⟨r, x', y', e1, e2, hR'⟩ := ok_cloud (n := 20000) hR (Nat.le_refl _) (xs (Int32.toNatClampNeg (i + (1 : Int32))))
  refine lv_aload_n F.1 F.2.1 (dd D_law_9 23 rfl) rfl (lv_at hl 2 rfl) ?_
  refine lv_aload_n F.1 F.2.1 (dd D_law_9 24 rfl) rfl (lv_at hl 3 rfl) ?_
  refine lv_iload_n F.1 F.2.1 (dd D_law_9 25 rfl) rfl (lv_at hl 0 rfl) ?_
  refine lv_iconst (v := (1 : Int32)) F.1 F.2.1 (dd D_law_9 26 rfl) ki_1 ?_
  refine lv_iadd F.1 F.2.1 (dd D_law_9 27 rfl) ?_
  refine va_sld F.1 F.2.1 hX hbl hbA hS h1 (dd D_law_9 28 rfl) ?_
  refine lawW0 (rest := []) F hK hA hAb (c_X8_cloud D cA ax x 20000 (xs (Int32.toNatClampNeg (i + (1 : Int32)))) _ e1) lk_L_65 (Nat.le_of_ble_eq_true rfl) (rcv_8 hK hP (q0 := 0) (gL (xp_0 cA ax x))) rfl hl rfl (Nat.le_of_ble_eq_true rfl) (dd D_law_9 29 rfl) ⟨by omega, by omega⟩ hP hD hS (fun H locs hP hD hS => ?_)
  refine lv_pop F.1 F.2.1 (dd D_law_9 30 rfl) rfl ?_
  refine lv_aload_n F.1 F.2.1 (dd D_law_9 31 rfl) rfl (lv_at hl 1 rfl) ?_
  refine lv_aload_n F.1 F.2.1 (dd D_law_9 32 rfl) rfl (lv_at hl 3 rfl) ?_
  refine lv_iload_n F.1 F.2.1 (dd D_law_9 33 rfl) rfl (lv_at hl 0 rfl) ?_
  refine lv_iconst (v := (1 : Int32)) F.1 F.2.1 (dd D_law_9 34 rfl) ki_1 ?_
  refine lv_iadd F.1 F.2.1 (dd D_law_9 35 rfl) ?_
  refine va_sld F.1 F.2.1 hX hbl hbA hS h1 (dd D_law_9 36 rfl) ?_
  refine lawW (rest := []) F hK hA hAb (c_X9_cloud D cA am y 20000 (xs (Int32.toNatClampNeg (i + (1 : Int32)))) _ e2) lk_L_68 (Nat.le_of_ble_eq_true rfl) (rcv_9 hK hP (q0 := 63 + (0)) (gR (xp_len cA ax x') (gL (mp_0 cA am y)))) rfl hl rfl (Nat.le_of_ble_eq_true rfl) (dd D_law_9 37 rfl) ⟨by omega, by omega⟩ hP hD hS (fun H locs hP hD hS => ?_)
  refine lv_pop F.1 F.2.1 (dd D_law_9 38 rfl) rfl ?_
  refine lv_goto (tgt := 2310) F.1 F.2.1 (dd D_law_9 39 rfl) rfl ?_
  exact kk x' y' H locs _ _ hP hD hS hR' (by omega) (by omega)
set_option maxHeartbeats 4000000 in
set_option maxRecDepth 100000 in
theorem case_12 (G : LG p m c s b L xs D cA) (h1 : vp_in (i + (1 : Int32)) L) (h2 : vp_in (i + (2 : Int32)) L) (h3 : vp_in (i + (3 : Int32)) L) (h4 : vp_in (i + (4 : Int32)) L) (h5 : vp_in (i + (5 : Int32)) L) (h6 : vp_in (i + (6 : Int32)) L) (hP : va_P D vwCl (xW cA ax x ++ (mW cA am y ++ KT)) H) (hD : va_D (AL s) (xW cA ax x ++ (mW cA am y ++ KT))) (hS : va_S (AL s) s.heap H locs) (hR : Rel x y ka ta mk) (hc : cells + 40 ≤ 600000 ∧ slots + 800 ≤ 7302250) (hl : lv_has ls 4 [(3, .int i), (2, .ref (am 0)), (1, .ref (ax 0)), (0, .ref b)])
    (kk : ∀ (x' : XS) (y' : MS) (H' : Heap) (locs' : List Loc) (cells' slots' : Nat), va_P D vwCl (xW cA ax x' ++ (mW cA am y' ++ KT)) H' → va_D (AL s) (xW cA ax x' ++ (mW cA am y' ++ KT)) → va_S (AL s) s.heap H' locs' → Rel x' y' ka ta mk → cells' ≤ cells + 40 → slots' ≤ slots + 800 → W p l e room_1 s m #[Value.ref b] below meth c H' locs' cells' slots' Q (F0 m 2310 ls [])) : W p l e room_1 s m #[Value.ref b] below meth c H locs cells slots Q (F0 m 744 ls []) := by
  obtain ⟨F, hK, hE, hX, hbl, e9⟩ := G
  obtain ⟨hc1, hc2⟩ := hc
  have hA : ∀ q, s.heap.size ≤ q → AL s q := fun _ h => h
  have hAb : ∀ q, AL s q → cA 9 ≤ q := fun q h => by rw [e9]; exact h
  have hbA : ¬ AL s b := Nat.not_le.mpr hbl
  obtain ⟨r, x', y', e1, e2, hR'⟩ := ok_clear (n := 20000) hR (Nat.le_refl _) (xs (Int32.toNatClampNeg (i + (1 : Int32))))
  refine lv_aload_n F.1 F.2.1 (dd D_law_10 0 rfl) rfl (lv_at hl 2 rfl) ?_
  refine lv_aload_n F.1 F.2.1 (dd D_law_10 1 rfl) rfl (lv_at hl 3 rfl) ?_
  refine lv_iload_n F.1 F.2.1 (dd D_law_10 2 rfl) rfl (lv_at hl 0 rfl) ?_
  refine lv_iconst (v := (1 : Int32)) F.1 F.2.1 (dd D_law_10 3 rfl) ki_1 ?_
  refine lv_iadd F.1 F.2.1 (dd D_law_10 4 rfl) ?_
  refine va_sld F.1 F.2.1 hX hbl hbA hS h1 (dd D_law_10 5 rfl) ?_
  refine lawW0 (rest := []) F hK hA hAb (c_X8_clear D cA ax x 20000 (xs (Int32.toNatClampNeg (i + (1 : Int32)))) _ e1) lk_L_69 (Nat.le_of_ble_eq_true rfl) (rcv_8 hK hP (q0 := 0) (gL (xp_0 cA ax x))) rfl hl rfl (Nat.le_of_ble_eq_true rfl) (dd D_law_10 6 rfl) ⟨by omega, by omega⟩ hP hD hS (fun H locs hP hD hS => ?_)
  refine lv_pop F.1 F.2.1 (dd D_law_10 7 rfl) rfl ?_
  refine lv_aload_n F.1 F.2.1 (dd D_law_10 8 rfl) rfl (lv_at hl 1 rfl) ?_
  refine lv_aload_n F.1 F.2.1 (dd D_law_10 9 rfl) rfl (lv_at hl 3 rfl) ?_
  refine lv_iload_n F.1 F.2.1 (dd D_law_10 10 rfl) rfl (lv_at hl 0 rfl) ?_
  refine lv_iconst (v := (1 : Int32)) F.1 F.2.1 (dd D_law_10 11 rfl) ki_1 ?_
  refine lv_iadd F.1 F.2.1 (dd D_law_10 12 rfl) ?_
  refine va_sld F.1 F.2.1 hX hbl hbA hS h1 (dd D_law_10 13 rfl) ?_
  refine lawW (rest := []) F hK hA hAb (c_X9_clear D cA am y 20000 (xs (Int32.toNatClampNeg (i + (1 : Int32)))) _ e2) lk_L_72 (Nat.le_of_ble_eq_true rfl) (rcv_9 hK hP (q0 := 63 + (0)) (gR (xp_len cA ax x') (gL (mp_0 cA am y)))) rfl hl rfl (Nat.le_of_ble_eq_true rfl) (dd D_law_10 14 rfl) ⟨by omega, by omega⟩ hP hD hS (fun H locs hP hD hS => ?_)
  refine lv_pop F.1 F.2.1 (dd D_law_10 15 rfl) rfl ?_
  refine lv_goto (tgt := 2310) F.1 F.2.1 (dd D_law_10 16 rfl) rfl ?_
  exact kk x' y' H locs _ _ hP hD hS hR' (by omega) (by omega)
set_option maxHeartbeats 4000000 in
set_option maxRecDepth 100000 in
theorem case_13 (G : LG p m c s b L xs D cA) (h1 : vp_in (i + (1 : Int32)) L) (h2 : vp_in (i + (2 : Int32)) L) (h3 : vp_in (i + (3 : Int32)) L) (h4 : vp_in (i + (4 : Int32)) L) (h5 : vp_in (i + (5 : Int32)) L) (h6 : vp_in (i + (6 : Int32)) L) (hP : va_P D vwCl (xW cA ax x ++ (mW cA am y ++ KT)) H) (hD : va_D (AL s) (xW cA ax x ++ (mW cA am y ++ KT))) (hS : va_S (AL s) s.heap H locs) (hR : Rel x y ka ta mk) (hc : cells + 40 ≤ 600000 ∧ slots + 800 ≤ 7302250) (hl : lv_has ls 4 [(3, .int i), (2, .ref (am 0)), (1, .ref (ax 0)), (0, .ref b)])
    (kk : ∀ (x' : XS) (y' : MS) (H' : Heap) (locs' : List Loc) (cells' slots' : Nat), va_P D vwCl (xW cA ax x' ++ (mW cA am y' ++ KT)) H' → va_D (AL s) (xW cA ax x' ++ (mW cA am y' ++ KT)) → va_S (AL s) s.heap H' locs' → Rel x' y' ka ta mk → cells' ≤ cells + 40 → slots' ≤ slots + 800 → W p l e room_1 s m #[Value.ref b] below meth c H' locs' cells' slots' Q (F0 m 2310 ls [])) : W p l e room_1 s m #[Value.ref b] below meth c H locs cells slots Q (F0 m 767 ls []) := by
  obtain ⟨F, hK, hE, hX, hbl, e9⟩ := G
  obtain ⟨hc1, hc2⟩ := hc
  have hA : ∀ q, s.heap.size ≤ q → AL s q := fun _ h => h
  have hAb : ∀ q, AL s q → cA 9 ≤ q := fun q h => by rw [e9]; exact h
  have hbA : ¬ AL s b := Nat.not_le.mpr hbl
  obtain ⟨r, x', y', e1, e2, hR'⟩ := ok_feed (n := 20000) hR (xs (Int32.toNatClampNeg (i + (1 : Int32))))
  refine lv_aload_n F.1 F.2.1 (dd D_law_10 17 rfl) rfl (lv_at hl 2 rfl) ?_
  refine lv_aload_n F.1 F.2.1 (dd D_law_10 18 rfl) rfl (lv_at hl 3 rfl) ?_
  refine lv_iload_n F.1 F.2.1 (dd D_law_10 19 rfl) rfl (lv_at hl 0 rfl) ?_
  refine lv_iconst (v := (1 : Int32)) F.1 F.2.1 (dd D_law_10 20 rfl) ki_1 ?_
  refine lv_iadd F.1 F.2.1 (dd D_law_10 21 rfl) ?_
  refine va_sld F.1 F.2.1 hX hbl hbA hS h1 (dd D_law_10 22 rfl) ?_
  refine lawW0 (rest := []) F hK hA hAb (c_X8_feed D cA ax x 20000 (xs (Int32.toNatClampNeg (i + (1 : Int32)))) _ e1) lk_L_73 (Nat.le_of_ble_eq_true rfl) (rcv_8 hK hP (q0 := 0) (gL (xp_0 cA ax x))) rfl hl rfl (Nat.le_of_ble_eq_true rfl) (dd D_law_10 23 rfl) ⟨by omega, by omega⟩ hP hD hS (fun H locs hP hD hS => ?_)
  refine lv_pop F.1 F.2.1 (dd D_law_10 24 rfl) rfl ?_
  refine lv_aload_n F.1 F.2.1 (dd D_law_10 25 rfl) rfl (lv_at hl 1 rfl) ?_
  refine lv_aload_n F.1 F.2.1 (dd D_law_10 26 rfl) rfl (lv_at hl 3 rfl) ?_
  refine lv_iload_n F.1 F.2.1 (dd D_law_10 27 rfl) rfl (lv_at hl 0 rfl) ?_
  refine lv_iconst (v := (1 : Int32)) F.1 F.2.1 (dd D_law_10 28 rfl) ki_1 ?_
  refine lv_iadd F.1 F.2.1 (dd D_law_10 29 rfl) ?_
  refine va_sld F.1 F.2.1 hX hbl hbA hS h1 (dd D_law_10 30 rfl) ?_
  refine lawW (rest := []) F hK hA hAb (c_X9_feed D cA am y 20000 (xs (Int32.toNatClampNeg (i + (1 : Int32)))) _ e2) lk_L_76 (Nat.le_of_ble_eq_true rfl) (rcv_9 hK hP (q0 := 63 + (0)) (gR (xp_len cA ax x') (gL (mp_0 cA am y)))) rfl hl rfl (Nat.le_of_ble_eq_true rfl) (dd D_law_10 31 rfl) ⟨by omega, by omega⟩ hP hD hS (fun H locs hP hD hS => ?_)
  refine lv_pop F.1 F.2.1 (dd D_law_10 32 rfl) rfl ?_
  refine lv_goto (tgt := 2310) F.1 F.2.1 (dd D_law_10 33 rfl) rfl ?_
  exact kk x' y' H locs _ _ hP hD hS hR' (by omega) (by omega)
set_option maxHeartbeats 4000000 in
set_option maxRecDepth 100000 in
theorem case_14 (G : LG p m c s b L xs D cA) (h1 : vp_in (i + (1 : Int32)) L) (h2 : vp_in (i + (2 : Int32)) L) (h3 : vp_in (i + (3 : Int32)) L) (h4 : vp_in (i + (4 : Int32)) L) (h5 : vp_in (i + (5 : Int32)) L) (h6 : vp_in (i + (6 : Int32)) L) (hP : va_P D vwCl (xW cA ax x ++ (mW cA am y ++ KT)) H) (hD : va_D (AL s) (xW cA ax x ++ (mW cA am y ++ KT))) (hS : va_S (AL s) s.heap H locs) (hR : Rel x y ka ta mk) (hc : cells + 40 ≤ 600000 ∧ slots + 800 ≤ 7302250) (hl : lv_has ls 4 [(3, .int i), (2, .ref (am 0)), (1, .ref (ax 0)), (0, .ref b)])
    (kk : ∀ (x' : XS) (y' : MS) (H' : Heap) (locs' : List Loc) (cells' slots' : Nat), va_P D vwCl (xW cA ax x' ++ (mW cA am y' ++ KT)) H' → va_D (AL s) (xW cA ax x' ++ (mW cA am y' ++ KT)) → va_S (AL s) s.heap H' locs' → Rel x' y' ka ta mk → cells' ≤ cells + 40 → slots' ≤ slots + 800 → W p l e room_1 s m #[Value.ref b] below meth c H' locs' cells' slots' Q (F0 m 2310 ls [])) : W p l e room_1 s m #[Value.ref b] below meth c H locs cells slots Q (F0 m 790 ls []) := by
  obtain ⟨F, hK, hE, hX, hbl, e9⟩ := G
  obtain ⟨hc1, hc2⟩ := hc
  have hA : ∀ q, s.heap.size ≤ q → AL s q := fun _ h => h
  have hAb : ∀ q, AL s q → cA 9 ≤ q := fun q h => by rw [e9]; exact h
  have hbA : ¬ AL s b := Nat.not_le.mpr hbl
  obtain ⟨e0, hR'⟩ := ok_wipe hR 
  refine lv_aload_n F.1 F.2.1 (dd D_law_10 34 rfl) rfl (lv_at hl 2 rfl) ?_
  refine lawW0 (rest := []) F hK hA hAb (c_X8_wipe D cA ax x ) lk_L_77 (Nat.le_of_ble_eq_true rfl) (rcv_8 hK hP (q0 := 0) (gL (xp_0 cA ax x))) rfl hl rfl (Nat.le_of_ble_eq_true rfl) (dd D_law_10 35 rfl) ⟨by omega, by omega⟩ hP hD hS (fun H locs hP hD hS => ?_)
  refine lv_pop F.1 F.2.1 (dd D_law_10 36 rfl) rfl ?_
  refine lv_aload_n F.1 F.2.1 (dd D_law_10 37 rfl) rfl (lv_at hl 1 rfl) ?_
  refine lawW (rest := []) F hK hA hAb (c_X9_wipe D cA am y ) lk_L_81 (Nat.le_of_ble_eq_true rfl) (rcv_9 hK hP (q0 := 63 + (0)) (gR (xp_len cA ax (F_X8_wipe x).2) (gL (mp_0 cA am y)))) rfl hl rfl (Nat.le_of_ble_eq_true rfl) (dd D_law_10 38 rfl) ⟨by omega, by omega⟩ hP hD hS (fun H locs hP hD hS => ?_)
  refine lv_pop F.1 F.2.1 (dd D_law_10 39 rfl) rfl ?_
  refine lv_goto (tgt := 2310) F.1 F.2.1 (dd D_law_11 0 rfl) rfl ?_
  exact kk _ _ H locs _ _ hP hD hS hR' (by omega) (by omega)
set_option maxHeartbeats 4000000 in
set_option maxRecDepth 100000 in
theorem case_16 (G : LG p m c s b L xs D cA) (h1 : vp_in (i + (1 : Int32)) L) (h2 : vp_in (i + (2 : Int32)) L) (h3 : vp_in (i + (3 : Int32)) L) (h4 : vp_in (i + (4 : Int32)) L) (h5 : vp_in (i + (5 : Int32)) L) (h6 : vp_in (i + (6 : Int32)) L) (hP : va_P D vwCl (xW cA ax x ++ (mW cA am y ++ KT)) H) (hD : va_D (AL s) (xW cA ax x ++ (mW cA am y ++ KT))) (hS : va_S (AL s) s.heap H locs) (hR : Rel x y ka ta mk) (hc : cells + 40 ≤ 600000 ∧ slots + 800 ≤ 7302250) (hl : lv_has ls 4 [(3, .int i), (2, .ref (am 0)), (1, .ref (ax 0)), (0, .ref b)])
    (kk : ∀ (x' : XS) (y' : MS) (H' : Heap) (locs' : List Loc) (cells' slots' : Nat), va_P D vwCl (xW cA ax x' ++ (mW cA am y' ++ KT)) H' → va_D (AL s) (xW cA ax x' ++ (mW cA am y' ++ KT)) → va_S (AL s) s.heap H' locs' → Rel x' y' ka ta mk → cells' ≤ cells + 40 → slots' ≤ slots + 800 → W p l e room_1 s m #[Value.ref b] below meth c H' locs' cells' slots' Q (F0 m 2310 ls [])) : W p l e room_1 s m #[Value.ref b] below meth c H locs cells slots Q (F0 m 816 ls []) := by
  obtain ⟨F, hK, hE, hX, hbl, e9⟩ := G
  obtain ⟨hc1, hc2⟩ := hc
  have hA : ∀ q, s.heap.size ≤ q → AL s q := fun _ h => h
  have hAb : ∀ q, AL s q → cA 9 ≤ q := fun q h => by rw [e9]; exact h
  have hbA : ¬ AL s b := Nat.not_le.mpr hbl
  obtain ⟨r, x', y', e1, e2, hR'⟩ := ok_notchOf (n := 20000) hR (xs (Int32.toNatClampNeg (i + (1 : Int32)))) (xs (Int32.toNatClampNeg (i + (2 : Int32))))
  refine lv_aload_n F.1 F.2.1 (dd D_law_11 8 rfl) rfl (lv_at hl 2 rfl) ?_
  refine lv_aload_n F.1 F.2.1 (dd D_law_11 9 rfl) rfl (lv_at hl 3 rfl) ?_
  refine lv_iload_n F.1 F.2.1 (dd D_law_11 10 rfl) rfl (lv_at hl 0 rfl) ?_
  refine lv_iconst (v := (1 : Int32)) F.1 F.2.1 (dd D_law_11 11 rfl) ki_1 ?_
  refine lv_iadd F.1 F.2.1 (dd D_law_11 12 rfl) ?_
  refine va_sld F.1 F.2.1 hX hbl hbA hS h1 (dd D_law_11 13 rfl) ?_
  refine lv_aload_n F.1 F.2.1 (dd D_law_11 14 rfl) rfl (lv_at hl 3 rfl) ?_
  refine lv_iload_n F.1 F.2.1 (dd D_law_11 15 rfl) rfl (lv_at hl 0 rfl) ?_
  refine lv_iconst (v := (2 : Int32)) F.1 F.2.1 (dd D_law_11 16 rfl) ki_2 ?_
  refine lv_iadd F.1 F.2.1 (dd D_law_11 17 rfl) ?_
  refine va_sld F.1 F.2.1 hX hbl hbA hS h2 (dd D_law_11 18 rfl) ?_
  refine lawW0 (rest := []) F hK hA hAb (c_X8_notchOf D cA ax x 20000 (xs (Int32.toNatClampNeg (i + (1 : Int32)))) (xs (Int32.toNatClampNeg (i + (2 : Int32)))) _ e1) lk_L_86 (Nat.le_of_ble_eq_true rfl) (rcv_8 hK hP (q0 := 0) (gL (xp_0 cA ax x))) rfl hl rfl (Nat.le_of_ble_eq_true rfl) (dd D_law_11 19 rfl) ⟨by omega, by omega⟩ hP hD hS (fun H locs hP hD hS => ?_)
  refine lv_pop F.1 F.2.1 (dd D_law_11 20 rfl) rfl ?_
  refine lv_aload_n F.1 F.2.1 (dd D_law_11 21 rfl) rfl (lv_at hl 1 rfl) ?_
  refine lv_aload_n F.1 F.2.1 (dd D_law_11 22 rfl) rfl (lv_at hl 3 rfl) ?_
  refine lv_iload_n F.1 F.2.1 (dd D_law_11 23 rfl) rfl (lv_at hl 0 rfl) ?_
  refine lv_iconst (v := (1 : Int32)) F.1 F.2.1 (dd D_law_11 24 rfl) ki_1 ?_
  refine lv_iadd F.1 F.2.1 (dd D_law_11 25 rfl) ?_
  refine va_sld F.1 F.2.1 hX hbl hbA hS h1 (dd D_law_11 26 rfl) ?_
  refine lv_aload_n F.1 F.2.1 (dd D_law_11 27 rfl) rfl (lv_at hl 3 rfl) ?_
  refine lv_iload_n F.1 F.2.1 (dd D_law_11 28 rfl) rfl (lv_at hl 0 rfl) ?_
  refine lv_iconst (v := (2 : Int32)) F.1 F.2.1 (dd D_law_11 29 rfl) ki_2 ?_
  refine lv_iadd F.1 F.2.1 (dd D_law_11 30 rfl) ?_
  refine va_sld F.1 F.2.1 hX hbl hbA hS h2 (dd D_law_11 31 rfl) ?_
  refine lawW (rest := []) F hK hA hAb (c_X9_notchOf D cA am y 20000 (xs (Int32.toNatClampNeg (i + (1 : Int32)))) (xs (Int32.toNatClampNeg (i + (2 : Int32)))) _ e2) lk_L_89 (Nat.le_of_ble_eq_true rfl) (rcv_9 hK hP (q0 := 63 + (0)) (gR (xp_len cA ax x') (gL (mp_0 cA am y)))) rfl hl rfl (Nat.le_of_ble_eq_true rfl) (dd D_law_11 32 rfl) ⟨by omega, by omega⟩ hP hD hS (fun H locs hP hD hS => ?_)
  refine lv_pop F.1 F.2.1 (dd D_law_11 33 rfl) rfl ?_
  refine lv_goto (tgt := 2310) F.1 F.2.1 (dd D_law_11 34 rfl) rfl ?_
  exact kk x' y' H locs _ _ hP hD hS hR' (by omega) (by omega)
set_option maxHeartbeats 4000000 in
set_option maxRecDepth 100000 in
theorem case_17 (G : LG p m c s b L xs D cA) (h1 : vp_in (i + (1 : Int32)) L) (h2 : vp_in (i + (2 : Int32)) L) (h3 : vp_in (i + (3 : Int32)) L) (h4 : vp_in (i + (4 : Int32)) L) (h5 : vp_in (i + (5 : Int32)) L) (h6 : vp_in (i + (6 : Int32)) L) (hP : va_P D vwCl (xW cA ax x ++ (mW cA am y ++ KT)) H) (hD : va_D (AL s) (xW cA ax x ++ (mW cA am y ++ KT))) (hS : va_S (AL s) s.heap H locs) (hR : Rel x y ka ta mk) (hc : cells + 40 ≤ 600000 ∧ slots + 800 ≤ 7302250) (hl : lv_has ls 4 [(3, .int i), (2, .ref (am 0)), (1, .ref (ax 0)), (0, .ref b)])
    (kk : ∀ (x' : XS) (y' : MS) (H' : Heap) (locs' : List Loc) (cells' slots' : Nat), va_P D vwCl (xW cA ax x' ++ (mW cA am y' ++ KT)) H' → va_D (AL s) (xW cA ax x' ++ (mW cA am y' ++ KT)) → va_S (AL s) s.heap H' locs' → Rel x' y' ka ta mk → cells' ≤ cells + 40 → slots' ≤ slots + 800 → W p l e room_1 s m #[Value.ref b] below meth c H' locs' cells' slots' Q (F0 m 2310 ls [])) : W p l e room_1 s m #[Value.ref b] below meth c H locs cells slots Q (F0 m 849 ls []) := by
  obtain ⟨F, hK, hE, hX, hbl, e9⟩ := G
  obtain ⟨hc1, hc2⟩ := hc
  have hA : ∀ q, s.heap.size ≤ q → AL s q := fun _ h => h
  have hAb : ∀ q, AL s q → cA 9 ≤ q := fun q h => by rw [e9]; exact h
  have hbA : ¬ AL s b := Nat.not_le.mpr hbl
  obtain ⟨r, x', y', e1, e2, hR'⟩ := ok_stoneOf (n := 20000) hR (xs (Int32.toNatClampNeg (i + (1 : Int32))))
  refine lv_aload_n F.1 F.2.1 (dd D_law_11 35 rfl) rfl (lv_at hl 2 rfl) ?_
  refine lv_aload_n F.1 F.2.1 (dd D_law_11 36 rfl) rfl (lv_at hl 3 rfl) ?_
  refine lv_iload_n F.1 F.2.1 (dd D_law_11 37 rfl) rfl (lv_at hl 0 rfl) ?_
  refine lv_iconst (v := (1 : Int32)) F.1 F.2.1 (dd D_law_11 38 rfl) ki_1 ?_
  refine lv_iadd F.1 F.2.1 (dd D_law_11 39 rfl) ?_
  refine va_sld F.1 F.2.1 hX hbl hbA hS h1 (dd D_law_12 0 rfl) ?_
  refine lawW0 (rest := []) F hK hA hAb (c_X8_stoneOf D cA ax x 20000 (xs (Int32.toNatClampNeg (i + (1 : Int32)))) _ e1) lk_L_90 (Nat.le_of_ble_eq_true rfl) (rcv_8 hK hP (q0 := 0) (gL (xp_0 cA ax x))) rfl hl rfl (Nat.le_of_ble_eq_true rfl) (dd D_law_12 1 rfl) ⟨by omega, by omega⟩ hP hD hS (fun H locs hP hD hS => ?_)
  refine lv_pop F.1 F.2.1 (dd D_law_12 2 rfl) rfl ?_
  refine lv_aload_n F.1 F.2.1 (dd D_law_12 3 rfl) rfl (lv_at hl 1 rfl) ?_
  refine lv_aload_n F.1 F.2.1 (dd D_law_12 4 rfl) rfl (lv_at hl 3 rfl) ?_
  refine lv_iload_n F.1 F.2.1 (dd D_law_12 5 rfl) rfl (lv_at hl 0 rfl) ?_
  refine lv_iconst (v := (1 : Int32)) F.1 F.2.1 (dd D_law_12 6 rfl) ki_1 ?_
  refine lv_iadd F.1 F.2.1 (dd D_law_12 7 rfl) ?_
  refine va_sld F.1 F.2.1 hX hbl hbA hS h1 (dd D_law_12 8 rfl) ?_
  refine lawW (rest := []) F hK hA hAb (c_X9_stoneOf D cA am y 20000 (xs (Int32.toNatClampNeg (i + (1 : Int32)))) _ e2) lk_L_93 (Nat.le_of_ble_eq_true rfl) (rcv_9 hK hP (q0 := 63 + (0)) (gR (xp_len cA ax x') (gL (mp_0 cA am y)))) rfl hl rfl (Nat.le_of_ble_eq_true rfl) (dd D_law_12 9 rfl) ⟨by omega, by omega⟩ hP hD hS (fun H locs hP hD hS => ?_)
  refine lv_pop F.1 F.2.1 (dd D_law_12 10 rfl) rfl ?_
  refine lv_goto (tgt := 2310) F.1 F.2.1 (dd D_law_12 11 rfl) rfl ?_
  exact kk x' y' H locs _ _ hP hD hS hR' (by omega) (by omega)
set_option maxHeartbeats 4000000 in
set_option maxRecDepth 100000 in
theorem case_18 (G : LG p m c s b L xs D cA) (h1 : vp_in (i + (1 : Int32)) L) (h2 : vp_in (i + (2 : Int32)) L) (h3 : vp_in (i + (3 : Int32)) L) (h4 : vp_in (i + (4 : Int32)) L) (h5 : vp_in (i + (5 : Int32)) L) (h6 : vp_in (i + (6 : Int32)) L) (hP : va_P D vwCl (xW cA ax x ++ (mW cA am y ++ KT)) H) (hD : va_D (AL s) (xW cA ax x ++ (mW cA am y ++ KT))) (hS : va_S (AL s) s.heap H locs) (hR : Rel x y ka ta mk) (hc : cells + 40 ≤ 600000 ∧ slots + 800 ≤ 7302250) (hl : lv_has ls 4 [(3, .int i), (2, .ref (am 0)), (1, .ref (ax 0)), (0, .ref b)])
    (kk : ∀ (x' : XS) (y' : MS) (H' : Heap) (locs' : List Loc) (cells' slots' : Nat), va_P D vwCl (xW cA ax x' ++ (mW cA am y' ++ KT)) H' → va_D (AL s) (xW cA ax x' ++ (mW cA am y' ++ KT)) → va_S (AL s) s.heap H' locs' → Rel x' y' ka ta mk → cells' ≤ cells + 40 → slots' ≤ slots + 800 → W p l e room_1 s m #[Value.ref b] below meth c H' locs' cells' slots' Q (F0 m 2310 ls [])) : W p l e room_1 s m #[Value.ref b] below meth c H locs cells slots Q (F0 m 872 ls []) := by
  obtain ⟨F, hK, hE, hX, hbl, e9⟩ := G
  obtain ⟨hc1, hc2⟩ := hc
  have hA : ∀ q, s.heap.size ≤ q → AL s q := fun _ h => h
  have hAb : ∀ q, AL s q → cA 9 ≤ q := fun q h => by rw [e9]; exact h
  have hbA : ¬ AL s b := Nat.not_le.mpr hbl
  obtain ⟨r, x', y', e1, e2, hR'⟩ := ok_line (n := 20000) hR (Nat.le_refl _) (xs (Int32.toNatClampNeg (i + (1 : Int32))))
  refine lv_aload_n F.1 F.2.1 (dd D_law_12 12 rfl) rfl (lv_at hl 2 rfl) ?_
  refine lv_aload_n F.1 F.2.1 (dd D_law_12 13 rfl) rfl (lv_at hl 3 rfl) ?_
  refine lv_iload_n F.1 F.2.1 (dd D_law_12 14 rfl) rfl (lv_at hl 0 rfl) ?_
  refine lv_iconst (v := (1 : Int32)) F.1 F.2.1 (dd D_law_12 15 rfl) ki_1 ?_
  refine lv_iadd F.1 F.2.1 (dd D_law_12 16 rfl) ?_
  refine va_sld F.1 F.2.1 hX hbl hbA hS h1 (dd D_law_12 17 rfl) ?_
  refine lawW0 (rest := []) F hK hA hAb (c_X8_line D cA ax x 20000 (xs (Int32.toNatClampNeg (i + (1 : Int32)))) _ e1) lk_L_94 (Nat.le_of_ble_eq_true rfl) (rcv_8 hK hP (q0 := 0) (gL (xp_0 cA ax x))) rfl hl rfl (Nat.le_of_ble_eq_true rfl) (dd D_law_12 18 rfl) ⟨by omega, by omega⟩ hP hD hS (fun H locs hP hD hS => ?_)
  refine lv_pop F.1 F.2.1 (dd D_law_12 19 rfl) rfl ?_
  refine lv_aload_n F.1 F.2.1 (dd D_law_12 20 rfl) rfl (lv_at hl 1 rfl) ?_
  refine lv_aload_n F.1 F.2.1 (dd D_law_12 21 rfl) rfl (lv_at hl 3 rfl) ?_
  refine lv_iload_n F.1 F.2.1 (dd D_law_12 22 rfl) rfl (lv_at hl 0 rfl) ?_
  refine lv_iconst (v := (1 : Int32)) F.1 F.2.1 (dd D_law_12 23 rfl) ki_1 ?_
  refine lv_iadd F.1 F.2.1 (dd D_law_12 24 rfl) ?_
  refine va_sld F.1 F.2.1 hX hbl hbA hS h1 (dd D_law_12 25 rfl) ?_
  refine lawW (rest := []) F hK hA hAb (c_X9_line D cA am y 20000 (xs (Int32.toNatClampNeg (i + (1 : Int32)))) _ e2) lk_L_97 (Nat.le_of_ble_eq_true rfl) (rcv_9 hK hP (q0 := 63 + (0)) (gR (xp_len cA ax x') (gL (mp_0 cA am y)))) rfl hl rfl (Nat.le_of_ble_eq_true rfl) (dd D_law_12 26 rfl) ⟨by omega, by omega⟩ hP hD hS (fun H locs hP hD hS => ?_)
  refine lv_pop F.1 F.2.1 (dd D_law_12 27 rfl) rfl ?_
  refine lv_goto (tgt := 2310) F.1 F.2.1 (dd D_law_12 28 rfl) rfl ?_
  exact kk x' y' H locs _ _ hP hD hS hR' (by omega) (by omega)
set_option maxHeartbeats 4000000 in
set_option maxRecDepth 100000 in
theorem case_19 (G : LG p m c s b L xs D cA) (h1 : vp_in (i + (1 : Int32)) L) (h2 : vp_in (i + (2 : Int32)) L) (h3 : vp_in (i + (3 : Int32)) L) (h4 : vp_in (i + (4 : Int32)) L) (h5 : vp_in (i + (5 : Int32)) L) (h6 : vp_in (i + (6 : Int32)) L) (hP : va_P D vwCl (xW cA ax x ++ (mW cA am y ++ KT)) H) (hD : va_D (AL s) (xW cA ax x ++ (mW cA am y ++ KT))) (hS : va_S (AL s) s.heap H locs) (hR : Rel x y ka ta mk) (hc : cells + 40 ≤ 600000 ∧ slots + 800 ≤ 7302250) (hl : lv_has ls 4 [(3, .int i), (2, .ref (am 0)), (1, .ref (ax 0)), (0, .ref b)])
    (kk : ∀ (x' : XS) (y' : MS) (H' : Heap) (locs' : List Loc) (cells' slots' : Nat), va_P D vwCl (xW cA ax x' ++ (mW cA am y' ++ KT)) H' → va_D (AL s) (xW cA ax x' ++ (mW cA am y' ++ KT)) → va_S (AL s) s.heap H' locs' → Rel x' y' ka ta mk → cells' ≤ cells + 40 → slots' ≤ slots + 800 → W p l e room_1 s m #[Value.ref b] below meth c H' locs' cells' slots' Q (F0 m 2310 ls [])) : W p l e room_1 s m #[Value.ref b] below meth c H locs cells slots Q (F0 m 895 ls []) := by
  obtain ⟨F, hK, hE, hX, hbl, e9⟩ := G
  obtain ⟨hc1, hc2⟩ := hc
  have hA : ∀ q, s.heap.size ≤ q → AL s q := fun _ h => h
  have hAb : ∀ q, AL s q → cA 9 ≤ q := fun q h => by rw [e9]; exact h
  have hbA : ¬ AL s b := Nat.not_le.mpr hbl
  obtain ⟨r, x', y', e1, e2, hR'⟩ := ok_moon (n := 20000) hR (Nat.le_refl _) (xs (Int32.toNatClampNeg (i + (1 : Int32)))) (xs (Int32.toNatClampNeg (i + (2 : Int32))))
  refine lv_aload_n F.1 F.2.1 (dd D_law_12 29 rfl) rfl (lv_at hl 2 rfl) ?_
  refine lv_aload_n F.1 F.2.1 (dd D_law_12 30 rfl) rfl (lv_at hl 3 rfl) ?_
  refine lv_iload_n F.1 F.2.1 (dd D_law_12 31 rfl) rfl (lv_at hl 0 rfl) ?_
  refine lv_iconst (v := (1 : Int32)) F.1 F.2.1 (dd D_law_12 32 rfl) ki_1 ?_
  refine lv_iadd F.1 F.2.1 (dd D_law_12 33 rfl) ?_
  refine va_sld F.1 F.2.1 hX hbl hbA hS h1 (dd D_law_12 34 rfl) ?_
  refine lv_aload_n F.1 F.2.1 (dd D_law_12 35 rfl) rfl (lv_at hl 3 rfl) ?_
  refine lv_iload_n F.1 F.2.1 (dd D_law_12 36 rfl) rfl (lv_at hl 0 rfl) ?_
  refine lv_iconst (v := (2 : Int32)) F.1 F.2.1 (dd D_law_12 37 rfl) ki_2 ?_
  refine lv_iadd F.1 F.2.1 (dd D_law_12 38 rfl) ?_
  refine va_sld F.1 F.2.1 hX hbl hbA hS h2 (dd D_law_12 39 rfl) ?_
  refine lawW0 (rest := []) F hK hA hAb (c_X8_moon D cA ax x 20000 (xs (Int32.toNatClampNeg (i + (1 : Int32)))) (xs (Int32.toNatClampNeg (i + (2 : Int32)))) _ e1) lk_L_98 (Nat.le_of_ble_eq_true rfl) (rcv_8 hK hP (q0 := 0) (gL (xp_0 cA ax x))) rfl hl rfl (Nat.le_of_ble_eq_true rfl) (dd D_law_13 0 rfl) ⟨by omega, by omega⟩ hP hD hS (fun H locs hP hD hS => ?_)
  refine lv_pop F.1 F.2.1 (dd D_law_13 1 rfl) rfl ?_
  refine lv_aload_n F.1 F.2.1 (dd D_law_13 2 rfl) rfl (lv_at hl 1 rfl) ?_
  refine lv_aload_n F.1 F.2.1 (dd D_law_13 3 rfl) rfl (lv_at hl 3 rfl) ?_
  refine lv_iload_n F.1 F.2.1 (dd D_law_13 4 rfl) rfl (lv_at hl 0 rfl) ?_
  refine lv_iconst (v := (1 : Int32)) F.1 F.2.1 (dd D_law_13 5 rfl) ki_1 ?_
  refine lv_iadd F.1 F.2.1 (dd D_law_13 6 rfl) ?_
  refine va_sld F.1 F.2.1 hX hbl hbA hS h1 (dd D_law_13 7 rfl) ?_
  refine lv_aload_n F.1 F.2.1 (dd D_law_13 8 rfl) rfl (lv_at hl 3 rfl) ?_
  refine lv_iload_n F.1 F.2.1 (dd D_law_13 9 rfl) rfl (lv_at hl 0 rfl) ?_
  refine lv_iconst (v := (2 : Int32)) F.1 F.2.1 (dd D_law_13 10 rfl) ki_2 ?_
  refine lv_iadd F.1 F.2.1 (dd D_law_13 11 rfl) ?_
  refine va_sld F.1 F.2.1 hX hbl hbA hS h2 (dd D_law_13 12 rfl) ?_
  refine lawW (rest := []) F hK hA hAb (c_X9_moon D cA am y 20000 (xs (Int32.toNatClampNeg (i + (1 : Int32)))) (xs (Int32.toNatClampNeg (i + (2 : Int32)))) _ e2) lk_L_101 (Nat.le_of_ble_eq_true rfl) (rcv_9 hK hP (q0 := 63 + (0)) (gR (xp_len cA ax x') (gL (mp_0 cA am y)))) rfl hl rfl (Nat.le_of_ble_eq_true rfl) (dd D_law_13 13 rfl) ⟨by omega, by omega⟩ hP hD hS (fun H locs hP hD hS => ?_)
  refine lv_pop F.1 F.2.1 (dd D_law_13 14 rfl) rfl ?_
  refine lv_goto (tgt := 2310) F.1 F.2.1 (dd D_law_13 15 rfl) rfl ?_
  exact kk x' y' H locs _ _ hP hD hS hR' (by omega) (by omega)
set_option maxHeartbeats 4000000 in
set_option maxRecDepth 100000 in
theorem case_20 (G : LG p m c s b L xs D cA) (h1 : vp_in (i + (1 : Int32)) L) (h2 : vp_in (i + (2 : Int32)) L) (h3 : vp_in (i + (3 : Int32)) L) (h4 : vp_in (i + (4 : Int32)) L) (h5 : vp_in (i + (5 : Int32)) L) (h6 : vp_in (i + (6 : Int32)) L) (hP : va_P D vwCl (xW cA ax x ++ (mW cA am y ++ KT)) H) (hD : va_D (AL s) (xW cA ax x ++ (mW cA am y ++ KT))) (hS : va_S (AL s) s.heap H locs) (hR : Rel x y ka ta mk) (hc : cells + 40 ≤ 600000 ∧ slots + 800 ≤ 7302250) (hl : lv_has ls 4 [(3, .int i), (2, .ref (am 0)), (1, .ref (ax 0)), (0, .ref b)])
    (kk : ∀ (x' : XS) (y' : MS) (H' : Heap) (locs' : List Loc) (cells' slots' : Nat), va_P D vwCl (xW cA ax x' ++ (mW cA am y' ++ KT)) H' → va_D (AL s) (xW cA ax x' ++ (mW cA am y' ++ KT)) → va_S (AL s) s.heap H' locs' → Rel x' y' ka ta mk → cells' ≤ cells + 40 → slots' ≤ slots + 800 → W p l e room_1 s m #[Value.ref b] below meth c H' locs' cells' slots' Q (F0 m 2310 ls [])) : W p l e room_1 s m #[Value.ref b] below meth c H locs cells slots Q (F0 m 928 ls []) := by
  obtain ⟨F, hK, hE, hX, hbl, e9⟩ := G
  obtain ⟨hc1, hc2⟩ := hc
  have hA : ∀ q, s.heap.size ≤ q → AL s q := fun _ h => h
  have hAb : ∀ q, AL s q → cA 9 ≤ q := fun q h => by rw [e9]; exact h
  have hbA : ¬ AL s b := Nat.not_le.mpr hbl
  obtain ⟨r, x', y', e1, e2, hR'⟩ := ok_slant (n := 20000) hR (xs (Int32.toNatClampNeg (i + (1 : Int32))))
  refine lv_aload_n F.1 F.2.1 (dd D_law_13 16 rfl) rfl (lv_at hl 2 rfl) ?_
  refine lv_aload_n F.1 F.2.1 (dd D_law_13 17 rfl) rfl (lv_at hl 3 rfl) ?_
  refine lv_iload_n F.1 F.2.1 (dd D_law_13 18 rfl) rfl (lv_at hl 0 rfl) ?_
  refine lv_iconst (v := (1 : Int32)) F.1 F.2.1 (dd D_law_13 19 rfl) ki_1 ?_
  refine lv_iadd F.1 F.2.1 (dd D_law_13 20 rfl) ?_
  refine va_sld F.1 F.2.1 hX hbl hbA hS h1 (dd D_law_13 21 rfl) ?_
  refine lawW0 (rest := []) F hK hA hAb (c_X8_slant D cA ax x 20000 (xs (Int32.toNatClampNeg (i + (1 : Int32)))) _ e1) lk_L_102 (Nat.le_of_ble_eq_true rfl) (rcv_8 hK hP (q0 := 0) (gL (xp_0 cA ax x))) rfl hl rfl (Nat.le_of_ble_eq_true rfl) (dd D_law_13 22 rfl) ⟨by omega, by omega⟩ hP hD hS (fun H locs hP hD hS => ?_)
  refine lv_pop F.1 F.2.1 (dd D_law_13 23 rfl) rfl ?_
  refine lv_aload_n F.1 F.2.1 (dd D_law_13 24 rfl) rfl (lv_at hl 1 rfl) ?_
  refine lv_aload_n F.1 F.2.1 (dd D_law_13 25 rfl) rfl (lv_at hl 3 rfl) ?_
  refine lv_iload_n F.1 F.2.1 (dd D_law_13 26 rfl) rfl (lv_at hl 0 rfl) ?_
  refine lv_iconst (v := (1 : Int32)) F.1 F.2.1 (dd D_law_13 27 rfl) ki_1 ?_
  refine lv_iadd F.1 F.2.1 (dd D_law_13 28 rfl) ?_
  refine va_sld F.1 F.2.1 hX hbl hbA hS h1 (dd D_law_13 29 rfl) ?_
  refine lawW (rest := []) F hK hA hAb (c_X9_slant D cA am y 20000 (xs (Int32.toNatClampNeg (i + (1 : Int32)))) _ e2) lk_L_105 (Nat.le_of_ble_eq_true rfl) (rcv_9 hK hP (q0 := 63 + (0)) (gR (xp_len cA ax x') (gL (mp_0 cA am y)))) rfl hl rfl (Nat.le_of_ble_eq_true rfl) (dd D_law_13 30 rfl) ⟨by omega, by omega⟩ hP hD hS (fun H locs hP hD hS => ?_)
  refine lv_pop F.1 F.2.1 (dd D_law_13 31 rfl) rfl ?_
  refine lv_goto (tgt := 2310) F.1 F.2.1 (dd D_law_13 32 rfl) rfl ?_
  exact kk x' y' H locs _ _ hP hD hS hR' (by omega) (by omega)
set_option maxHeartbeats 4000000 in
set_option maxRecDepth 100000 in
theorem case_21 (G : LG p m c s b L xs D cA) (h1 : vp_in (i + (1 : Int32)) L) (h2 : vp_in (i + (2 : Int32)) L) (h3 : vp_in (i + (3 : Int32)) L) (h4 : vp_in (i + (4 : Int32)) L) (h5 : vp_in (i + (5 : Int32)) L) (h6 : vp_in (i + (6 : Int32)) L) (hP : va_P D vwCl (xW cA ax x ++ (mW cA am y ++ KT)) H) (hD : va_D (AL s) (xW cA ax x ++ (mW cA am y ++ KT))) (hS : va_S (AL s) s.heap H locs) (hR : Rel x y ka ta mk) (hc : cells + 40 ≤ 600000 ∧ slots + 800 ≤ 7302250) (hl : lv_has ls 4 [(3, .int i), (2, .ref (am 0)), (1, .ref (ax 0)), (0, .ref b)])
    (kk : ∀ (x' : XS) (y' : MS) (H' : Heap) (locs' : List Loc) (cells' slots' : Nat), va_P D vwCl (xW cA ax x' ++ (mW cA am y' ++ KT)) H' → va_D (AL s) (xW cA ax x' ++ (mW cA am y' ++ KT)) → va_S (AL s) s.heap H' locs' → Rel x' y' ka ta mk → cells' ≤ cells + 40 → slots' ≤ slots + 800 → W p l e room_1 s m #[Value.ref b] below meth c H' locs' cells' slots' Q (F0 m 2310 ls [])) : W p l e room_1 s m #[Value.ref b] below meth c H locs cells slots Q (F0 m 951 ls []) := by
  obtain ⟨F, hK, hE, hX, hbl, e9⟩ := G
  obtain ⟨hc1, hc2⟩ := hc
  have hA : ∀ q, s.heap.size ≤ q → AL s q := fun _ h => h
  have hAb : ∀ q, AL s q → cA 9 ≤ q := fun q h => by rw [e9]; exact h
  have hbA : ¬ AL s b := Nat.not_le.mpr hbl
  obtain ⟨r, x', y', e1, e2, hR'⟩ := ok_behind (n := 20000) hR (Nat.le_refl _) (xs (Int32.toNatClampNeg (i + (1 : Int32))))
  refine lv_aload_n F.1 F.2.1 (dd D_law_13 33 rfl) rfl (lv_at hl 2 rfl) ?_
  refine lv_aload_n F.1 F.2.1 (dd D_law_13 34 rfl) rfl (lv_at hl 3 rfl) ?_
  refine lv_iload_n F.1 F.2.1 (dd D_law_13 35 rfl) rfl (lv_at hl 0 rfl) ?_
  refine lv_iconst (v := (1 : Int32)) F.1 F.2.1 (dd D_law_13 36 rfl) ki_1 ?_
  refine lv_iadd F.1 F.2.1 (dd D_law_13 37 rfl) ?_
  refine va_sld F.1 F.2.1 hX hbl hbA hS h1 (dd D_law_13 38 rfl) ?_
  refine lawW0 (rest := []) F hK hA hAb (c_X8_behind D cA ax x 20000 (xs (Int32.toNatClampNeg (i + (1 : Int32)))) _ e1) lk_L_106 (Nat.le_of_ble_eq_true rfl) (rcv_8 hK hP (q0 := 0) (gL (xp_0 cA ax x))) rfl hl rfl (Nat.le_of_ble_eq_true rfl) (dd D_law_13 39 rfl) ⟨by omega, by omega⟩ hP hD hS (fun H locs hP hD hS => ?_)
  refine lv_pop F.1 F.2.1 (dd D_law_14 0 rfl) rfl ?_
  refine lv_aload_n F.1 F.2.1 (dd D_law_14 1 rfl) rfl (lv_at hl 1 rfl) ?_
  refine lv_aload_n F.1 F.2.1 (dd D_law_14 2 rfl) rfl (lv_at hl 3 rfl) ?_
  refine lv_iload_n F.1 F.2.1 (dd D_law_14 3 rfl) rfl (lv_at hl 0 rfl) ?_
  refine lv_iconst (v := (1 : Int32)) F.1 F.2.1 (dd D_law_14 4 rfl) ki_1 ?_
  refine lv_iadd F.1 F.2.1 (dd D_law_14 5 rfl) ?_
  refine va_sld F.1 F.2.1 hX hbl hbA hS h1 (dd D_law_14 6 rfl) ?_
  refine lawW (rest := []) F hK hA hAb (c_X9_behind D cA am y 20000 (xs (Int32.toNatClampNeg (i + (1 : Int32)))) _ e2) lk_L_109 (Nat.le_of_ble_eq_true rfl) (rcv_9 hK hP (q0 := 63 + (0)) (gR (xp_len cA ax x') (gL (mp_0 cA am y)))) rfl hl rfl (Nat.le_of_ble_eq_true rfl) (dd D_law_14 7 rfl) ⟨by omega, by omega⟩ hP hD hS (fun H locs hP hD hS => ?_)
  refine lv_pop F.1 F.2.1 (dd D_law_14 8 rfl) rfl ?_
  refine lv_goto (tgt := 2310) F.1 F.2.1 (dd D_law_14 9 rfl) rfl ?_
  exact kk x' y' H locs _ _ hP hD hS hR' (by omega) (by omega)
set_option maxHeartbeats 4000000 in
set_option maxRecDepth 100000 in
theorem case_22 (G : LG p m c s b L xs D cA) (h1 : vp_in (i + (1 : Int32)) L) (h2 : vp_in (i + (2 : Int32)) L) (h3 : vp_in (i + (3 : Int32)) L) (h4 : vp_in (i + (4 : Int32)) L) (h5 : vp_in (i + (5 : Int32)) L) (h6 : vp_in (i + (6 : Int32)) L) (hP : va_P D vwCl (xW cA ax x ++ (mW cA am y ++ KT)) H) (hD : va_D (AL s) (xW cA ax x ++ (mW cA am y ++ KT))) (hS : va_S (AL s) s.heap H locs) (hR : Rel x y ka ta mk) (hc : cells + 40 ≤ 600000 ∧ slots + 800 ≤ 7302250) (hl : lv_has ls 4 [(3, .int i), (2, .ref (am 0)), (1, .ref (ax 0)), (0, .ref b)])
    (kk : ∀ (x' : XS) (y' : MS) (H' : Heap) (locs' : List Loc) (cells' slots' : Nat), va_P D vwCl (xW cA ax x' ++ (mW cA am y' ++ KT)) H' → va_D (AL s) (xW cA ax x' ++ (mW cA am y' ++ KT)) → va_S (AL s) s.heap H' locs' → Rel x' y' ka ta mk → cells' ≤ cells + 40 → slots' ≤ slots + 800 → W p l e room_1 s m #[Value.ref b] below meth c H' locs' cells' slots' Q (F0 m 2310 ls [])) : W p l e room_1 s m #[Value.ref b] below meth c H locs cells slots Q (F0 m 974 ls []) := by
  obtain ⟨F, hK, hE, hX, hbl, e9⟩ := G
  obtain ⟨hc1, hc2⟩ := hc
  have hA : ∀ q, s.heap.size ≤ q → AL s q := fun _ h => h
  have hAb : ∀ q, AL s q → cA 9 ≤ q := fun q h => by rw [e9]; exact h
  have hbA : ¬ AL s b := Nat.not_le.mpr hbl
  obtain ⟨r, x', y', e1, e2, hR'⟩ := ok_is (n := 20000) hR (Nat.le_refl _) (xs (Int32.toNatClampNeg (i + (1 : Int32)))) (xs (Int32.toNatClampNeg (i + (2 : Int32))))
  refine lv_aload_n F.1 F.2.1 (dd D_law_14 10 rfl) rfl (lv_at hl 2 rfl) ?_
  refine lv_aload_n F.1 F.2.1 (dd D_law_14 11 rfl) rfl (lv_at hl 3 rfl) ?_
  refine lv_iload_n F.1 F.2.1 (dd D_law_14 12 rfl) rfl (lv_at hl 0 rfl) ?_
  refine lv_iconst (v := (1 : Int32)) F.1 F.2.1 (dd D_law_14 13 rfl) ki_1 ?_
  refine lv_iadd F.1 F.2.1 (dd D_law_14 14 rfl) ?_
  refine va_sld F.1 F.2.1 hX hbl hbA hS h1 (dd D_law_14 15 rfl) ?_
  refine lv_aload_n F.1 F.2.1 (dd D_law_14 16 rfl) rfl (lv_at hl 3 rfl) ?_
  refine lv_iload_n F.1 F.2.1 (dd D_law_14 17 rfl) rfl (lv_at hl 0 rfl) ?_
  refine lv_iconst (v := (2 : Int32)) F.1 F.2.1 (dd D_law_14 18 rfl) ki_2 ?_
  refine lv_iadd F.1 F.2.1 (dd D_law_14 19 rfl) ?_
  refine va_sld F.1 F.2.1 hX hbl hbA hS h2 (dd D_law_14 20 rfl) ?_
  refine lawW0 (rest := []) F hK hA hAb (c_X8_is D cA ax x 20000 (xs (Int32.toNatClampNeg (i + (1 : Int32)))) (xs (Int32.toNatClampNeg (i + (2 : Int32)))) _ e1) lk_L_110 (Nat.le_of_ble_eq_true rfl) (rcv_8 hK hP (q0 := 0) (gL (xp_0 cA ax x))) rfl hl rfl (Nat.le_of_ble_eq_true rfl) (dd D_law_14 21 rfl) ⟨by omega, by omega⟩ hP hD hS (fun H locs hP hD hS => ?_)
  refine lv_pop F.1 F.2.1 (dd D_law_14 22 rfl) rfl ?_
  refine lv_aload_n F.1 F.2.1 (dd D_law_14 23 rfl) rfl (lv_at hl 1 rfl) ?_
  refine lv_aload_n F.1 F.2.1 (dd D_law_14 24 rfl) rfl (lv_at hl 3 rfl) ?_
  refine lv_iload_n F.1 F.2.1 (dd D_law_14 25 rfl) rfl (lv_at hl 0 rfl) ?_
  refine lv_iconst (v := (1 : Int32)) F.1 F.2.1 (dd D_law_14 26 rfl) ki_1 ?_
  refine lv_iadd F.1 F.2.1 (dd D_law_14 27 rfl) ?_
  refine va_sld F.1 F.2.1 hX hbl hbA hS h1 (dd D_law_14 28 rfl) ?_
  refine lv_aload_n F.1 F.2.1 (dd D_law_14 29 rfl) rfl (lv_at hl 3 rfl) ?_
  refine lv_iload_n F.1 F.2.1 (dd D_law_14 30 rfl) rfl (lv_at hl 0 rfl) ?_
  refine lv_iconst (v := (2 : Int32)) F.1 F.2.1 (dd D_law_14 31 rfl) ki_2 ?_
  refine lv_iadd F.1 F.2.1 (dd D_law_14 32 rfl) ?_
  refine va_sld F.1 F.2.1 hX hbl hbA hS h2 (dd D_law_14 33 rfl) ?_
  refine lawW (rest := []) F hK hA hAb (c_X9_is D cA am y 20000 (xs (Int32.toNatClampNeg (i + (1 : Int32)))) (xs (Int32.toNatClampNeg (i + (2 : Int32)))) _ e2) lk_L_113 (Nat.le_of_ble_eq_true rfl) (rcv_9 hK hP (q0 := 63 + (0)) (gR (xp_len cA ax x') (gL (mp_0 cA am y)))) rfl hl rfl (Nat.le_of_ble_eq_true rfl) (dd D_law_14 34 rfl) ⟨by omega, by omega⟩ hP hD hS (fun H locs hP hD hS => ?_)
  refine lv_pop F.1 F.2.1 (dd D_law_14 35 rfl) rfl ?_
  refine lv_goto (tgt := 2310) F.1 F.2.1 (dd D_law_14 36 rfl) rfl ?_
  exact kk x' y' H locs _ _ hP hD hS hR' (by omega) (by omega)
set_option maxHeartbeats 4000000 in
set_option maxRecDepth 100000 in
theorem case_23 (G : LG p m c s b L xs D cA) (h1 : vp_in (i + (1 : Int32)) L) (h2 : vp_in (i + (2 : Int32)) L) (h3 : vp_in (i + (3 : Int32)) L) (h4 : vp_in (i + (4 : Int32)) L) (h5 : vp_in (i + (5 : Int32)) L) (h6 : vp_in (i + (6 : Int32)) L) (hP : va_P D vwCl (xW cA ax x ++ (mW cA am y ++ KT)) H) (hD : va_D (AL s) (xW cA ax x ++ (mW cA am y ++ KT))) (hS : va_S (AL s) s.heap H locs) (hR : Rel x y ka ta mk) (hc : cells + 40 ≤ 600000 ∧ slots + 800 ≤ 7302250) (hl : lv_has ls 4 [(3, .int i), (2, .ref (am 0)), (1, .ref (ax 0)), (0, .ref b)])
    (kk : ∀ (x' : XS) (y' : MS) (H' : Heap) (locs' : List Loc) (cells' slots' : Nat), va_P D vwCl (xW cA ax x' ++ (mW cA am y' ++ KT)) H' → va_D (AL s) (xW cA ax x' ++ (mW cA am y' ++ KT)) → va_S (AL s) s.heap H' locs' → Rel x' y' ka ta mk → cells' ≤ cells + 40 → slots' ≤ slots + 800 → W p l e room_1 s m #[Value.ref b] below meth c H' locs' cells' slots' Q (F0 m 2310 ls [])) : W p l e room_1 s m #[Value.ref b] below meth c H locs cells slots Q (F0 m 1007 ls []) := by
  obtain ⟨F, hK, hE, hX, hbl, e9⟩ := G
  obtain ⟨hc1, hc2⟩ := hc
  have hA : ∀ q, s.heap.size ≤ q → AL s q := fun _ h => h
  have hAb : ∀ q, AL s q → cA 9 ≤ q := fun q h => by rw [e9]; exact h
  have hbA : ¬ AL s b := Nat.not_le.mpr hbl
  obtain ⟨r, x', y', e1, e2, hR'⟩ := ok_shines (n := 20000) hR (Nat.le_refl _) (xs (Int32.toNatClampNeg (i + (1 : Int32)))) (xs (Int32.toNatClampNeg (i + (2 : Int32)))) (xs (Int32.toNatClampNeg (i + (3 : Int32))))
  refine lv_aload_n F.1 F.2.1 (dd D_law_14 37 rfl) rfl (lv_at hl 2 rfl) ?_
  refine lv_aload_n F.1 F.2.1 (dd D_law_14 38 rfl) rfl (lv_at hl 3 rfl) ?_
  refine lv_iload_n F.1 F.2.1 (dd D_law_14 39 rfl) rfl (lv_at hl 0 rfl) ?_
  refine lv_iconst (v := (1 : Int32)) F.1 F.2.1 (dd D_law_15 0 rfl) ki_1 ?_
  refine lv_iadd F.1 F.2.1 (dd D_law_15 1 rfl) ?_
  refine va_sld F.1 F.2.1 hX hbl hbA hS h1 (dd D_law_15 2 rfl) ?_
  refine lv_aload_n F.1 F.2.1 (dd D_law_15 3 rfl) rfl (lv_at hl 3 rfl) ?_
  refine lv_iload_n F.1 F.2.1 (dd D_law_15 4 rfl) rfl (lv_at hl 0 rfl) ?_
  refine lv_iconst (v := (2 : Int32)) F.1 F.2.1 (dd D_law_15 5 rfl) ki_2 ?_
  refine lv_iadd F.1 F.2.1 (dd D_law_15 6 rfl) ?_
  refine va_sld F.1 F.2.1 hX hbl hbA hS h2 (dd D_law_15 7 rfl) ?_
  refine lv_aload_n F.1 F.2.1 (dd D_law_15 8 rfl) rfl (lv_at hl 3 rfl) ?_
  refine lv_iload_n F.1 F.2.1 (dd D_law_15 9 rfl) rfl (lv_at hl 0 rfl) ?_
  refine lv_iconst (v := (3 : Int32)) F.1 F.2.1 (dd D_law_15 10 rfl) ki_3 ?_
  refine lv_iadd F.1 F.2.1 (dd D_law_15 11 rfl) ?_
  refine va_sld F.1 F.2.1 hX hbl hbA hS h3 (dd D_law_15 12 rfl) ?_
  refine lawW0 (rest := []) F hK hA hAb (c_X8_shines D cA ax x 20000 (xs (Int32.toNatClampNeg (i + (1 : Int32)))) (xs (Int32.toNatClampNeg (i + (2 : Int32)))) (xs (Int32.toNatClampNeg (i + (3 : Int32)))) _ e1) lk_L_114 (Nat.le_of_ble_eq_true rfl) (rcv_8 hK hP (q0 := 0) (gL (xp_0 cA ax x))) rfl hl rfl (Nat.le_of_ble_eq_true rfl) (dd D_law_15 13 rfl) ⟨by omega, by omega⟩ hP hD hS (fun H locs hP hD hS => ?_)
  refine lv_pop F.1 F.2.1 (dd D_law_15 14 rfl) rfl ?_
  refine lv_aload_n F.1 F.2.1 (dd D_law_15 15 rfl) rfl (lv_at hl 1 rfl) ?_
  refine lv_aload_n F.1 F.2.1 (dd D_law_15 16 rfl) rfl (lv_at hl 3 rfl) ?_
  refine lv_iload_n F.1 F.2.1 (dd D_law_15 17 rfl) rfl (lv_at hl 0 rfl) ?_
  refine lv_iconst (v := (1 : Int32)) F.1 F.2.1 (dd D_law_15 18 rfl) ki_1 ?_
  refine lv_iadd F.1 F.2.1 (dd D_law_15 19 rfl) ?_
  refine va_sld F.1 F.2.1 hX hbl hbA hS h1 (dd D_law_15 20 rfl) ?_
  refine lv_aload_n F.1 F.2.1 (dd D_law_15 21 rfl) rfl (lv_at hl 3 rfl) ?_
  refine lv_iload_n F.1 F.2.1 (dd D_law_15 22 rfl) rfl (lv_at hl 0 rfl) ?_
  refine lv_iconst (v := (2 : Int32)) F.1 F.2.1 (dd D_law_15 23 rfl) ki_2 ?_
  refine lv_iadd F.1 F.2.1 (dd D_law_15 24 rfl) ?_
  refine va_sld F.1 F.2.1 hX hbl hbA hS h2 (dd D_law_15 25 rfl) ?_
  refine lv_aload_n F.1 F.2.1 (dd D_law_15 26 rfl) rfl (lv_at hl 3 rfl) ?_
  refine lv_iload_n F.1 F.2.1 (dd D_law_15 27 rfl) rfl (lv_at hl 0 rfl) ?_
  refine lv_iconst (v := (3 : Int32)) F.1 F.2.1 (dd D_law_15 28 rfl) ki_3 ?_
  refine lv_iadd F.1 F.2.1 (dd D_law_15 29 rfl) ?_
  refine va_sld F.1 F.2.1 hX hbl hbA hS h3 (dd D_law_15 30 rfl) ?_
  refine lawW (rest := []) F hK hA hAb (c_X9_shines D cA am y 20000 (xs (Int32.toNatClampNeg (i + (1 : Int32)))) (xs (Int32.toNatClampNeg (i + (2 : Int32)))) (xs (Int32.toNatClampNeg (i + (3 : Int32)))) _ e2) lk_L_117 (Nat.le_of_ble_eq_true rfl) (rcv_9 hK hP (q0 := 63 + (0)) (gR (xp_len cA ax x') (gL (mp_0 cA am y)))) rfl hl rfl (Nat.le_of_ble_eq_true rfl) (dd D_law_15 31 rfl) ⟨by omega, by omega⟩ hP hD hS (fun H locs hP hD hS => ?_)
  refine lv_pop F.1 F.2.1 (dd D_law_15 32 rfl) rfl ?_
  refine lv_goto (tgt := 2310) F.1 F.2.1 (dd D_law_15 33 rfl) rfl ?_
  exact kk x' y' H locs _ _ hP hD hS hR' (by omega) (by omega)
set_option maxHeartbeats 4000000 in
set_option maxRecDepth 100000 in
theorem case_24 (G : LG p m c s b L xs D cA) (h1 : vp_in (i + (1 : Int32)) L) (h2 : vp_in (i + (2 : Int32)) L) (h3 : vp_in (i + (3 : Int32)) L) (h4 : vp_in (i + (4 : Int32)) L) (h5 : vp_in (i + (5 : Int32)) L) (h6 : vp_in (i + (6 : Int32)) L) (hP : va_P D vwCl (xW cA ax x ++ (mW cA am y ++ KT)) H) (hD : va_D (AL s) (xW cA ax x ++ (mW cA am y ++ KT))) (hS : va_S (AL s) s.heap H locs) (hR : Rel x y ka ta mk) (hc : cells + 40 ≤ 600000 ∧ slots + 800 ≤ 7302250) (hl : lv_has ls 4 [(3, .int i), (2, .ref (am 0)), (1, .ref (ax 0)), (0, .ref b)])
    (kk : ∀ (x' : XS) (y' : MS) (H' : Heap) (locs' : List Loc) (cells' slots' : Nat), va_P D vwCl (xW cA ax x' ++ (mW cA am y' ++ KT)) H' → va_D (AL s) (xW cA ax x' ++ (mW cA am y' ++ KT)) → va_S (AL s) s.heap H' locs' → Rel x' y' ka ta mk → cells' ≤ cells + 40 → slots' ≤ slots + 800 → W p l e room_1 s m #[Value.ref b] below meth c H' locs' cells' slots' Q (F0 m 2310 ls [])) : W p l e room_1 s m #[Value.ref b] below meth c H locs cells slots Q (F0 m 1050 ls []) := by
  obtain ⟨F, hK, hE, hX, hbl, e9⟩ := G
  obtain ⟨hc1, hc2⟩ := hc
  have hA : ∀ q, s.heap.size ≤ q → AL s q := fun _ h => h
  have hAb : ∀ q, AL s q → cA 9 ≤ q := fun q h => by rw [e9]; exact h
  have hbA : ¬ AL s b := Nat.not_le.mpr hbl
  obtain ⟨r, x', y', e1, e2, hR'⟩ := ok_light (n := 20000) hR (Nat.le_refl _) (xs (Int32.toNatClampNeg (i + (1 : Int32)))) (xs (Int32.toNatClampNeg (i + (2 : Int32)))) (xs (Int32.toNatClampNeg (i + (3 : Int32))))
  refine lv_aload_n F.1 F.2.1 (dd D_law_15 34 rfl) rfl (lv_at hl 2 rfl) ?_
  refine lv_aload_n F.1 F.2.1 (dd D_law_15 35 rfl) rfl (lv_at hl 3 rfl) ?_
  refine lv_iload_n F.1 F.2.1 (dd D_law_15 36 rfl) rfl (lv_at hl 0 rfl) ?_
  refine lv_iconst (v := (1 : Int32)) F.1 F.2.1 (dd D_law_15 37 rfl) ki_1 ?_
  refine lv_iadd F.1 F.2.1 (dd D_law_15 38 rfl) ?_
  refine va_sld F.1 F.2.1 hX hbl hbA hS h1 (dd D_law_15 39 rfl) ?_
  refine lv_aload_n F.1 F.2.1 (dd D_law_16 0 rfl) rfl (lv_at hl 3 rfl) ?_
  refine lv_iload_n F.1 F.2.1 (dd D_law_16 1 rfl) rfl (lv_at hl 0 rfl) ?_
  refine lv_iconst (v := (2 : Int32)) F.1 F.2.1 (dd D_law_16 2 rfl) ki_2 ?_
  refine lv_iadd F.1 F.2.1 (dd D_law_16 3 rfl) ?_
  refine va_sld F.1 F.2.1 hX hbl hbA hS h2 (dd D_law_16 4 rfl) ?_
  refine lv_aload_n F.1 F.2.1 (dd D_law_16 5 rfl) rfl (lv_at hl 3 rfl) ?_
  refine lv_iload_n F.1 F.2.1 (dd D_law_16 6 rfl) rfl (lv_at hl 0 rfl) ?_
  refine lv_iconst (v := (3 : Int32)) F.1 F.2.1 (dd D_law_16 7 rfl) ki_3 ?_
  refine lv_iadd F.1 F.2.1 (dd D_law_16 8 rfl) ?_
  refine va_sld F.1 F.2.1 hX hbl hbA hS h3 (dd D_law_16 9 rfl) ?_
  refine lawW0 (rest := []) F hK hA hAb (c_X8_light D cA ax x 20000 (xs (Int32.toNatClampNeg (i + (1 : Int32)))) (xs (Int32.toNatClampNeg (i + (2 : Int32)))) (xs (Int32.toNatClampNeg (i + (3 : Int32)))) _ e1) lk_L_118 (Nat.le_of_ble_eq_true rfl) (rcv_8 hK hP (q0 := 0) (gL (xp_0 cA ax x))) rfl hl rfl (Nat.le_of_ble_eq_true rfl) (dd D_law_16 10 rfl) ⟨by omega, by omega⟩ hP hD hS (fun H locs hP hD hS => ?_)
  refine lv_pop F.1 F.2.1 (dd D_law_16 11 rfl) rfl ?_
  refine lv_aload_n F.1 F.2.1 (dd D_law_16 12 rfl) rfl (lv_at hl 1 rfl) ?_
  refine lv_aload_n F.1 F.2.1 (dd D_law_16 13 rfl) rfl (lv_at hl 3 rfl) ?_
  refine lv_iload_n F.1 F.2.1 (dd D_law_16 14 rfl) rfl (lv_at hl 0 rfl) ?_
  refine lv_iconst (v := (1 : Int32)) F.1 F.2.1 (dd D_law_16 15 rfl) ki_1 ?_
  refine lv_iadd F.1 F.2.1 (dd D_law_16 16 rfl) ?_
  refine va_sld F.1 F.2.1 hX hbl hbA hS h1 (dd D_law_16 17 rfl) ?_
  refine lv_aload_n F.1 F.2.1 (dd D_law_16 18 rfl) rfl (lv_at hl 3 rfl) ?_
  refine lv_iload_n F.1 F.2.1 (dd D_law_16 19 rfl) rfl (lv_at hl 0 rfl) ?_
  refine lv_iconst (v := (2 : Int32)) F.1 F.2.1 (dd D_law_16 20 rfl) ki_2 ?_
  refine lv_iadd F.1 F.2.1 (dd D_law_16 21 rfl) ?_
  refine va_sld F.1 F.2.1 hX hbl hbA hS h2 (dd D_law_16 22 rfl) ?_
  refine lv_aload_n F.1 F.2.1 (dd D_law_16 23 rfl) rfl (lv_at hl 3 rfl) ?_
  refine lv_iload_n F.1 F.2.1 (dd D_law_16 24 rfl) rfl (lv_at hl 0 rfl) ?_
  refine lv_iconst (v := (3 : Int32)) F.1 F.2.1 (dd D_law_16 25 rfl) ki_3 ?_
  refine lv_iadd F.1 F.2.1 (dd D_law_16 26 rfl) ?_
  refine va_sld F.1 F.2.1 hX hbl hbA hS h3 (dd D_law_16 27 rfl) ?_
  refine lawW (rest := []) F hK hA hAb (c_X9_light D cA am y 20000 (xs (Int32.toNatClampNeg (i + (1 : Int32)))) (xs (Int32.toNatClampNeg (i + (2 : Int32)))) (xs (Int32.toNatClampNeg (i + (3 : Int32)))) _ e2) lk_L_121 (Nat.le_of_ble_eq_true rfl) (rcv_9 hK hP (q0 := 63 + (0)) (gR (xp_len cA ax x') (gL (mp_0 cA am y)))) rfl hl rfl (Nat.le_of_ble_eq_true rfl) (dd D_law_16 28 rfl) ⟨by omega, by omega⟩ hP hD hS (fun H locs hP hD hS => ?_)
  refine lv_pop F.1 F.2.1 (dd D_law_16 29 rfl) rfl ?_
  refine lv_goto (tgt := 2310) F.1 F.2.1 (dd D_law_16 30 rfl) rfl ?_
  exact kk x' y' H locs _ _ hP hD hS hR' (by omega) (by omega)
set_option maxHeartbeats 4000000 in
set_option maxRecDepth 100000 in
theorem case_25 (G : LG p m c s b L xs D cA) (h1 : vp_in (i + (1 : Int32)) L) (h2 : vp_in (i + (2 : Int32)) L) (h3 : vp_in (i + (3 : Int32)) L) (h4 : vp_in (i + (4 : Int32)) L) (h5 : vp_in (i + (5 : Int32)) L) (h6 : vp_in (i + (6 : Int32)) L) (hP : va_P D vwCl (xW cA ax x ++ (mW cA am y ++ KT)) H) (hD : va_D (AL s) (xW cA ax x ++ (mW cA am y ++ KT))) (hS : va_S (AL s) s.heap H locs) (hR : Rel x y ka ta mk) (hc : cells + 40 ≤ 600000 ∧ slots + 800 ≤ 7302250) (hl : lv_has ls 4 [(3, .int i), (2, .ref (am 0)), (1, .ref (ax 0)), (0, .ref b)])
    (kk : ∀ (x' : XS) (y' : MS) (H' : Heap) (locs' : List Loc) (cells' slots' : Nat), va_P D vwCl (xW cA ax x' ++ (mW cA am y' ++ KT)) H' → va_D (AL s) (xW cA ax x' ++ (mW cA am y' ++ KT)) → va_S (AL s) s.heap H' locs' → Rel x' y' ka ta mk → cells' ≤ cells + 40 → slots' ≤ slots + 800 → W p l e room_1 s m #[Value.ref b] below meth c H' locs' cells' slots' Q (F0 m 2310 ls [])) : W p l e room_1 s m #[Value.ref b] below meth c H locs cells slots Q (F0 m 1093 ls []) := by
  obtain ⟨F, hK, hE, hX, hbl, e9⟩ := G
  obtain ⟨hc1, hc2⟩ := hc
  have hA : ∀ q, s.heap.size ≤ q → AL s q := fun _ h => h
  have hAb : ∀ q, AL s q → cA 9 ≤ q := fun q h => by rw [e9]; exact h
  have hbA : ¬ AL s b := Nat.not_le.mpr hbl
  obtain ⟨r, x', y', e1, e2, hR'⟩ := ok_next (n := 20000) hR (Nat.le_refl _) (xs (Int32.toNatClampNeg (i + (1 : Int32)))) (xs (Int32.toNatClampNeg (i + (2 : Int32))))
  refine lv_aload_n F.1 F.2.1 (dd D_law_16 31 rfl) rfl (lv_at hl 2 rfl) ?_
  refine lv_aload_n F.1 F.2.1 (dd D_law_16 32 rfl) rfl (lv_at hl 3 rfl) ?_
  refine lv_iload_n F.1 F.2.1 (dd D_law_16 33 rfl) rfl (lv_at hl 0 rfl) ?_
  refine lv_iconst (v := (1 : Int32)) F.1 F.2.1 (dd D_law_16 34 rfl) ki_1 ?_
  refine lv_iadd F.1 F.2.1 (dd D_law_16 35 rfl) ?_
  refine va_sld F.1 F.2.1 hX hbl hbA hS h1 (dd D_law_16 36 rfl) ?_
  refine lv_aload_n F.1 F.2.1 (dd D_law_16 37 rfl) rfl (lv_at hl 3 rfl) ?_
  refine lv_iload_n F.1 F.2.1 (dd D_law_16 38 rfl) rfl (lv_at hl 0 rfl) ?_
  refine lv_iconst (v := (2 : Int32)) F.1 F.2.1 (dd D_law_16 39 rfl) ki_2 ?_
  refine lv_iadd F.1 F.2.1 (dd D_law_17 0 rfl) ?_
  refine va_sld F.1 F.2.1 hX hbl hbA hS h2 (dd D_law_17 1 rfl) ?_
  refine lawW0 (rest := []) F hK hA hAb (c_X8_next D cA ax x 20000 (xs (Int32.toNatClampNeg (i + (1 : Int32)))) (xs (Int32.toNatClampNeg (i + (2 : Int32)))) _ e1) lk_L_122 (Nat.le_of_ble_eq_true rfl) (rcv_8 hK hP (q0 := 0) (gL (xp_0 cA ax x))) rfl hl rfl (Nat.le_of_ble_eq_true rfl) (dd D_law_17 2 rfl) ⟨by omega, by omega⟩ hP hD hS (fun H locs hP hD hS => ?_)
  refine lv_pop F.1 F.2.1 (dd D_law_17 3 rfl) rfl ?_
  refine lv_aload_n F.1 F.2.1 (dd D_law_17 4 rfl) rfl (lv_at hl 1 rfl) ?_
  refine lv_aload_n F.1 F.2.1 (dd D_law_17 5 rfl) rfl (lv_at hl 3 rfl) ?_
  refine lv_iload_n F.1 F.2.1 (dd D_law_17 6 rfl) rfl (lv_at hl 0 rfl) ?_
  refine lv_iconst (v := (1 : Int32)) F.1 F.2.1 (dd D_law_17 7 rfl) ki_1 ?_
  refine lv_iadd F.1 F.2.1 (dd D_law_17 8 rfl) ?_
  refine va_sld F.1 F.2.1 hX hbl hbA hS h1 (dd D_law_17 9 rfl) ?_
  refine lv_aload_n F.1 F.2.1 (dd D_law_17 10 rfl) rfl (lv_at hl 3 rfl) ?_
  refine lv_iload_n F.1 F.2.1 (dd D_law_17 11 rfl) rfl (lv_at hl 0 rfl) ?_
  refine lv_iconst (v := (2 : Int32)) F.1 F.2.1 (dd D_law_17 12 rfl) ki_2 ?_
  refine lv_iadd F.1 F.2.1 (dd D_law_17 13 rfl) ?_
  refine va_sld F.1 F.2.1 hX hbl hbA hS h2 (dd D_law_17 14 rfl) ?_
  refine lawW (rest := []) F hK hA hAb (c_X9_next D cA am y 20000 (xs (Int32.toNatClampNeg (i + (1 : Int32)))) (xs (Int32.toNatClampNeg (i + (2 : Int32)))) _ e2) lk_L_125 (Nat.le_of_ble_eq_true rfl) (rcv_9 hK hP (q0 := 63 + (0)) (gR (xp_len cA ax x') (gL (mp_0 cA am y)))) rfl hl rfl (Nat.le_of_ble_eq_true rfl) (dd D_law_17 15 rfl) ⟨by omega, by omega⟩ hP hD hS (fun H locs hP hD hS => ?_)
  refine lv_pop F.1 F.2.1 (dd D_law_17 16 rfl) rfl ?_
  refine lv_goto (tgt := 2310) F.1 F.2.1 (dd D_law_17 17 rfl) rfl ?_
  exact kk x' y' H locs _ _ hP hD hS hR' (by omega) (by omega)
set_option maxHeartbeats 4000000 in
set_option maxRecDepth 100000 in
theorem case_26 (G : LG p m c s b L xs D cA) (h1 : vp_in (i + (1 : Int32)) L) (h2 : vp_in (i + (2 : Int32)) L) (h3 : vp_in (i + (3 : Int32)) L) (h4 : vp_in (i + (4 : Int32)) L) (h5 : vp_in (i + (5 : Int32)) L) (h6 : vp_in (i + (6 : Int32)) L) (hP : va_P D vwCl (xW cA ax x ++ (mW cA am y ++ KT)) H) (hD : va_D (AL s) (xW cA ax x ++ (mW cA am y ++ KT))) (hS : va_S (AL s) s.heap H locs) (hR : Rel x y ka ta mk) (hc : cells + 40 ≤ 600000 ∧ slots + 800 ≤ 7302250) (hl : lv_has ls 4 [(3, .int i), (2, .ref (am 0)), (1, .ref (ax 0)), (0, .ref b)])
    (kk : ∀ (x' : XS) (y' : MS) (H' : Heap) (locs' : List Loc) (cells' slots' : Nat), va_P D vwCl (xW cA ax x' ++ (mW cA am y' ++ KT)) H' → va_D (AL s) (xW cA ax x' ++ (mW cA am y' ++ KT)) → va_S (AL s) s.heap H' locs' → Rel x' y' ka ta mk → cells' ≤ cells + 40 → slots' ≤ slots + 800 → W p l e room_1 s m #[Value.ref b] below meth c H' locs' cells' slots' Q (F0 m 2310 ls [])) : W p l e room_1 s m #[Value.ref b] below meth c H locs cells slots Q (F0 m 1126 ls []) := by
  obtain ⟨F, hK, hE, hX, hbl, e9⟩ := G
  obtain ⟨hc1, hc2⟩ := hc
  have hA : ∀ q, s.heap.size ≤ q → AL s q := fun _ h => h
  have hAb : ∀ q, AL s q → cA 9 ≤ q := fun q h => by rw [e9]; exact h
  have hbA : ¬ AL s b := Nat.not_le.mpr hbl
  obtain ⟨r, x', y', e1, e2, hR'⟩ := ok_many (n := 20000) hR (Nat.le_refl _) (xs (Int32.toNatClampNeg (i + (1 : Int32)))) (xs (Int32.toNatClampNeg (i + (2 : Int32)))) (xs (Int32.toNatClampNeg (i + (3 : Int32))))
  refine lv_aload_n F.1 F.2.1 (dd D_law_17 18 rfl) rfl (lv_at hl 2 rfl) ?_
  refine lv_aload_n F.1 F.2.1 (dd D_law_17 19 rfl) rfl (lv_at hl 3 rfl) ?_
  refine lv_iload_n F.1 F.2.1 (dd D_law_17 20 rfl) rfl (lv_at hl 0 rfl) ?_
  refine lv_iconst (v := (1 : Int32)) F.1 F.2.1 (dd D_law_17 21 rfl) ki_1 ?_
  refine lv_iadd F.1 F.2.1 (dd D_law_17 22 rfl) ?_
  refine va_sld F.1 F.2.1 hX hbl hbA hS h1 (dd D_law_17 23 rfl) ?_
  refine lv_aload_n F.1 F.2.1 (dd D_law_17 24 rfl) rfl (lv_at hl 3 rfl) ?_
  refine lv_iload_n F.1 F.2.1 (dd D_law_17 25 rfl) rfl (lv_at hl 0 rfl) ?_
  refine lv_iconst (v := (2 : Int32)) F.1 F.2.1 (dd D_law_17 26 rfl) ki_2 ?_
  refine lv_iadd F.1 F.2.1 (dd D_law_17 27 rfl) ?_
  refine va_sld F.1 F.2.1 hX hbl hbA hS h2 (dd D_law_17 28 rfl) ?_
  refine lv_aload_n F.1 F.2.1 (dd D_law_17 29 rfl) rfl (lv_at hl 3 rfl) ?_
  refine lv_iload_n F.1 F.2.1 (dd D_law_17 30 rfl) rfl (lv_at hl 0 rfl) ?_
  refine lv_iconst (v := (3 : Int32)) F.1 F.2.1 (dd D_law_17 31 rfl) ki_3 ?_
  refine lv_iadd F.1 F.2.1 (dd D_law_17 32 rfl) ?_
  refine va_sld F.1 F.2.1 hX hbl hbA hS h3 (dd D_law_17 33 rfl) ?_
  refine lawW0 (rest := []) F hK hA hAb (c_X8_many D cA ax x 20000 (xs (Int32.toNatClampNeg (i + (1 : Int32)))) (xs (Int32.toNatClampNeg (i + (2 : Int32)))) (xs (Int32.toNatClampNeg (i + (3 : Int32)))) _ e1) lk_L_126 (Nat.le_of_ble_eq_true rfl) (rcv_8 hK hP (q0 := 0) (gL (xp_0 cA ax x))) rfl hl rfl (Nat.le_of_ble_eq_true rfl) (dd D_law_17 34 rfl) ⟨by omega, by omega⟩ hP hD hS (fun H locs hP hD hS => ?_)
  refine lv_pop F.1 F.2.1 (dd D_law_17 35 rfl) rfl ?_
  refine lv_aload_n F.1 F.2.1 (dd D_law_17 36 rfl) rfl (lv_at hl 1 rfl) ?_
  refine lv_aload_n F.1 F.2.1 (dd D_law_17 37 rfl) rfl (lv_at hl 3 rfl) ?_
  refine lv_iload_n F.1 F.2.1 (dd D_law_17 38 rfl) rfl (lv_at hl 0 rfl) ?_
  refine lv_iconst (v := (1 : Int32)) F.1 F.2.1 (dd D_law_17 39 rfl) ki_1 ?_
  refine lv_iadd F.1 F.2.1 (dd D_law_18 0 rfl) ?_
  refine va_sld F.1 F.2.1 hX hbl hbA hS h1 (dd D_law_18 1 rfl) ?_
  refine lv_aload_n F.1 F.2.1 (dd D_law_18 2 rfl) rfl (lv_at hl 3 rfl) ?_
  refine lv_iload_n F.1 F.2.1 (dd D_law_18 3 rfl) rfl (lv_at hl 0 rfl) ?_
  refine lv_iconst (v := (2 : Int32)) F.1 F.2.1 (dd D_law_18 4 rfl) ki_2 ?_
  refine lv_iadd F.1 F.2.1 (dd D_law_18 5 rfl) ?_
  refine va_sld F.1 F.2.1 hX hbl hbA hS h2 (dd D_law_18 6 rfl) ?_
  refine lv_aload_n F.1 F.2.1 (dd D_law_18 7 rfl) rfl (lv_at hl 3 rfl) ?_
  refine lv_iload_n F.1 F.2.1 (dd D_law_18 8 rfl) rfl (lv_at hl 0 rfl) ?_
  refine lv_iconst (v := (3 : Int32)) F.1 F.2.1 (dd D_law_18 9 rfl) ki_3 ?_
  refine lv_iadd F.1 F.2.1 (dd D_law_18 10 rfl) ?_
  refine va_sld F.1 F.2.1 hX hbl hbA hS h3 (dd D_law_18 11 rfl) ?_
  refine lawW (rest := []) F hK hA hAb (c_X9_many D cA am y 20000 (xs (Int32.toNatClampNeg (i + (1 : Int32)))) (xs (Int32.toNatClampNeg (i + (2 : Int32)))) (xs (Int32.toNatClampNeg (i + (3 : Int32)))) _ e2) lk_L_129 (Nat.le_of_ble_eq_true rfl) (rcv_9 hK hP (q0 := 63 + (0)) (gR (xp_len cA ax x') (gL (mp_0 cA am y)))) rfl hl rfl (Nat.le_of_ble_eq_true rfl) (dd D_law_18 12 rfl) ⟨by omega, by omega⟩ hP hD hS (fun H locs hP hD hS => ?_)
  refine lv_pop F.1 F.2.1 (dd D_law_18 13 rfl) rfl ?_
  refine lv_goto (tgt := 2310) F.1 F.2.1 (dd D_law_18 14 rfl) rfl ?_
  exact kk x' y' H locs _ _ hP hD hS hR' (by omega) (by omega)
set_option maxHeartbeats 4000000 in
set_option maxRecDepth 100000 in
theorem case_27 (G : LG p m c s b L xs D cA) (h1 : vp_in (i + (1 : Int32)) L) (h2 : vp_in (i + (2 : Int32)) L) (h3 : vp_in (i + (3 : Int32)) L) (h4 : vp_in (i + (4 : Int32)) L) (h5 : vp_in (i + (5 : Int32)) L) (h6 : vp_in (i + (6 : Int32)) L) (hP : va_P D vwCl (xW cA ax x ++ (mW cA am y ++ KT)) H) (hD : va_D (AL s) (xW cA ax x ++ (mW cA am y ++ KT))) (hS : va_S (AL s) s.heap H locs) (hR : Rel x y ka ta mk) (hc : cells + 40 ≤ 600000 ∧ slots + 800 ≤ 7302250) (hl : lv_has ls 4 [(3, .int i), (2, .ref (am 0)), (1, .ref (ax 0)), (0, .ref b)])
    (kk : ∀ (x' : XS) (y' : MS) (H' : Heap) (locs' : List Loc) (cells' slots' : Nat), va_P D vwCl (xW cA ax x' ++ (mW cA am y' ++ KT)) H' → va_D (AL s) (xW cA ax x' ++ (mW cA am y' ++ KT)) → va_S (AL s) s.heap H' locs' → Rel x' y' ka ta mk → cells' ≤ cells + 40 → slots' ≤ slots + 800 → W p l e room_1 s m #[Value.ref b] below meth c H' locs' cells' slots' Q (F0 m 2310 ls [])) : W p l e room_1 s m #[Value.ref b] below meth c H locs cells slots Q (F0 m 1169 ls []) := by
  obtain ⟨F, hK, hE, hX, hbl, e9⟩ := G
  obtain ⟨hc1, hc2⟩ := hc
  have hA : ∀ q, s.heap.size ≤ q → AL s q := fun _ h => h
  have hAb : ∀ q, AL s q → cA 9 ≤ q := fun q h => by rw [e9]; exact h
  have hbA : ¬ AL s b := Nat.not_le.mpr hbl
  obtain ⟨r, x', y', e1, e2, hR'⟩ := ok_between (n := 20000) hR (Nat.le_refl _) (xs (Int32.toNatClampNeg (i + (1 : Int32)))) (xs (Int32.toNatClampNeg (i + (2 : Int32)))) (xs (Int32.toNatClampNeg (i + (3 : Int32)))) (xs (Int32.toNatClampNeg (i + (4 : Int32)))) (xs (Int32.toNatClampNeg (i + (5 : Int32))))
  refine lv_aload_n F.1 F.2.1 (dd D_law_18 15 rfl) rfl (lv_at hl 2 rfl) ?_
  refine lv_aload_n F.1 F.2.1 (dd D_law_18 16 rfl) rfl (lv_at hl 3 rfl) ?_
  refine lv_iload_n F.1 F.2.1 (dd D_law_18 17 rfl) rfl (lv_at hl 0 rfl) ?_
  refine lv_iconst (v := (1 : Int32)) F.1 F.2.1 (dd D_law_18 18 rfl) ki_1 ?_
  refine lv_iadd F.1 F.2.1 (dd D_law_18 19 rfl) ?_
  refine va_sld F.1 F.2.1 hX hbl hbA hS h1 (dd D_law_18 20 rfl) ?_
  refine lv_aload_n F.1 F.2.1 (dd D_law_18 21 rfl) rfl (lv_at hl 3 rfl) ?_
  refine lv_iload_n F.1 F.2.1 (dd D_law_18 22 rfl) rfl (lv_at hl 0 rfl) ?_
  refine lv_iconst (v := (2 : Int32)) F.1 F.2.1 (dd D_law_18 23 rfl) ki_2 ?_
  refine lv_iadd F.1 F.2.1 (dd D_law_18 24 rfl) ?_
  refine va_sld F.1 F.2.1 hX hbl hbA hS h2 (dd D_law_18 25 rfl) ?_
  refine lv_aload_n F.1 F.2.1 (dd D_law_18 26 rfl) rfl (lv_at hl 3 rfl) ?_
  refine lv_iload_n F.1 F.2.1 (dd D_law_18 27 rfl) rfl (lv_at hl 0 rfl) ?_
  refine lv_iconst (v := (3 : Int32)) F.1 F.2.1 (dd D_law_18 28 rfl) ki_3 ?_
  refine lv_iadd F.1 F.2.1 (dd D_law_18 29 rfl) ?_
  refine va_sld F.1 F.2.1 hX hbl hbA hS h3 (dd D_law_18 30 rfl) ?_
  refine lv_aload_n F.1 F.2.1 (dd D_law_18 31 rfl) rfl (lv_at hl 3 rfl) ?_
  refine lv_iload_n F.1 F.2.1 (dd D_law_18 32 rfl) rfl (lv_at hl 0 rfl) ?_
  refine lv_iconst (v := (4 : Int32)) F.1 F.2.1 (dd D_law_18 33 rfl) ki_4 ?_
  refine lv_iadd F.1 F.2.1 (dd D_law_18 34 rfl) ?_
  refine va_sld F.1 F.2.1 hX hbl hbA hS h4 (dd D_law_18 35 rfl) ?_
  refine lv_aload_n F.1 F.2.1 (dd D_law_18 36 rfl) rfl (lv_at hl 3 rfl) ?_
  refine lv_iload_n F.1 F.2.1 (dd D_law_18 37 rfl) rfl (lv_at hl 0 rfl) ?_
  refine lv_iconst (v := (5 : Int32)) F.1 F.2.1 (dd D_law_18 38 rfl) ki_5 ?_
  refine lv_iadd F.1 F.2.1 (dd D_law_18 39 rfl) ?_
  refine va_sld F.1 F.2.1 hX hbl hbA hS h5 (dd D_law_19 0 rfl) ?_
  refine lawW0 (rest := []) F hK hA hAb (c_X8_between D cA ax x 20000 (xs (Int32.toNatClampNeg (i + (1 : Int32)))) (xs (Int32.toNatClampNeg (i + (2 : Int32)))) (xs (Int32.toNatClampNeg (i + (3 : Int32)))) (xs (Int32.toNatClampNeg (i + (4 : Int32)))) (xs (Int32.toNatClampNeg (i + (5 : Int32)))) _ e1) lk_L_130 (Nat.le_of_ble_eq_true rfl) (rcv_8 hK hP (q0 := 0) (gL (xp_0 cA ax x))) rfl hl rfl (Nat.le_of_ble_eq_true rfl) (dd D_law_19 1 rfl) ⟨by omega, by omega⟩ hP hD hS (fun H locs hP hD hS => ?_)
  refine lv_pop F.1 F.2.1 (dd D_law_19 2 rfl) rfl ?_
  refine lv_aload_n F.1 F.2.1 (dd D_law_19 3 rfl) rfl (lv_at hl 1 rfl) ?_
  refine lv_aload_n F.1 F.2.1 (dd D_law_19 4 rfl) rfl (lv_at hl 3 rfl) ?_
  refine lv_iload_n F.1 F.2.1 (dd D_law_19 5 rfl) rfl (lv_at hl 0 rfl) ?_
  refine lv_iconst (v := (1 : Int32)) F.1 F.2.1 (dd D_law_19 6 rfl) ki_1 ?_
  refine lv_iadd F.1 F.2.1 (dd D_law_19 7 rfl) ?_
  refine va_sld F.1 F.2.1 hX hbl hbA hS h1 (dd D_law_19 8 rfl) ?_
  refine lv_aload_n F.1 F.2.1 (dd D_law_19 9 rfl) rfl (lv_at hl 3 rfl) ?_
  refine lv_iload_n F.1 F.2.1 (dd D_law_19 10 rfl) rfl (lv_at hl 0 rfl) ?_
  refine lv_iconst (v := (2 : Int32)) F.1 F.2.1 (dd D_law_19 11 rfl) ki_2 ?_
  refine lv_iadd F.1 F.2.1 (dd D_law_19 12 rfl) ?_
  refine va_sld F.1 F.2.1 hX hbl hbA hS h2 (dd D_law_19 13 rfl) ?_
  refine lv_aload_n F.1 F.2.1 (dd D_law_19 14 rfl) rfl (lv_at hl 3 rfl) ?_
  refine lv_iload_n F.1 F.2.1 (dd D_law_19 15 rfl) rfl (lv_at hl 0 rfl) ?_
  refine lv_iconst (v := (3 : Int32)) F.1 F.2.1 (dd D_law_19 16 rfl) ki_3 ?_
  refine lv_iadd F.1 F.2.1 (dd D_law_19 17 rfl) ?_
  refine va_sld F.1 F.2.1 hX hbl hbA hS h3 (dd D_law_19 18 rfl) ?_
  refine lv_aload_n F.1 F.2.1 (dd D_law_19 19 rfl) rfl (lv_at hl 3 rfl) ?_
  refine lv_iload_n F.1 F.2.1 (dd D_law_19 20 rfl) rfl (lv_at hl 0 rfl) ?_
  refine lv_iconst (v := (4 : Int32)) F.1 F.2.1 (dd D_law_19 21 rfl) ki_4 ?_
  refine lv_iadd F.1 F.2.1 (dd D_law_19 22 rfl) ?_
  refine va_sld F.1 F.2.1 hX hbl hbA hS h4 (dd D_law_19 23 rfl) ?_
  refine lv_aload_n F.1 F.2.1 (dd D_law_19 24 rfl) rfl (lv_at hl 3 rfl) ?_
  refine lv_iload_n F.1 F.2.1 (dd D_law_19 25 rfl) rfl (lv_at hl 0 rfl) ?_
  refine lv_iconst (v := (5 : Int32)) F.1 F.2.1 (dd D_law_19 26 rfl) ki_5 ?_
  refine lv_iadd F.1 F.2.1 (dd D_law_19 27 rfl) ?_
  refine va_sld F.1 F.2.1 hX hbl hbA hS h5 (dd D_law_19 28 rfl) ?_
  refine lawW (rest := []) F hK hA hAb (c_X9_between D cA am y 20000 (xs (Int32.toNatClampNeg (i + (1 : Int32)))) (xs (Int32.toNatClampNeg (i + (2 : Int32)))) (xs (Int32.toNatClampNeg (i + (3 : Int32)))) (xs (Int32.toNatClampNeg (i + (4 : Int32)))) (xs (Int32.toNatClampNeg (i + (5 : Int32)))) _ e2) lk_L_133 (Nat.le_of_ble_eq_true rfl) (rcv_9 hK hP (q0 := 63 + (0)) (gR (xp_len cA ax x') (gL (mp_0 cA am y)))) rfl hl rfl (Nat.le_of_ble_eq_true rfl) (dd D_law_19 29 rfl) ⟨by omega, by omega⟩ hP hD hS (fun H locs hP hD hS => ?_)
  refine lv_pop F.1 F.2.1 (dd D_law_19 30 rfl) rfl ?_
  refine lv_goto (tgt := 2310) F.1 F.2.1 (dd D_law_19 31 rfl) rfl ?_
  exact kk x' y' H locs _ _ hP hD hS hR' (by omega) (by omega)
set_option maxHeartbeats 4000000 in
set_option maxRecDepth 100000 in
theorem case_28 (G : LG p m c s b L xs D cA) (h1 : vp_in (i + (1 : Int32)) L) (h2 : vp_in (i + (2 : Int32)) L) (h3 : vp_in (i + (3 : Int32)) L) (h4 : vp_in (i + (4 : Int32)) L) (h5 : vp_in (i + (5 : Int32)) L) (h6 : vp_in (i + (6 : Int32)) L) (hP : va_P D vwCl (xW cA ax x ++ (mW cA am y ++ KT)) H) (hD : va_D (AL s) (xW cA ax x ++ (mW cA am y ++ KT))) (hS : va_S (AL s) s.heap H locs) (hR : Rel x y ka ta mk) (hc : cells + 40 ≤ 600000 ∧ slots + 800 ≤ 7302250) (hl : lv_has ls 4 [(3, .int i), (2, .ref (am 0)), (1, .ref (ax 0)), (0, .ref b)])
    (kk : ∀ (x' : XS) (y' : MS) (H' : Heap) (locs' : List Loc) (cells' slots' : Nat), va_P D vwCl (xW cA ax x' ++ (mW cA am y' ++ KT)) H' → va_D (AL s) (xW cA ax x' ++ (mW cA am y' ++ KT)) → va_S (AL s) s.heap H' locs' → Rel x' y' ka ta mk → cells' ≤ cells + 40 → slots' ≤ slots + 800 → W p l e room_1 s m #[Value.ref b] below meth c H' locs' cells' slots' Q (F0 m 2310 ls [])) : W p l e room_1 s m #[Value.ref b] below meth c H locs cells slots Q (F0 m 1232 ls []) := by
  obtain ⟨F, hK, hE, hX, hbl, e9⟩ := G
  obtain ⟨hc1, hc2⟩ := hc
  have hA : ∀ q, s.heap.size ≤ q → AL s q := fun _ h => h
  have hAb : ∀ q, AL s q → cA 9 ≤ q := fun q h => by rw [e9]; exact h
  have hbA : ¬ AL s b := Nat.not_le.mpr hbl
  obtain ⟨r, x', y', e1, e2, hR'⟩ := ok_alike (n := 20000) hR (Nat.le_refl _) (xs (Int32.toNatClampNeg (i + (1 : Int32))))
  refine lv_aload_n F.1 F.2.1 (dd D_law_19 32 rfl) rfl (lv_at hl 2 rfl) ?_
  refine lv_aload_n F.1 F.2.1 (dd D_law_19 33 rfl) rfl (lv_at hl 3 rfl) ?_
  refine lv_iload_n F.1 F.2.1 (dd D_law_19 34 rfl) rfl (lv_at hl 0 rfl) ?_
  refine lv_iconst (v := (1 : Int32)) F.1 F.2.1 (dd D_law_19 35 rfl) ki_1 ?_
  refine lv_iadd F.1 F.2.1 (dd D_law_19 36 rfl) ?_
  refine va_sld F.1 F.2.1 hX hbl hbA hS h1 (dd D_law_19 37 rfl) ?_
  refine lawW0 (rest := []) F hK hA hAb (c_X8_alike D cA ax x 20000 (xs (Int32.toNatClampNeg (i + (1 : Int32)))) _ e1) lk_L_134 (Nat.le_of_ble_eq_true rfl) (rcv_8 hK hP (q0 := 0) (gL (xp_0 cA ax x))) rfl hl rfl (Nat.le_of_ble_eq_true rfl) (dd D_law_19 38 rfl) ⟨by omega, by omega⟩ hP hD hS (fun H locs hP hD hS => ?_)
  refine lv_pop F.1 F.2.1 (dd D_law_19 39 rfl) rfl ?_
  refine lv_aload_n F.1 F.2.1 (dd D_law_20 0 rfl) rfl (lv_at hl 1 rfl) ?_
  refine lv_aload_n F.1 F.2.1 (dd D_law_20 1 rfl) rfl (lv_at hl 3 rfl) ?_
  refine lv_iload_n F.1 F.2.1 (dd D_law_20 2 rfl) rfl (lv_at hl 0 rfl) ?_
  refine lv_iconst (v := (1 : Int32)) F.1 F.2.1 (dd D_law_20 3 rfl) ki_1 ?_
  refine lv_iadd F.1 F.2.1 (dd D_law_20 4 rfl) ?_
  refine va_sld F.1 F.2.1 hX hbl hbA hS h1 (dd D_law_20 5 rfl) ?_
  refine lawW (rest := []) F hK hA hAb (c_X9_alike D cA am y 20000 (xs (Int32.toNatClampNeg (i + (1 : Int32)))) _ e2) lk_L_137 (Nat.le_of_ble_eq_true rfl) (rcv_9 hK hP (q0 := 63 + (0)) (gR (xp_len cA ax x') (gL (mp_0 cA am y)))) rfl hl rfl (Nat.le_of_ble_eq_true rfl) (dd D_law_20 6 rfl) ⟨by omega, by omega⟩ hP hD hS (fun H locs hP hD hS => ?_)
  refine lv_pop F.1 F.2.1 (dd D_law_20 7 rfl) rfl ?_
  refine lv_goto (tgt := 2310) F.1 F.2.1 (dd D_law_20 8 rfl) rfl ?_
  exact kk x' y' H locs _ _ hP hD hS hR' (by omega) (by omega)
set_option maxHeartbeats 4000000 in
set_option maxRecDepth 100000 in
theorem case_29 (G : LG p m c s b L xs D cA) (h1 : vp_in (i + (1 : Int32)) L) (h2 : vp_in (i + (2 : Int32)) L) (h3 : vp_in (i + (3 : Int32)) L) (h4 : vp_in (i + (4 : Int32)) L) (h5 : vp_in (i + (5 : Int32)) L) (h6 : vp_in (i + (6 : Int32)) L) (hP : va_P D vwCl (xW cA ax x ++ (mW cA am y ++ KT)) H) (hD : va_D (AL s) (xW cA ax x ++ (mW cA am y ++ KT))) (hS : va_S (AL s) s.heap H locs) (hR : Rel x y ka ta mk) (hc : cells + 40 ≤ 600000 ∧ slots + 800 ≤ 7302250) (hl : lv_has ls 4 [(3, .int i), (2, .ref (am 0)), (1, .ref (ax 0)), (0, .ref b)])
    (kk : ∀ (x' : XS) (y' : MS) (H' : Heap) (locs' : List Loc) (cells' slots' : Nat), va_P D vwCl (xW cA ax x' ++ (mW cA am y' ++ KT)) H' → va_D (AL s) (xW cA ax x' ++ (mW cA am y' ++ KT)) → va_S (AL s) s.heap H' locs' → Rel x' y' ka ta mk → cells' ≤ cells + 40 → slots' ≤ slots + 800 → W p l e room_1 s m #[Value.ref b] below meth c H' locs' cells' slots' Q (F0 m 2310 ls [])) : W p l e room_1 s m #[Value.ref b] below meth c H locs cells slots Q (F0 m 1255 ls []) := by
  obtain ⟨F, hK, hE, hX, hbl, e9⟩ := G
  obtain ⟨hc1, hc2⟩ := hc
  have hA : ∀ q, s.heap.size ≤ q → AL s q := fun _ h => h
  have hAb : ∀ q, AL s q → cA 9 ≤ q := fun q h => by rw [e9]; exact h
  have hbA : ¬ AL s b := Nat.not_le.mpr hbl
  obtain ⟨r, x', y', e1, e2, hR'⟩ := ok_farthest (n := 20000) hR (Nat.le_refl _) (xs (Int32.toNatClampNeg (i + (1 : Int32)))) (xs (Int32.toNatClampNeg (i + (2 : Int32))))
  refine lv_aload_n F.1 F.2.1 (dd D_law_20 9 rfl) rfl (lv_at hl 2 rfl) ?_
  refine lv_aload_n F.1 F.2.1 (dd D_law_20 10 rfl) rfl (lv_at hl 3 rfl) ?_
  refine lv_iload_n F.1 F.2.1 (dd D_law_20 11 rfl) rfl (lv_at hl 0 rfl) ?_
  refine lv_iconst (v := (1 : Int32)) F.1 F.2.1 (dd D_law_20 12 rfl) ki_1 ?_
  refine lv_iadd F.1 F.2.1 (dd D_law_20 13 rfl) ?_
  refine va_sld F.1 F.2.1 hX hbl hbA hS h1 (dd D_law_20 14 rfl) ?_
  refine lv_aload_n F.1 F.2.1 (dd D_law_20 15 rfl) rfl (lv_at hl 3 rfl) ?_
  refine lv_iload_n F.1 F.2.1 (dd D_law_20 16 rfl) rfl (lv_at hl 0 rfl) ?_
  refine lv_iconst (v := (2 : Int32)) F.1 F.2.1 (dd D_law_20 17 rfl) ki_2 ?_
  refine lv_iadd F.1 F.2.1 (dd D_law_20 18 rfl) ?_
  refine va_sld F.1 F.2.1 hX hbl hbA hS h2 (dd D_law_20 19 rfl) ?_
  refine lawW0 (rest := []) F hK hA hAb (c_X8_farthest D cA ax x 20000 (xs (Int32.toNatClampNeg (i + (1 : Int32)))) (xs (Int32.toNatClampNeg (i + (2 : Int32)))) _ e1) lk_L_138 (Nat.le_of_ble_eq_true rfl) (rcv_8 hK hP (q0 := 0) (gL (xp_0 cA ax x))) rfl hl rfl (Nat.le_of_ble_eq_true rfl) (dd D_law_20 20 rfl) ⟨by omega, by omega⟩ hP hD hS (fun H locs hP hD hS => ?_)
  refine lv_pop F.1 F.2.1 (dd D_law_20 21 rfl) rfl ?_
  refine lv_aload_n F.1 F.2.1 (dd D_law_20 22 rfl) rfl (lv_at hl 1 rfl) ?_
  refine lv_aload_n F.1 F.2.1 (dd D_law_20 23 rfl) rfl (lv_at hl 3 rfl) ?_
  refine lv_iload_n F.1 F.2.1 (dd D_law_20 24 rfl) rfl (lv_at hl 0 rfl) ?_
  refine lv_iconst (v := (1 : Int32)) F.1 F.2.1 (dd D_law_20 25 rfl) ki_1 ?_
  refine lv_iadd F.1 F.2.1 (dd D_law_20 26 rfl) ?_
  refine va_sld F.1 F.2.1 hX hbl hbA hS h1 (dd D_law_20 27 rfl) ?_
  refine lv_aload_n F.1 F.2.1 (dd D_law_20 28 rfl) rfl (lv_at hl 3 rfl) ?_
  refine lv_iload_n F.1 F.2.1 (dd D_law_20 29 rfl) rfl (lv_at hl 0 rfl) ?_
  refine lv_iconst (v := (2 : Int32)) F.1 F.2.1 (dd D_law_20 30 rfl) ki_2 ?_
  refine lv_iadd F.1 F.2.1 (dd D_law_20 31 rfl) ?_
  refine va_sld F.1 F.2.1 hX hbl hbA hS h2 (dd D_law_20 32 rfl) ?_
  refine lawW (rest := []) F hK hA hAb (c_X9_farthest D cA am y 20000 (xs (Int32.toNatClampNeg (i + (1 : Int32)))) (xs (Int32.toNatClampNeg (i + (2 : Int32)))) _ e2) lk_L_141 (Nat.le_of_ble_eq_true rfl) (rcv_9 hK hP (q0 := 63 + (0)) (gR (xp_len cA ax x') (gL (mp_0 cA am y)))) rfl hl rfl (Nat.le_of_ble_eq_true rfl) (dd D_law_20 33 rfl) ⟨by omega, by omega⟩ hP hD hS (fun H locs hP hD hS => ?_)
  refine lv_pop F.1 F.2.1 (dd D_law_20 34 rfl) rfl ?_
  refine lv_goto (tgt := 2310) F.1 F.2.1 (dd D_law_20 35 rfl) rfl ?_
  exact kk x' y' H locs _ _ hP hD hS hR' (by omega) (by omega)
set_option maxHeartbeats 4000000 in
set_option maxRecDepth 100000 in
theorem case_30 (G : LG p m c s b L xs D cA) (h1 : vp_in (i + (1 : Int32)) L) (h2 : vp_in (i + (2 : Int32)) L) (h3 : vp_in (i + (3 : Int32)) L) (h4 : vp_in (i + (4 : Int32)) L) (h5 : vp_in (i + (5 : Int32)) L) (h6 : vp_in (i + (6 : Int32)) L) (hP : va_P D vwCl (xW cA ax x ++ (mW cA am y ++ KT)) H) (hD : va_D (AL s) (xW cA ax x ++ (mW cA am y ++ KT))) (hS : va_S (AL s) s.heap H locs) (hR : Rel x y ka ta mk) (hc : cells + 40 ≤ 600000 ∧ slots + 800 ≤ 7302250) (hl : lv_has ls 4 [(3, .int i), (2, .ref (am 0)), (1, .ref (ax 0)), (0, .ref b)])
    (kk : ∀ (x' : XS) (y' : MS) (H' : Heap) (locs' : List Loc) (cells' slots' : Nat), va_P D vwCl (xW cA ax x' ++ (mW cA am y' ++ KT)) H' → va_D (AL s) (xW cA ax x' ++ (mW cA am y' ++ KT)) → va_S (AL s) s.heap H' locs' → Rel x' y' ka ta mk → cells' ≤ cells + 40 → slots' ≤ slots + 800 → W p l e room_1 s m #[Value.ref b] below meth c H' locs' cells' slots' Q (F0 m 2310 ls [])) : W p l e room_1 s m #[Value.ref b] below meth c H locs cells slots Q (F0 m 1288 ls []) := by
  obtain ⟨F, hK, hE, hX, hbl, e9⟩ := G
  obtain ⟨hc1, hc2⟩ := hc
  have hA : ∀ q, s.heap.size ≤ q → AL s q := fun _ h => h
  have hAb : ∀ q, AL s q → cA 9 ≤ q := fun q h => by rw [e9]; exact h
  have hbA : ¬ AL s b := Nat.not_le.mpr hbl
  obtain ⟨r, x', y', e1, e2, hR'⟩ := ok_grows (n := 20000) hR (xs (Int32.toNatClampNeg (i + (1 : Int32))))
  refine lv_aload_n F.1 F.2.1 (dd D_law_20 36 rfl) rfl (lv_at hl 2 rfl) ?_
  refine lv_aload_n F.1 F.2.1 (dd D_law_20 37 rfl) rfl (lv_at hl 3 rfl) ?_
  refine lv_iload_n F.1 F.2.1 (dd D_law_20 38 rfl) rfl (lv_at hl 0 rfl) ?_
  refine lv_iconst (v := (1 : Int32)) F.1 F.2.1 (dd D_law_20 39 rfl) ki_1 ?_
  refine lv_iadd F.1 F.2.1 (dd D_law_21 0 rfl) ?_
  refine va_sld F.1 F.2.1 hX hbl hbA hS h1 (dd D_law_21 1 rfl) ?_
  refine lawW0 (rest := []) F hK hA hAb (c_X8_grows D cA ax x 20000 (xs (Int32.toNatClampNeg (i + (1 : Int32)))) _ e1) lk_L_142 (Nat.le_of_ble_eq_true rfl) (rcv_8 hK hP (q0 := 0) (gL (xp_0 cA ax x))) rfl hl rfl (Nat.le_of_ble_eq_true rfl) (dd D_law_21 2 rfl) ⟨by omega, by omega⟩ hP hD hS (fun H locs hP hD hS => ?_)
  refine lv_pop F.1 F.2.1 (dd D_law_21 3 rfl) rfl ?_
  refine lv_aload_n F.1 F.2.1 (dd D_law_21 4 rfl) rfl (lv_at hl 1 rfl) ?_
  refine lv_aload_n F.1 F.2.1 (dd D_law_21 5 rfl) rfl (lv_at hl 3 rfl) ?_
  refine lv_iload_n F.1 F.2.1 (dd D_law_21 6 rfl) rfl (lv_at hl 0 rfl) ?_
  refine lv_iconst (v := (1 : Int32)) F.1 F.2.1 (dd D_law_21 7 rfl) ki_1 ?_
  refine lv_iadd F.1 F.2.1 (dd D_law_21 8 rfl) ?_
  refine va_sld F.1 F.2.1 hX hbl hbA hS h1 (dd D_law_21 9 rfl) ?_
  refine lawW (rest := []) F hK hA hAb (c_X9_grows D cA am y 20000 (xs (Int32.toNatClampNeg (i + (1 : Int32)))) _ e2) lk_L_145 (Nat.le_of_ble_eq_true rfl) (rcv_9 hK hP (q0 := 63 + (0)) (gR (xp_len cA ax x') (gL (mp_0 cA am y)))) rfl hl rfl (Nat.le_of_ble_eq_true rfl) (dd D_law_21 10 rfl) ⟨by omega, by omega⟩ hP hD hS (fun H locs hP hD hS => ?_)
  refine lv_pop F.1 F.2.1 (dd D_law_21 11 rfl) rfl ?_
  refine lv_goto (tgt := 2310) F.1 F.2.1 (dd D_law_21 12 rfl) rfl ?_
  exact kk x' y' H locs _ _ hP hD hS hR' (by omega) (by omega)
set_option maxHeartbeats 4000000 in
set_option maxRecDepth 100000 in
theorem case_31 (G : LG p m c s b L xs D cA) (h1 : vp_in (i + (1 : Int32)) L) (h2 : vp_in (i + (2 : Int32)) L) (h3 : vp_in (i + (3 : Int32)) L) (h4 : vp_in (i + (4 : Int32)) L) (h5 : vp_in (i + (5 : Int32)) L) (h6 : vp_in (i + (6 : Int32)) L) (hP : va_P D vwCl (xW cA ax x ++ (mW cA am y ++ KT)) H) (hD : va_D (AL s) (xW cA ax x ++ (mW cA am y ++ KT))) (hS : va_S (AL s) s.heap H locs) (hR : Rel x y ka ta mk) (hc : cells + 40 ≤ 600000 ∧ slots + 800 ≤ 7302250) (hl : lv_has ls 4 [(3, .int i), (2, .ref (am 0)), (1, .ref (ax 0)), (0, .ref b)])
    (kk : ∀ (x' : XS) (y' : MS) (H' : Heap) (locs' : List Loc) (cells' slots' : Nat), va_P D vwCl (xW cA ax x' ++ (mW cA am y' ++ KT)) H' → va_D (AL s) (xW cA ax x' ++ (mW cA am y' ++ KT)) → va_S (AL s) s.heap H' locs' → Rel x' y' ka ta mk → cells' ≤ cells + 40 → slots' ≤ slots + 800 → W p l e room_1 s m #[Value.ref b] below meth c H' locs' cells' slots' Q (F0 m 2310 ls [])) : W p l e room_1 s m #[Value.ref b] below meth c H locs cells slots Q (F0 m 1311 ls []) := by
  obtain ⟨F, hK, hE, hX, hbl, e9⟩ := G
  obtain ⟨hc1, hc2⟩ := hc
  have hA : ∀ q, s.heap.size ≤ q → AL s q := fun _ h => h
  have hAb : ∀ q, AL s q → cA 9 ≤ q := fun q h => by rw [e9]; exact h
  have hbA : ¬ AL s b := Nat.not_le.mpr hbl
  obtain ⟨r, x', y', e1, e2, hR'⟩ := ok_lights (n := 20000) hR (Nat.le_refl _) (xs (Int32.toNatClampNeg (i + (1 : Int32)))) (xs (Int32.toNatClampNeg (i + (2 : Int32)))) (xs (Int32.toNatClampNeg (i + (3 : Int32)))) (xs (Int32.toNatClampNeg (i + (4 : Int32))))
  refine lv_aload_n F.1 F.2.1 (dd D_law_21 13 rfl) rfl (lv_at hl 2 rfl) ?_
  refine lv_aload_n F.1 F.2.1 (dd D_law_21 14 rfl) rfl (lv_at hl 3 rfl) ?_
  refine lv_iload_n F.1 F.2.1 (dd D_law_21 15 rfl) rfl (lv_at hl 0 rfl) ?_
  refine lv_iconst (v := (1 : Int32)) F.1 F.2.1 (dd D_law_21 16 rfl) ki_1 ?_
  refine lv_iadd F.1 F.2.1 (dd D_law_21 17 rfl) ?_
  refine va_sld F.1 F.2.1 hX hbl hbA hS h1 (dd D_law_21 18 rfl) ?_
  refine lv_aload_n F.1 F.2.1 (dd D_law_21 19 rfl) rfl (lv_at hl 3 rfl) ?_
  refine lv_iload_n F.1 F.2.1 (dd D_law_21 20 rfl) rfl (lv_at hl 0 rfl) ?_
  refine lv_iconst (v := (2 : Int32)) F.1 F.2.1 (dd D_law_21 21 rfl) ki_2 ?_
  refine lv_iadd F.1 F.2.1 (dd D_law_21 22 rfl) ?_
  refine va_sld F.1 F.2.1 hX hbl hbA hS h2 (dd D_law_21 23 rfl) ?_
  refine lv_aload_n F.1 F.2.1 (dd D_law_21 24 rfl) rfl (lv_at hl 3 rfl) ?_
  refine lv_iload_n F.1 F.2.1 (dd D_law_21 25 rfl) rfl (lv_at hl 0 rfl) ?_
  refine lv_iconst (v := (3 : Int32)) F.1 F.2.1 (dd D_law_21 26 rfl) ki_3 ?_
  refine lv_iadd F.1 F.2.1 (dd D_law_21 27 rfl) ?_
  refine va_sld F.1 F.2.1 hX hbl hbA hS h3 (dd D_law_21 28 rfl) ?_
  refine lv_aload_n F.1 F.2.1 (dd D_law_21 29 rfl) rfl (lv_at hl 3 rfl) ?_
  refine lv_iload_n F.1 F.2.1 (dd D_law_21 30 rfl) rfl (lv_at hl 0 rfl) ?_
  refine lv_iconst (v := (4 : Int32)) F.1 F.2.1 (dd D_law_21 31 rfl) ki_4 ?_
  refine lv_iadd F.1 F.2.1 (dd D_law_21 32 rfl) ?_
  refine va_sld F.1 F.2.1 hX hbl hbA hS h4 (dd D_law_21 33 rfl) ?_
  refine lawW0 (rest := []) F hK hA hAb (c_X8_lights D cA ax x 20000 (xs (Int32.toNatClampNeg (i + (1 : Int32)))) (xs (Int32.toNatClampNeg (i + (2 : Int32)))) (xs (Int32.toNatClampNeg (i + (3 : Int32)))) (xs (Int32.toNatClampNeg (i + (4 : Int32)))) _ e1) lk_L_146 (Nat.le_of_ble_eq_true rfl) (rcv_8 hK hP (q0 := 0) (gL (xp_0 cA ax x))) rfl hl rfl (Nat.le_of_ble_eq_true rfl) (dd D_law_21 34 rfl) ⟨by omega, by omega⟩ hP hD hS (fun H locs hP hD hS => ?_)
  refine lv_pop F.1 F.2.1 (dd D_law_21 35 rfl) rfl ?_
  refine lv_aload_n F.1 F.2.1 (dd D_law_21 36 rfl) rfl (lv_at hl 1 rfl) ?_
  refine lv_aload_n F.1 F.2.1 (dd D_law_21 37 rfl) rfl (lv_at hl 3 rfl) ?_
  refine lv_iload_n F.1 F.2.1 (dd D_law_21 38 rfl) rfl (lv_at hl 0 rfl) ?_
  refine lv_iconst (v := (1 : Int32)) F.1 F.2.1 (dd D_law_21 39 rfl) ki_1 ?_
  refine lv_iadd F.1 F.2.1 (dd D_law_22 0 rfl) ?_
  refine va_sld F.1 F.2.1 hX hbl hbA hS h1 (dd D_law_22 1 rfl) ?_
  refine lv_aload_n F.1 F.2.1 (dd D_law_22 2 rfl) rfl (lv_at hl 3 rfl) ?_
  refine lv_iload_n F.1 F.2.1 (dd D_law_22 3 rfl) rfl (lv_at hl 0 rfl) ?_
  refine lv_iconst (v := (2 : Int32)) F.1 F.2.1 (dd D_law_22 4 rfl) ki_2 ?_
  refine lv_iadd F.1 F.2.1 (dd D_law_22 5 rfl) ?_
  refine va_sld F.1 F.2.1 hX hbl hbA hS h2 (dd D_law_22 6 rfl) ?_
  refine lv_aload_n F.1 F.2.1 (dd D_law_22 7 rfl) rfl (lv_at hl 3 rfl) ?_
  refine lv_iload_n F.1 F.2.1 (dd D_law_22 8 rfl) rfl (lv_at hl 0 rfl) ?_
  refine lv_iconst (v := (3 : Int32)) F.1 F.2.1 (dd D_law_22 9 rfl) ki_3 ?_
  refine lv_iadd F.1 F.2.1 (dd D_law_22 10 rfl) ?_
  refine va_sld F.1 F.2.1 hX hbl hbA hS h3 (dd D_law_22 11 rfl) ?_
  refine lv_aload_n F.1 F.2.1 (dd D_law_22 12 rfl) rfl (lv_at hl 3 rfl) ?_
  refine lv_iload_n F.1 F.2.1 (dd D_law_22 13 rfl) rfl (lv_at hl 0 rfl) ?_
  refine lv_iconst (v := (4 : Int32)) F.1 F.2.1 (dd D_law_22 14 rfl) ki_4 ?_
  refine lv_iadd F.1 F.2.1 (dd D_law_22 15 rfl) ?_
  refine va_sld F.1 F.2.1 hX hbl hbA hS h4 (dd D_law_22 16 rfl) ?_
  refine lawW (rest := []) F hK hA hAb (c_X9_lights D cA am y 20000 (xs (Int32.toNatClampNeg (i + (1 : Int32)))) (xs (Int32.toNatClampNeg (i + (2 : Int32)))) (xs (Int32.toNatClampNeg (i + (3 : Int32)))) (xs (Int32.toNatClampNeg (i + (4 : Int32)))) _ e2) lk_L_150 (Nat.le_of_ble_eq_true rfl) (rcv_9 hK hP (q0 := 63 + (0)) (gR (xp_len cA ax x') (gL (mp_0 cA am y)))) rfl hl rfl (Nat.le_of_ble_eq_true rfl) (dd D_law_22 17 rfl) ⟨by omega, by omega⟩ hP hD hS (fun H locs hP hD hS => ?_)
  refine lv_pop F.1 F.2.1 (dd D_law_22 18 rfl) rfl ?_
  refine lv_goto (tgt := 2310) F.1 F.2.1 (dd D_law_22 19 rfl) rfl ?_
  exact kk x' y' H locs _ _ hP hD hS hR' (by omega) (by omega)
set_option maxHeartbeats 4000000 in
set_option maxRecDepth 100000 in
theorem case_32 (G : LG p m c s b L xs D cA) (h1 : vp_in (i + (1 : Int32)) L) (h2 : vp_in (i + (2 : Int32)) L) (h3 : vp_in (i + (3 : Int32)) L) (h4 : vp_in (i + (4 : Int32)) L) (h5 : vp_in (i + (5 : Int32)) L) (h6 : vp_in (i + (6 : Int32)) L) (hP : va_P D vwCl (xW cA ax x ++ (mW cA am y ++ KT)) H) (hD : va_D (AL s) (xW cA ax x ++ (mW cA am y ++ KT))) (hS : va_S (AL s) s.heap H locs) (hR : Rel x y ka ta mk) (hc : cells + 40 ≤ 600000 ∧ slots + 800 ≤ 7302250) (hl : lv_has ls 4 [(3, .int i), (2, .ref (am 0)), (1, .ref (ax 0)), (0, .ref b)])
    (kk : ∀ (x' : XS) (y' : MS) (H' : Heap) (locs' : List Loc) (cells' slots' : Nat), va_P D vwCl (xW cA ax x' ++ (mW cA am y' ++ KT)) H' → va_D (AL s) (xW cA ax x' ++ (mW cA am y' ++ KT)) → va_S (AL s) s.heap H' locs' → Rel x' y' ka ta mk → cells' ≤ cells + 40 → slots' ≤ slots + 800 → W p l e room_1 s m #[Value.ref b] below meth c H' locs' cells' slots' Q (F0 m 2310 ls [])) : W p l e room_1 s m #[Value.ref b] below meth c H locs cells slots Q (F0 m 1364 ls []) := by
  obtain ⟨F, hK, hE, hX, hbl, e9⟩ := G
  obtain ⟨hc1, hc2⟩ := hc
  have hA : ∀ q, s.heap.size ≤ q → AL s q := fun _ h => h
  have hAb : ∀ q, AL s q → cA 9 ≤ q := fun q h => by rw [e9]; exact h
  have hbA : ¬ AL s b := Nat.not_le.mpr hbl
  obtain ⟨r, x', y', e1, e2, hR'⟩ := ok_soonest (n := 20000) hR (Nat.le_refl _) (xs (Int32.toNatClampNeg (i + (1 : Int32)))) (xs (Int32.toNatClampNeg (i + (2 : Int32))))
  refine lv_aload_n F.1 F.2.1 (dd D_law_22 20 rfl) rfl (lv_at hl 2 rfl) ?_
  refine lv_aload_n F.1 F.2.1 (dd D_law_22 21 rfl) rfl (lv_at hl 3 rfl) ?_
  refine lv_iload_n F.1 F.2.1 (dd D_law_22 22 rfl) rfl (lv_at hl 0 rfl) ?_
  refine lv_iconst (v := (1 : Int32)) F.1 F.2.1 (dd D_law_22 23 rfl) ki_1 ?_
  refine lv_iadd F.1 F.2.1 (dd D_law_22 24 rfl) ?_
  refine va_sld F.1 F.2.1 hX hbl hbA hS h1 (dd D_law_22 25 rfl) ?_
  refine lv_aload_n F.1 F.2.1 (dd D_law_22 26 rfl) rfl (lv_at hl 3 rfl) ?_
  refine lv_iload_n F.1 F.2.1 (dd D_law_22 27 rfl) rfl (lv_at hl 0 rfl) ?_
  refine lv_iconst (v := (2 : Int32)) F.1 F.2.1 (dd D_law_22 28 rfl) ki_2 ?_
  refine lv_iadd F.1 F.2.1 (dd D_law_22 29 rfl) ?_
  refine va_sld F.1 F.2.1 hX hbl hbA hS h2 (dd D_law_22 30 rfl) ?_
  refine lawW0 (rest := []) F hK hA hAb (c_X8_soonest D cA ax x 20000 (xs (Int32.toNatClampNeg (i + (1 : Int32)))) (xs (Int32.toNatClampNeg (i + (2 : Int32)))) _ e1) lk_L_151 (Nat.le_of_ble_eq_true rfl) (rcv_8 hK hP (q0 := 0) (gL (xp_0 cA ax x))) rfl hl rfl (Nat.le_of_ble_eq_true rfl) (dd D_law_22 31 rfl) ⟨by omega, by omega⟩ hP hD hS (fun H locs hP hD hS => ?_)
  refine lv_pop F.1 F.2.1 (dd D_law_22 32 rfl) rfl ?_
  refine lv_aload_n F.1 F.2.1 (dd D_law_22 33 rfl) rfl (lv_at hl 1 rfl) ?_
  refine lv_aload_n F.1 F.2.1 (dd D_law_22 34 rfl) rfl (lv_at hl 3 rfl) ?_
  refine lv_iload_n F.1 F.2.1 (dd D_law_22 35 rfl) rfl (lv_at hl 0 rfl) ?_
  refine lv_iconst (v := (1 : Int32)) F.1 F.2.1 (dd D_law_22 36 rfl) ki_1 ?_
  refine lv_iadd F.1 F.2.1 (dd D_law_22 37 rfl) ?_
  refine va_sld F.1 F.2.1 hX hbl hbA hS h1 (dd D_law_22 38 rfl) ?_
  refine lv_aload_n F.1 F.2.1 (dd D_law_22 39 rfl) rfl (lv_at hl 3 rfl) ?_
  refine lv_iload_n F.1 F.2.1 (dd D_law_23 0 rfl) rfl (lv_at hl 0 rfl) ?_
  refine lv_iconst (v := (2 : Int32)) F.1 F.2.1 (dd D_law_23 1 rfl) ki_2 ?_
  refine lv_iadd F.1 F.2.1 (dd D_law_23 2 rfl) ?_
  refine va_sld F.1 F.2.1 hX hbl hbA hS h2 (dd D_law_23 3 rfl) ?_
  refine lawW (rest := []) F hK hA hAb (c_X9_soonest D cA am y 20000 (xs (Int32.toNatClampNeg (i + (1 : Int32)))) (xs (Int32.toNatClampNeg (i + (2 : Int32)))) _ e2) lk_L_154 (Nat.le_of_ble_eq_true rfl) (rcv_9 hK hP (q0 := 63 + (0)) (gR (xp_len cA ax x') (gL (mp_0 cA am y)))) rfl hl rfl (Nat.le_of_ble_eq_true rfl) (dd D_law_23 4 rfl) ⟨by omega, by omega⟩ hP hD hS (fun H locs hP hD hS => ?_)
  refine lv_pop F.1 F.2.1 (dd D_law_23 5 rfl) rfl ?_
  refine lv_goto (tgt := 2310) F.1 F.2.1 (dd D_law_23 6 rfl) rfl ?_
  exact kk x' y' H locs _ _ hP hD hS hR' (by omega) (by omega)
set_option maxHeartbeats 4000000 in
set_option maxRecDepth 100000 in
theorem case_33 (G : LG p m c s b L xs D cA) (h1 : vp_in (i + (1 : Int32)) L) (h2 : vp_in (i + (2 : Int32)) L) (h3 : vp_in (i + (3 : Int32)) L) (h4 : vp_in (i + (4 : Int32)) L) (h5 : vp_in (i + (5 : Int32)) L) (h6 : vp_in (i + (6 : Int32)) L) (hP : va_P D vwCl (xW cA ax x ++ (mW cA am y ++ KT)) H) (hD : va_D (AL s) (xW cA ax x ++ (mW cA am y ++ KT))) (hS : va_S (AL s) s.heap H locs) (hR : Rel x y ka ta mk) (hc : cells + 40 ≤ 600000 ∧ slots + 800 ≤ 7302250) (hl : lv_has ls 4 [(3, .int i), (2, .ref (am 0)), (1, .ref (ax 0)), (0, .ref b)])
    (kk : ∀ (x' : XS) (y' : MS) (H' : Heap) (locs' : List Loc) (cells' slots' : Nat), va_P D vwCl (xW cA ax x' ++ (mW cA am y' ++ KT)) H' → va_D (AL s) (xW cA ax x' ++ (mW cA am y' ++ KT)) → va_S (AL s) s.heap H' locs' → Rel x' y' ka ta mk → cells' ≤ cells + 40 → slots' ≤ slots + 800 → W p l e room_1 s m #[Value.ref b] below meth c H' locs' cells' slots' Q (F0 m 2310 ls [])) : W p l e room_1 s m #[Value.ref b] below meth c H locs cells slots Q (F0 m 1397 ls []) := by
  obtain ⟨F, hK, hE, hX, hbl, e9⟩ := G
  obtain ⟨hc1, hc2⟩ := hc
  have hA : ∀ q, s.heap.size ≤ q → AL s q := fun _ h => h
  have hAb : ∀ q, AL s q → cA 9 ≤ q := fun q h => by rw [e9]; exact h
  have hbA : ¬ AL s b := Nat.not_le.mpr hbl
  obtain ⟨r, x', y', e1, e2, hR'⟩ := ok_brightest (n := 20000) hR (Nat.le_refl _) (xs (Int32.toNatClampNeg (i + (1 : Int32)))) (xs (Int32.toNatClampNeg (i + (2 : Int32))))
  refine lv_aload_n F.1 F.2.1 (dd D_law_23 7 rfl) rfl (lv_at hl 2 rfl) ?_
  refine lv_aload_n F.1 F.2.1 (dd D_law_23 8 rfl) rfl (lv_at hl 3 rfl) ?_
  refine lv_iload_n F.1 F.2.1 (dd D_law_23 9 rfl) rfl (lv_at hl 0 rfl) ?_
  refine lv_iconst (v := (1 : Int32)) F.1 F.2.1 (dd D_law_23 10 rfl) ki_1 ?_
  refine lv_iadd F.1 F.2.1 (dd D_law_23 11 rfl) ?_
  refine va_sld F.1 F.2.1 hX hbl hbA hS h1 (dd D_law_23 12 rfl) ?_
  refine lv_aload_n F.1 F.2.1 (dd D_law_23 13 rfl) rfl (lv_at hl 3 rfl) ?_
  refine lv_iload_n F.1 F.2.1 (dd D_law_23 14 rfl) rfl (lv_at hl 0 rfl) ?_
  refine lv_iconst (v := (2 : Int32)) F.1 F.2.1 (dd D_law_23 15 rfl) ki_2 ?_
  refine lv_iadd F.1 F.2.1 (dd D_law_23 16 rfl) ?_
  refine va_sld F.1 F.2.1 hX hbl hbA hS h2 (dd D_law_23 17 rfl) ?_
  refine lawW0 (rest := []) F hK hA hAb (c_X8_brightest D cA ax x 20000 (xs (Int32.toNatClampNeg (i + (1 : Int32)))) (xs (Int32.toNatClampNeg (i + (2 : Int32)))) _ e1) lk_L_155 (Nat.le_of_ble_eq_true rfl) (rcv_8 hK hP (q0 := 0) (gL (xp_0 cA ax x))) rfl hl rfl (Nat.le_of_ble_eq_true rfl) (dd D_law_23 18 rfl) ⟨by omega, by omega⟩ hP hD hS (fun H locs hP hD hS => ?_)
  refine lv_pop F.1 F.2.1 (dd D_law_23 19 rfl) rfl ?_
  refine lv_aload_n F.1 F.2.1 (dd D_law_23 20 rfl) rfl (lv_at hl 1 rfl) ?_
  refine lv_aload_n F.1 F.2.1 (dd D_law_23 21 rfl) rfl (lv_at hl 3 rfl) ?_
  refine lv_iload_n F.1 F.2.1 (dd D_law_23 22 rfl) rfl (lv_at hl 0 rfl) ?_
  refine lv_iconst (v := (1 : Int32)) F.1 F.2.1 (dd D_law_23 23 rfl) ki_1 ?_
  refine lv_iadd F.1 F.2.1 (dd D_law_23 24 rfl) ?_
  refine va_sld F.1 F.2.1 hX hbl hbA hS h1 (dd D_law_23 25 rfl) ?_
  refine lv_aload_n F.1 F.2.1 (dd D_law_23 26 rfl) rfl (lv_at hl 3 rfl) ?_
  refine lv_iload_n F.1 F.2.1 (dd D_law_23 27 rfl) rfl (lv_at hl 0 rfl) ?_
  refine lv_iconst (v := (2 : Int32)) F.1 F.2.1 (dd D_law_23 28 rfl) ki_2 ?_
  refine lv_iadd F.1 F.2.1 (dd D_law_23 29 rfl) ?_
  refine va_sld F.1 F.2.1 hX hbl hbA hS h2 (dd D_law_23 30 rfl) ?_
  refine lawW (rest := []) F hK hA hAb (c_X9_brightest D cA am y 20000 (xs (Int32.toNatClampNeg (i + (1 : Int32)))) (xs (Int32.toNatClampNeg (i + (2 : Int32)))) _ e2) lk_L_158 (Nat.le_of_ble_eq_true rfl) (rcv_9 hK hP (q0 := 63 + (0)) (gR (xp_len cA ax x') (gL (mp_0 cA am y)))) rfl hl rfl (Nat.le_of_ble_eq_true rfl) (dd D_law_23 31 rfl) ⟨by omega, by omega⟩ hP hD hS (fun H locs hP hD hS => ?_)
  refine lv_pop F.1 F.2.1 (dd D_law_23 32 rfl) rfl ?_
  refine lv_goto (tgt := 2310) F.1 F.2.1 (dd D_law_23 33 rfl) rfl ?_
  exact kk x' y' H locs _ _ hP hD hS hR' (by omega) (by omega)
set_option maxHeartbeats 4000000 in
set_option maxRecDepth 100000 in
theorem case_34 (G : LG p m c s b L xs D cA) (h1 : vp_in (i + (1 : Int32)) L) (h2 : vp_in (i + (2 : Int32)) L) (h3 : vp_in (i + (3 : Int32)) L) (h4 : vp_in (i + (4 : Int32)) L) (h5 : vp_in (i + (5 : Int32)) L) (h6 : vp_in (i + (6 : Int32)) L) (hP : va_P D vwCl (xW cA ax x ++ (mW cA am y ++ KT)) H) (hD : va_D (AL s) (xW cA ax x ++ (mW cA am y ++ KT))) (hS : va_S (AL s) s.heap H locs) (hR : Rel x y ka ta mk) (hc : cells + 40 ≤ 600000 ∧ slots + 800 ≤ 7302250) (hl : lv_has ls 4 [(3, .int i), (2, .ref (am 0)), (1, .ref (ax 0)), (0, .ref b)])
    (kk : ∀ (x' : XS) (y' : MS) (H' : Heap) (locs' : List Loc) (cells' slots' : Nat), va_P D vwCl (xW cA ax x' ++ (mW cA am y' ++ KT)) H' → va_D (AL s) (xW cA ax x' ++ (mW cA am y' ++ KT)) → va_S (AL s) s.heap H' locs' → Rel x' y' ka ta mk → cells' ≤ cells + 40 → slots' ≤ slots + 800 → W p l e room_1 s m #[Value.ref b] below meth c H' locs' cells' slots' Q (F0 m 2310 ls [])) : W p l e room_1 s m #[Value.ref b] below meth c H locs cells slots Q (F0 m 1430 ls []) := by
  obtain ⟨F, hK, hE, hX, hbl, e9⟩ := G
  obtain ⟨hc1, hc2⟩ := hc
  have hA : ∀ q, s.heap.size ≤ q → AL s q := fun _ h => h
  have hAb : ∀ q, AL s q → cA 9 ≤ q := fun q h => by rw [e9]; exact h
  have hbA : ¬ AL s b := Nat.not_le.mpr hbl
  obtain ⟨r, x', y', e1, e2, hR'⟩ := ok_walks (n := 20000) hR (Nat.le_refl _) (xs (Int32.toNatClampNeg (i + (1 : Int32)))) (xs (Int32.toNatClampNeg (i + (2 : Int32)))) (xs (Int32.toNatClampNeg (i + (3 : Int32)))) (xs (Int32.toNatClampNeg (i + (4 : Int32)))) (xs (Int32.toNatClampNeg (i + (5 : Int32)))) (xs (Int32.toNatClampNeg (i + (6 : Int32))))
  refine lv_aload_n F.1 F.2.1 (dd D_law_23 34 rfl) rfl (lv_at hl 2 rfl) ?_
  refine lv_aload_n F.1 F.2.1 (dd D_law_23 35 rfl) rfl (lv_at hl 3 rfl) ?_
  refine lv_iload_n F.1 F.2.1 (dd D_law_23 36 rfl) rfl (lv_at hl 0 rfl) ?_
  refine lv_iconst (v := (1 : Int32)) F.1 F.2.1 (dd D_law_23 37 rfl) ki_1 ?_
  refine lv_iadd F.1 F.2.1 (dd D_law_23 38 rfl) ?_
  refine va_sld F.1 F.2.1 hX hbl hbA hS h1 (dd D_law_23 39 rfl) ?_
  refine lv_aload_n F.1 F.2.1 (dd D_law_24 0 rfl) rfl (lv_at hl 3 rfl) ?_
  refine lv_iload_n F.1 F.2.1 (dd D_law_24 1 rfl) rfl (lv_at hl 0 rfl) ?_
  refine lv_iconst (v := (2 : Int32)) F.1 F.2.1 (dd D_law_24 2 rfl) ki_2 ?_
  refine lv_iadd F.1 F.2.1 (dd D_law_24 3 rfl) ?_
  refine va_sld F.1 F.2.1 hX hbl hbA hS h2 (dd D_law_24 4 rfl) ?_
  refine lv_aload_n F.1 F.2.1 (dd D_law_24 5 rfl) rfl (lv_at hl 3 rfl) ?_
  refine lv_iload_n F.1 F.2.1 (dd D_law_24 6 rfl) rfl (lv_at hl 0 rfl) ?_
  refine lv_iconst (v := (3 : Int32)) F.1 F.2.1 (dd D_law_24 7 rfl) ki_3 ?_
  refine lv_iadd F.1 F.2.1 (dd D_law_24 8 rfl) ?_
  refine va_sld F.1 F.2.1 hX hbl hbA hS h3 (dd D_law_24 9 rfl) ?_
  refine lv_aload_n F.1 F.2.1 (dd D_law_24 10 rfl) rfl (lv_at hl 3 rfl) ?_
  refine lv_iload_n F.1 F.2.1 (dd D_law_24 11 rfl) rfl (lv_at hl 0 rfl) ?_
  refine lv_iconst (v := (4 : Int32)) F.1 F.2.1 (dd D_law_24 12 rfl) ki_4 ?_
  refine lv_iadd F.1 F.2.1 (dd D_law_24 13 rfl) ?_
  refine va_sld F.1 F.2.1 hX hbl hbA hS h4 (dd D_law_24 14 rfl) ?_
  refine lv_aload_n F.1 F.2.1 (dd D_law_24 15 rfl) rfl (lv_at hl 3 rfl) ?_
  refine lv_iload_n F.1 F.2.1 (dd D_law_24 16 rfl) rfl (lv_at hl 0 rfl) ?_
  refine lv_iconst (v := (5 : Int32)) F.1 F.2.1 (dd D_law_24 17 rfl) ki_5 ?_
  refine lv_iadd F.1 F.2.1 (dd D_law_24 18 rfl) ?_
  refine va_sld F.1 F.2.1 hX hbl hbA hS h5 (dd D_law_24 19 rfl) ?_
  refine lv_aload_n F.1 F.2.1 (dd D_law_24 20 rfl) rfl (lv_at hl 3 rfl) ?_
  refine lv_iload_n F.1 F.2.1 (dd D_law_24 21 rfl) rfl (lv_at hl 0 rfl) ?_
  refine lv_bipush (v := (6 : Int32)) F.1 F.2.1 (dd D_law_24 22 rfl) kb_6 ?_
  refine lv_iadd F.1 F.2.1 (dd D_law_24 23 rfl) ?_
  refine va_sld F.1 F.2.1 hX hbl hbA hS h6 (dd D_law_24 24 rfl) ?_
  refine lawW0 (rest := []) F hK hA hAb (c_X8_walks D cA ax x 20000 (xs (Int32.toNatClampNeg (i + (1 : Int32)))) (xs (Int32.toNatClampNeg (i + (2 : Int32)))) (xs (Int32.toNatClampNeg (i + (3 : Int32)))) (xs (Int32.toNatClampNeg (i + (4 : Int32)))) (xs (Int32.toNatClampNeg (i + (5 : Int32)))) (xs (Int32.toNatClampNeg (i + (6 : Int32)))) _ e1) lk_L_159 (Nat.le_of_ble_eq_true rfl) (rcv_8 hK hP (q0 := 0) (gL (xp_0 cA ax x))) rfl hl rfl (Nat.le_of_ble_eq_true rfl) (dd D_law_24 25 rfl) ⟨by omega, by omega⟩ hP hD hS (fun H locs hP hD hS => ?_)
  refine lv_pop F.1 F.2.1 (dd D_law_24 26 rfl) rfl ?_
  refine lv_aload_n F.1 F.2.1 (dd D_law_24 27 rfl) rfl (lv_at hl 1 rfl) ?_
  refine lv_aload_n F.1 F.2.1 (dd D_law_24 28 rfl) rfl (lv_at hl 3 rfl) ?_
  refine lv_iload_n F.1 F.2.1 (dd D_law_24 29 rfl) rfl (lv_at hl 0 rfl) ?_
  refine lv_iconst (v := (1 : Int32)) F.1 F.2.1 (dd D_law_24 30 rfl) ki_1 ?_
  refine lv_iadd F.1 F.2.1 (dd D_law_24 31 rfl) ?_
  refine va_sld F.1 F.2.1 hX hbl hbA hS h1 (dd D_law_24 32 rfl) ?_
  refine lv_aload_n F.1 F.2.1 (dd D_law_24 33 rfl) rfl (lv_at hl 3 rfl) ?_
  refine lv_iload_n F.1 F.2.1 (dd D_law_24 34 rfl) rfl (lv_at hl 0 rfl) ?_
  refine lv_iconst (v := (2 : Int32)) F.1 F.2.1 (dd D_law_24 35 rfl) ki_2 ?_
  refine lv_iadd F.1 F.2.1 (dd D_law_24 36 rfl) ?_
  refine va_sld F.1 F.2.1 hX hbl hbA hS h2 (dd D_law_24 37 rfl) ?_
  refine lv_aload_n F.1 F.2.1 (dd D_law_24 38 rfl) rfl (lv_at hl 3 rfl) ?_
  refine lv_iload_n F.1 F.2.1 (dd D_law_24 39 rfl) rfl (lv_at hl 0 rfl) ?_
  refine lv_iconst (v := (3 : Int32)) F.1 F.2.1 (dd D_law_25 0 rfl) ki_3 ?_
  refine lv_iadd F.1 F.2.1 (dd D_law_25 1 rfl) ?_
  refine va_sld F.1 F.2.1 hX hbl hbA hS h3 (dd D_law_25 2 rfl) ?_
  refine lv_aload_n F.1 F.2.1 (dd D_law_25 3 rfl) rfl (lv_at hl 3 rfl) ?_
  refine lv_iload_n F.1 F.2.1 (dd D_law_25 4 rfl) rfl (lv_at hl 0 rfl) ?_
  refine lv_iconst (v := (4 : Int32)) F.1 F.2.1 (dd D_law_25 5 rfl) ki_4 ?_
  refine lv_iadd F.1 F.2.1 (dd D_law_25 6 rfl) ?_
  refine va_sld F.1 F.2.1 hX hbl hbA hS h4 (dd D_law_25 7 rfl) ?_
  refine lv_aload_n F.1 F.2.1 (dd D_law_25 8 rfl) rfl (lv_at hl 3 rfl) ?_
  refine lv_iload_n F.1 F.2.1 (dd D_law_25 9 rfl) rfl (lv_at hl 0 rfl) ?_
  refine lv_iconst (v := (5 : Int32)) F.1 F.2.1 (dd D_law_25 10 rfl) ki_5 ?_
  refine lv_iadd F.1 F.2.1 (dd D_law_25 11 rfl) ?_
  refine va_sld F.1 F.2.1 hX hbl hbA hS h5 (dd D_law_25 12 rfl) ?_
  refine lv_aload_n F.1 F.2.1 (dd D_law_25 13 rfl) rfl (lv_at hl 3 rfl) ?_
  refine lv_iload_n F.1 F.2.1 (dd D_law_25 14 rfl) rfl (lv_at hl 0 rfl) ?_
  refine lv_bipush (v := (6 : Int32)) F.1 F.2.1 (dd D_law_25 15 rfl) kb_6 ?_
  refine lv_iadd F.1 F.2.1 (dd D_law_25 16 rfl) ?_
  refine va_sld F.1 F.2.1 hX hbl hbA hS h6 (dd D_law_25 17 rfl) ?_
  refine lawW (rest := []) F hK hA hAb (c_X9_walks D cA am y 20000 (xs (Int32.toNatClampNeg (i + (1 : Int32)))) (xs (Int32.toNatClampNeg (i + (2 : Int32)))) (xs (Int32.toNatClampNeg (i + (3 : Int32)))) (xs (Int32.toNatClampNeg (i + (4 : Int32)))) (xs (Int32.toNatClampNeg (i + (5 : Int32)))) (xs (Int32.toNatClampNeg (i + (6 : Int32)))) _ e2) lk_L_163 (Nat.le_of_ble_eq_true rfl) (rcv_9 hK hP (q0 := 63 + (0)) (gR (xp_len cA ax x') (gL (mp_0 cA am y)))) rfl hl rfl (Nat.le_of_ble_eq_true rfl) (dd D_law_25 18 rfl) ⟨by omega, by omega⟩ hP hD hS (fun H locs hP hD hS => ?_)
  refine lv_pop F.1 F.2.1 (dd D_law_25 19 rfl) rfl ?_
  refine lv_goto (tgt := 2310) F.1 F.2.1 (dd D_law_25 20 rfl) rfl ?_
  exact kk x' y' H locs _ _ hP hD hS hR' (by omega) (by omega)
set_option maxHeartbeats 4000000 in
set_option maxRecDepth 100000 in
theorem case_35 (G : LG p m c s b L xs D cA) (h1 : vp_in (i + (1 : Int32)) L) (h2 : vp_in (i + (2 : Int32)) L) (h3 : vp_in (i + (3 : Int32)) L) (h4 : vp_in (i + (4 : Int32)) L) (h5 : vp_in (i + (5 : Int32)) L) (h6 : vp_in (i + (6 : Int32)) L) (hP : va_P D vwCl (xW cA ax x ++ (mW cA am y ++ KT)) H) (hD : va_D (AL s) (xW cA ax x ++ (mW cA am y ++ KT))) (hS : va_S (AL s) s.heap H locs) (hR : Rel x y ka ta mk) (hc : cells + 40 ≤ 600000 ∧ slots + 800 ≤ 7302250) (hl : lv_has ls 4 [(3, .int i), (2, .ref (am 0)), (1, .ref (ax 0)), (0, .ref b)])
    (kk : ∀ (x' : XS) (y' : MS) (H' : Heap) (locs' : List Loc) (cells' slots' : Nat), va_P D vwCl (xW cA ax x' ++ (mW cA am y' ++ KT)) H' → va_D (AL s) (xW cA ax x' ++ (mW cA am y' ++ KT)) → va_S (AL s) s.heap H' locs' → Rel x' y' ka ta mk → cells' ≤ cells + 40 → slots' ≤ slots + 800 → W p l e room_1 s m #[Value.ref b] below meth c H' locs' cells' slots' Q (F0 m 2310 ls [])) : W p l e room_1 s m #[Value.ref b] below meth c H locs cells slots Q (F0 m 1505 ls []) := by
  obtain ⟨F, hK, hE, hX, hbl, e9⟩ := G
  obtain ⟨hc1, hc2⟩ := hc
  have hA : ∀ q, s.heap.size ≤ q → AL s q := fun _ h => h
  have hAb : ∀ q, AL s q → cA 9 ≤ q := fun q h => by rw [e9]; exact h
  have hbA : ¬ AL s b := Nat.not_le.mpr hbl
  obtain ⟨r, x', y', e1, e2, hR'⟩ := ok_overs (n := 20000) hR (Nat.le_refl _) (xs (Int32.toNatClampNeg (i + (1 : Int32)))) (xs (Int32.toNatClampNeg (i + (2 : Int32)))) (xs (Int32.toNatClampNeg (i + (3 : Int32)))) (xs (Int32.toNatClampNeg (i + (4 : Int32))))
  refine lv_aload_n F.1 F.2.1 (dd D_law_25 21 rfl) rfl (lv_at hl 2 rfl) ?_
  refine lv_aload_n F.1 F.2.1 (dd D_law_25 22 rfl) rfl (lv_at hl 3 rfl) ?_
  refine lv_iload_n F.1 F.2.1 (dd D_law_25 23 rfl) rfl (lv_at hl 0 rfl) ?_
  refine lv_iconst (v := (1 : Int32)) F.1 F.2.1 (dd D_law_25 24 rfl) ki_1 ?_
  refine lv_iadd F.1 F.2.1 (dd D_law_25 25 rfl) ?_
  refine va_sld F.1 F.2.1 hX hbl hbA hS h1 (dd D_law_25 26 rfl) ?_
  refine lv_aload_n F.1 F.2.1 (dd D_law_25 27 rfl) rfl (lv_at hl 3 rfl) ?_
  refine lv_iload_n F.1 F.2.1 (dd D_law_25 28 rfl) rfl (lv_at hl 0 rfl) ?_
  refine lv_iconst (v := (2 : Int32)) F.1 F.2.1 (dd D_law_25 29 rfl) ki_2 ?_
  refine lv_iadd F.1 F.2.1 (dd D_law_25 30 rfl) ?_
  refine va_sld F.1 F.2.1 hX hbl hbA hS h2 (dd D_law_25 31 rfl) ?_
  refine lv_aload_n F.1 F.2.1 (dd D_law_25 32 rfl) rfl (lv_at hl 3 rfl) ?_
  refine lv_iload_n F.1 F.2.1 (dd D_law_25 33 rfl) rfl (lv_at hl 0 rfl) ?_
  refine lv_iconst (v := (3 : Int32)) F.1 F.2.1 (dd D_law_25 34 rfl) ki_3 ?_
  refine lv_iadd F.1 F.2.1 (dd D_law_25 35 rfl) ?_
  refine va_sld F.1 F.2.1 hX hbl hbA hS h3 (dd D_law_25 36 rfl) ?_
  refine lv_aload_n F.1 F.2.1 (dd D_law_25 37 rfl) rfl (lv_at hl 3 rfl) ?_
  refine lv_iload_n F.1 F.2.1 (dd D_law_25 38 rfl) rfl (lv_at hl 0 rfl) ?_
  refine lv_iconst (v := (4 : Int32)) F.1 F.2.1 (dd D_law_25 39 rfl) ki_4 ?_
  refine lv_iadd F.1 F.2.1 (dd D_law_26 0 rfl) ?_
  refine va_sld F.1 F.2.1 hX hbl hbA hS h4 (dd D_law_26 1 rfl) ?_
  refine lawW0 (rest := []) F hK hA hAb (c_X8_overs D cA ax x 20000 (xs (Int32.toNatClampNeg (i + (1 : Int32)))) (xs (Int32.toNatClampNeg (i + (2 : Int32)))) (xs (Int32.toNatClampNeg (i + (3 : Int32)))) (xs (Int32.toNatClampNeg (i + (4 : Int32)))) _ e1) lk_L_164 (Nat.le_of_ble_eq_true rfl) (rcv_8 hK hP (q0 := 0) (gL (xp_0 cA ax x))) rfl hl rfl (Nat.le_of_ble_eq_true rfl) (dd D_law_26 2 rfl) ⟨by omega, by omega⟩ hP hD hS (fun H locs hP hD hS => ?_)
  refine lv_pop F.1 F.2.1 (dd D_law_26 3 rfl) rfl ?_
  refine lv_aload_n F.1 F.2.1 (dd D_law_26 4 rfl) rfl (lv_at hl 1 rfl) ?_
  refine lv_aload_n F.1 F.2.1 (dd D_law_26 5 rfl) rfl (lv_at hl 3 rfl) ?_
  refine lv_iload_n F.1 F.2.1 (dd D_law_26 6 rfl) rfl (lv_at hl 0 rfl) ?_
  refine lv_iconst (v := (1 : Int32)) F.1 F.2.1 (dd D_law_26 7 rfl) ki_1 ?_
  refine lv_iadd F.1 F.2.1 (dd D_law_26 8 rfl) ?_
  refine va_sld F.1 F.2.1 hX hbl hbA hS h1 (dd D_law_26 9 rfl) ?_
  refine lv_aload_n F.1 F.2.1 (dd D_law_26 10 rfl) rfl (lv_at hl 3 rfl) ?_
  refine lv_iload_n F.1 F.2.1 (dd D_law_26 11 rfl) rfl (lv_at hl 0 rfl) ?_
  refine lv_iconst (v := (2 : Int32)) F.1 F.2.1 (dd D_law_26 12 rfl) ki_2 ?_
  refine lv_iadd F.1 F.2.1 (dd D_law_26 13 rfl) ?_
  refine va_sld F.1 F.2.1 hX hbl hbA hS h2 (dd D_law_26 14 rfl) ?_
  refine lv_aload_n F.1 F.2.1 (dd D_law_26 15 rfl) rfl (lv_at hl 3 rfl) ?_
  refine lv_iload_n F.1 F.2.1 (dd D_law_26 16 rfl) rfl (lv_at hl 0 rfl) ?_
  refine lv_iconst (v := (3 : Int32)) F.1 F.2.1 (dd D_law_26 17 rfl) ki_3 ?_
  refine lv_iadd F.1 F.2.1 (dd D_law_26 18 rfl) ?_
  refine va_sld F.1 F.2.1 hX hbl hbA hS h3 (dd D_law_26 19 rfl) ?_
  refine lv_aload_n F.1 F.2.1 (dd D_law_26 20 rfl) rfl (lv_at hl 3 rfl) ?_
  refine lv_iload_n F.1 F.2.1 (dd D_law_26 21 rfl) rfl (lv_at hl 0 rfl) ?_
  refine lv_iconst (v := (4 : Int32)) F.1 F.2.1 (dd D_law_26 22 rfl) ki_4 ?_
  refine lv_iadd F.1 F.2.1 (dd D_law_26 23 rfl) ?_
  refine va_sld F.1 F.2.1 hX hbl hbA hS h4 (dd D_law_26 24 rfl) ?_
  refine lawW (rest := []) F hK hA hAb (c_X9_overs D cA am y 20000 (xs (Int32.toNatClampNeg (i + (1 : Int32)))) (xs (Int32.toNatClampNeg (i + (2 : Int32)))) (xs (Int32.toNatClampNeg (i + (3 : Int32)))) (xs (Int32.toNatClampNeg (i + (4 : Int32)))) _ e2) lk_L_167 (Nat.le_of_ble_eq_true rfl) (rcv_9 hK hP (q0 := 63 + (0)) (gR (xp_len cA ax x') (gL (mp_0 cA am y)))) rfl hl rfl (Nat.le_of_ble_eq_true rfl) (dd D_law_26 25 rfl) ⟨by omega, by omega⟩ hP hD hS (fun H locs hP hD hS => ?_)
  refine lv_pop F.1 F.2.1 (dd D_law_26 26 rfl) rfl ?_
  refine lv_goto (tgt := 2310) F.1 F.2.1 (dd D_law_26 27 rfl) rfl ?_
  exact kk x' y' H locs _ _ hP hD hS hR' (by omega) (by omega)
set_option maxHeartbeats 4000000 in
set_option maxRecDepth 100000 in
theorem case_36 (G : LG p m c s b L xs D cA) (h1 : vp_in (i + (1 : Int32)) L) (h2 : vp_in (i + (2 : Int32)) L) (h3 : vp_in (i + (3 : Int32)) L) (h4 : vp_in (i + (4 : Int32)) L) (h5 : vp_in (i + (5 : Int32)) L) (h6 : vp_in (i + (6 : Int32)) L) (hP : va_P D vwCl (xW cA ax x ++ (mW cA am y ++ KT)) H) (hD : va_D (AL s) (xW cA ax x ++ (mW cA am y ++ KT))) (hS : va_S (AL s) s.heap H locs) (hR : Rel x y ka ta mk) (hc : cells + 40 ≤ 600000 ∧ slots + 800 ≤ 7302250) (hl : lv_has ls 4 [(3, .int i), (2, .ref (am 0)), (1, .ref (ax 0)), (0, .ref b)])
    (kk : ∀ (x' : XS) (y' : MS) (H' : Heap) (locs' : List Loc) (cells' slots' : Nat), va_P D vwCl (xW cA ax x' ++ (mW cA am y' ++ KT)) H' → va_D (AL s) (xW cA ax x' ++ (mW cA am y' ++ KT)) → va_S (AL s) s.heap H' locs' → Rel x' y' ka ta mk → cells' ≤ cells + 40 → slots' ≤ slots + 800 → W p l e room_1 s m #[Value.ref b] below meth c H' locs' cells' slots' Q (F0 m 2310 ls [])) : W p l e room_1 s m #[Value.ref b] below meth c H locs cells slots Q (F0 m 1558 ls []) := by
  obtain ⟨F, hK, hE, hX, hbl, e9⟩ := G
  obtain ⟨hc1, hc2⟩ := hc
  have hA : ∀ q, s.heap.size ≤ q → AL s q := fun _ h => h
  have hAb : ∀ q, AL s q → cA 9 ≤ q := fun q h => by rw [e9]; exact h
  have hbA : ¬ AL s b := Nat.not_le.mpr hbl
  obtain ⟨r, x', y', e1, e2, hR'⟩ := ok_lates (n := 20000) hR (Nat.le_refl _) (xs (Int32.toNatClampNeg (i + (1 : Int32)))) (xs (Int32.toNatClampNeg (i + (2 : Int32)))) (xs (Int32.toNatClampNeg (i + (3 : Int32))))
  refine lv_aload_n F.1 F.2.1 (dd D_law_26 28 rfl) rfl (lv_at hl 2 rfl) ?_
  refine lv_aload_n F.1 F.2.1 (dd D_law_26 29 rfl) rfl (lv_at hl 3 rfl) ?_
  refine lv_iload_n F.1 F.2.1 (dd D_law_26 30 rfl) rfl (lv_at hl 0 rfl) ?_
  refine lv_iconst (v := (1 : Int32)) F.1 F.2.1 (dd D_law_26 31 rfl) ki_1 ?_
  refine lv_iadd F.1 F.2.1 (dd D_law_26 32 rfl) ?_
  refine va_sld F.1 F.2.1 hX hbl hbA hS h1 (dd D_law_26 33 rfl) ?_
  refine lv_aload_n F.1 F.2.1 (dd D_law_26 34 rfl) rfl (lv_at hl 3 rfl) ?_
  refine lv_iload_n F.1 F.2.1 (dd D_law_26 35 rfl) rfl (lv_at hl 0 rfl) ?_
  refine lv_iconst (v := (2 : Int32)) F.1 F.2.1 (dd D_law_26 36 rfl) ki_2 ?_
  refine lv_iadd F.1 F.2.1 (dd D_law_26 37 rfl) ?_
  refine va_sld F.1 F.2.1 hX hbl hbA hS h2 (dd D_law_26 38 rfl) ?_
  refine lv_aload_n F.1 F.2.1 (dd D_law_26 39 rfl) rfl (lv_at hl 3 rfl) ?_
  refine lv_iload_n F.1 F.2.1 (dd D_law_27 0 rfl) rfl (lv_at hl 0 rfl) ?_
  refine lv_iconst (v := (3 : Int32)) F.1 F.2.1 (dd D_law_27 1 rfl) ki_3 ?_
  refine lv_iadd F.1 F.2.1 (dd D_law_27 2 rfl) ?_
  refine va_sld F.1 F.2.1 hX hbl hbA hS h3 (dd D_law_27 3 rfl) ?_
  refine lawW0 (rest := []) F hK hA hAb (c_X8_lates D cA ax x 20000 (xs (Int32.toNatClampNeg (i + (1 : Int32)))) (xs (Int32.toNatClampNeg (i + (2 : Int32)))) (xs (Int32.toNatClampNeg (i + (3 : Int32)))) _ e1) lk_L_168 (Nat.le_of_ble_eq_true rfl) (rcv_8 hK hP (q0 := 0) (gL (xp_0 cA ax x))) rfl hl rfl (Nat.le_of_ble_eq_true rfl) (dd D_law_27 4 rfl) ⟨by omega, by omega⟩ hP hD hS (fun H locs hP hD hS => ?_)
  refine lv_pop F.1 F.2.1 (dd D_law_27 5 rfl) rfl ?_
  refine lv_aload_n F.1 F.2.1 (dd D_law_27 6 rfl) rfl (lv_at hl 1 rfl) ?_
  refine lv_aload_n F.1 F.2.1 (dd D_law_27 7 rfl) rfl (lv_at hl 3 rfl) ?_
  refine lv_iload_n F.1 F.2.1 (dd D_law_27 8 rfl) rfl (lv_at hl 0 rfl) ?_
  refine lv_iconst (v := (1 : Int32)) F.1 F.2.1 (dd D_law_27 9 rfl) ki_1 ?_
  refine lv_iadd F.1 F.2.1 (dd D_law_27 10 rfl) ?_
  refine va_sld F.1 F.2.1 hX hbl hbA hS h1 (dd D_law_27 11 rfl) ?_
  refine lv_aload_n F.1 F.2.1 (dd D_law_27 12 rfl) rfl (lv_at hl 3 rfl) ?_
  refine lv_iload_n F.1 F.2.1 (dd D_law_27 13 rfl) rfl (lv_at hl 0 rfl) ?_
  refine lv_iconst (v := (2 : Int32)) F.1 F.2.1 (dd D_law_27 14 rfl) ki_2 ?_
  refine lv_iadd F.1 F.2.1 (dd D_law_27 15 rfl) ?_
  refine va_sld F.1 F.2.1 hX hbl hbA hS h2 (dd D_law_27 16 rfl) ?_
  refine lv_aload_n F.1 F.2.1 (dd D_law_27 17 rfl) rfl (lv_at hl 3 rfl) ?_
  refine lv_iload_n F.1 F.2.1 (dd D_law_27 18 rfl) rfl (lv_at hl 0 rfl) ?_
  refine lv_iconst (v := (3 : Int32)) F.1 F.2.1 (dd D_law_27 19 rfl) ki_3 ?_
  refine lv_iadd F.1 F.2.1 (dd D_law_27 20 rfl) ?_
  refine va_sld F.1 F.2.1 hX hbl hbA hS h3 (dd D_law_27 21 rfl) ?_
  refine lawW (rest := []) F hK hA hAb (c_X9_lates D cA am y 20000 (xs (Int32.toNatClampNeg (i + (1 : Int32)))) (xs (Int32.toNatClampNeg (i + (2 : Int32)))) (xs (Int32.toNatClampNeg (i + (3 : Int32)))) _ e2) lk_L_171 (Nat.le_of_ble_eq_true rfl) (rcv_9 hK hP (q0 := 63 + (0)) (gR (xp_len cA ax x') (gL (mp_0 cA am y)))) rfl hl rfl (Nat.le_of_ble_eq_true rfl) (dd D_law_27 22 rfl) ⟨by omega, by omega⟩ hP hD hS (fun H locs hP hD hS => ?_)
  refine lv_pop F.1 F.2.1 (dd D_law_27 23 rfl) rfl ?_
  refine lv_goto (tgt := 2310) F.1 F.2.1 (dd D_law_27 24 rfl) rfl ?_
  exact kk x' y' H locs _ _ hP hD hS hR' (by omega) (by omega)
set_option maxHeartbeats 4000000 in
set_option maxRecDepth 100000 in
theorem case_37 (G : LG p m c s b L xs D cA) (h1 : vp_in (i + (1 : Int32)) L) (h2 : vp_in (i + (2 : Int32)) L) (h3 : vp_in (i + (3 : Int32)) L) (h4 : vp_in (i + (4 : Int32)) L) (h5 : vp_in (i + (5 : Int32)) L) (h6 : vp_in (i + (6 : Int32)) L) (hP : va_P D vwCl (xW cA ax x ++ (mW cA am y ++ KT)) H) (hD : va_D (AL s) (xW cA ax x ++ (mW cA am y ++ KT))) (hS : va_S (AL s) s.heap H locs) (hR : Rel x y ka ta mk) (hc : cells + 40 ≤ 600000 ∧ slots + 800 ≤ 7302250) (hl : lv_has ls 4 [(3, .int i), (2, .ref (am 0)), (1, .ref (ax 0)), (0, .ref b)])
    (kk : ∀ (x' : XS) (y' : MS) (H' : Heap) (locs' : List Loc) (cells' slots' : Nat), va_P D vwCl (xW cA ax x' ++ (mW cA am y' ++ KT)) H' → va_D (AL s) (xW cA ax x' ++ (mW cA am y' ++ KT)) → va_S (AL s) s.heap H' locs' → Rel x' y' ka ta mk → cells' ≤ cells + 40 → slots' ≤ slots + 800 → W p l e room_1 s m #[Value.ref b] below meth c H' locs' cells' slots' Q (F0 m 2310 ls [])) : W p l e room_1 s m #[Value.ref b] below meth c H locs cells slots Q (F0 m 1601 ls []) := by
  obtain ⟨F, hK, hE, hX, hbl, e9⟩ := G
  obtain ⟨hc1, hc2⟩ := hc
  have hA : ∀ q, s.heap.size ≤ q → AL s q := fun _ h => h
  have hAb : ∀ q, AL s q → cA 9 ≤ q := fun q h => by rw [e9]; exact h
  have hbA : ¬ AL s b := Nat.not_le.mpr hbl
  obtain ⟨r, x', y', e1, e2, hR'⟩ := ok_date (n := 20000) hR (Nat.le_refl _) (xs (Int32.toNatClampNeg (i + (1 : Int32))))
  refine lv_aload_n F.1 F.2.1 (dd D_law_27 25 rfl) rfl (lv_at hl 2 rfl) ?_
  refine lv_aload_n F.1 F.2.1 (dd D_law_27 26 rfl) rfl (lv_at hl 3 rfl) ?_
  refine lv_iload_n F.1 F.2.1 (dd D_law_27 27 rfl) rfl (lv_at hl 0 rfl) ?_
  refine lv_iconst (v := (1 : Int32)) F.1 F.2.1 (dd D_law_27 28 rfl) ki_1 ?_
  refine lv_iadd F.1 F.2.1 (dd D_law_27 29 rfl) ?_
  refine va_sld F.1 F.2.1 hX hbl hbA hS h1 (dd D_law_27 30 rfl) ?_
  refine lawW0 (rest := []) F hK hA hAb (c_X8_date D cA ax x 20000 (xs (Int32.toNatClampNeg (i + (1 : Int32)))) _ e1) lk_L_172 (Nat.le_of_ble_eq_true rfl) (rcv_8 hK hP (q0 := 0) (gL (xp_0 cA ax x))) rfl hl rfl (Nat.le_of_ble_eq_true rfl) (dd D_law_27 31 rfl) ⟨by omega, by omega⟩ hP hD hS (fun H locs hP hD hS => ?_)
  refine lv_pop F.1 F.2.1 (dd D_law_27 32 rfl) rfl ?_
  refine lv_aload_n F.1 F.2.1 (dd D_law_27 33 rfl) rfl (lv_at hl 1 rfl) ?_
  refine lv_aload_n F.1 F.2.1 (dd D_law_27 34 rfl) rfl (lv_at hl 3 rfl) ?_
  refine lv_iload_n F.1 F.2.1 (dd D_law_27 35 rfl) rfl (lv_at hl 0 rfl) ?_
  refine lv_iconst (v := (1 : Int32)) F.1 F.2.1 (dd D_law_27 36 rfl) ki_1 ?_
  refine lv_iadd F.1 F.2.1 (dd D_law_27 37 rfl) ?_
  refine va_sld F.1 F.2.1 hX hbl hbA hS h1 (dd D_law_27 38 rfl) ?_
  refine lawW (rest := []) F hK hA hAb (c_X9_date D cA am y 20000 (xs (Int32.toNatClampNeg (i + (1 : Int32)))) _ e2) lk_L_175 (Nat.le_of_ble_eq_true rfl) (rcv_9 hK hP (q0 := 63 + (0)) (gR (xp_len cA ax x') (gL (mp_0 cA am y)))) rfl hl rfl (Nat.le_of_ble_eq_true rfl) (dd D_law_27 39 rfl) ⟨by omega, by omega⟩ hP hD hS (fun H locs hP hD hS => ?_)
  refine lv_pop F.1 F.2.1 (dd D_law_28 0 rfl) rfl ?_
  refine lv_goto (tgt := 2310) F.1 F.2.1 (dd D_law_28 1 rfl) rfl ?_
  exact kk x' y' H locs _ _ hP hD hS hR' (by omega) (by omega)
set_option maxHeartbeats 4000000 in
set_option maxRecDepth 100000 in
theorem case_38 (G : LG p m c s b L xs D cA) (h1 : vp_in (i + (1 : Int32)) L) (h2 : vp_in (i + (2 : Int32)) L) (h3 : vp_in (i + (3 : Int32)) L) (h4 : vp_in (i + (4 : Int32)) L) (h5 : vp_in (i + (5 : Int32)) L) (h6 : vp_in (i + (6 : Int32)) L) (hP : va_P D vwCl (xW cA ax x ++ (mW cA am y ++ KT)) H) (hD : va_D (AL s) (xW cA ax x ++ (mW cA am y ++ KT))) (hS : va_S (AL s) s.heap H locs) (hR : Rel x y ka ta mk) (hc : cells + 40 ≤ 600000 ∧ slots + 800 ≤ 7302250) (hl : lv_has ls 4 [(3, .int i), (2, .ref (am 0)), (1, .ref (ax 0)), (0, .ref b)])
    (kk : ∀ (x' : XS) (y' : MS) (H' : Heap) (locs' : List Loc) (cells' slots' : Nat), va_P D vwCl (xW cA ax x' ++ (mW cA am y' ++ KT)) H' → va_D (AL s) (xW cA ax x' ++ (mW cA am y' ++ KT)) → va_S (AL s) s.heap H' locs' → Rel x' y' ka ta mk → cells' ≤ cells + 40 → slots' ≤ slots + 800 → W p l e room_1 s m #[Value.ref b] below meth c H' locs' cells' slots' Q (F0 m 2310 ls [])) : W p l e room_1 s m #[Value.ref b] below meth c H locs cells slots Q (F0 m 1624 ls []) := by
  obtain ⟨F, hK, hE, hX, hbl, e9⟩ := G
  obtain ⟨hc1, hc2⟩ := hc
  have hA : ∀ q, s.heap.size ≤ q → AL s q := fun _ h => h
  have hAb : ∀ q, AL s q → cA 9 ≤ q := fun q h => by rw [e9]; exact h
  have hbA : ¬ AL s b := Nat.not_le.mpr hbl
  obtain ⟨r, x', y', e1, e2, hR'⟩ := ok_months (n := 20000) hR (Nat.le_refl _) (xs (Int32.toNatClampNeg (i + (1 : Int32))))
  refine lv_aload_n F.1 F.2.1 (dd D_law_28 2 rfl) rfl (lv_at hl 2 rfl) ?_
  refine lv_aload_n F.1 F.2.1 (dd D_law_28 3 rfl) rfl (lv_at hl 3 rfl) ?_
  refine lv_iload_n F.1 F.2.1 (dd D_law_28 4 rfl) rfl (lv_at hl 0 rfl) ?_
  refine lv_iconst (v := (1 : Int32)) F.1 F.2.1 (dd D_law_28 5 rfl) ki_1 ?_
  refine lv_iadd F.1 F.2.1 (dd D_law_28 6 rfl) ?_
  refine va_sld F.1 F.2.1 hX hbl hbA hS h1 (dd D_law_28 7 rfl) ?_
  refine lawW0 (rest := []) F hK hA hAb (c_X8_months D cA ax x 20000 (xs (Int32.toNatClampNeg (i + (1 : Int32)))) _ e1) lk_L_176 (Nat.le_of_ble_eq_true rfl) (rcv_8 hK hP (q0 := 0) (gL (xp_0 cA ax x))) rfl hl rfl (Nat.le_of_ble_eq_true rfl) (dd D_law_28 8 rfl) ⟨by omega, by omega⟩ hP hD hS (fun H locs hP hD hS => ?_)
  refine lv_pop F.1 F.2.1 (dd D_law_28 9 rfl) rfl ?_
  refine lv_aload_n F.1 F.2.1 (dd D_law_28 10 rfl) rfl (lv_at hl 1 rfl) ?_
  refine lv_aload_n F.1 F.2.1 (dd D_law_28 11 rfl) rfl (lv_at hl 3 rfl) ?_
  refine lv_iload_n F.1 F.2.1 (dd D_law_28 12 rfl) rfl (lv_at hl 0 rfl) ?_
  refine lv_iconst (v := (1 : Int32)) F.1 F.2.1 (dd D_law_28 13 rfl) ki_1 ?_
  refine lv_iadd F.1 F.2.1 (dd D_law_28 14 rfl) ?_
  refine va_sld F.1 F.2.1 hX hbl hbA hS h1 (dd D_law_28 15 rfl) ?_
  refine lawW (rest := []) F hK hA hAb (c_X9_months D cA am y 20000 (xs (Int32.toNatClampNeg (i + (1 : Int32)))) _ e2) lk_L_179 (Nat.le_of_ble_eq_true rfl) (rcv_9 hK hP (q0 := 63 + (0)) (gR (xp_len cA ax x') (gL (mp_0 cA am y)))) rfl hl rfl (Nat.le_of_ble_eq_true rfl) (dd D_law_28 16 rfl) ⟨by omega, by omega⟩ hP hD hS (fun H locs hP hD hS => ?_)
  refine lv_pop F.1 F.2.1 (dd D_law_28 17 rfl) rfl ?_
  refine lv_goto (tgt := 2310) F.1 F.2.1 (dd D_law_28 18 rfl) rfl ?_
  exact kk x' y' H locs _ _ hP hD hS hR' (by omega) (by omega)
set_option maxHeartbeats 4000000 in
set_option maxRecDepth 100000 in
theorem case_39 (G : LG p m c s b L xs D cA) (h1 : vp_in (i + (1 : Int32)) L) (h2 : vp_in (i + (2 : Int32)) L) (h3 : vp_in (i + (3 : Int32)) L) (h4 : vp_in (i + (4 : Int32)) L) (h5 : vp_in (i + (5 : Int32)) L) (h6 : vp_in (i + (6 : Int32)) L) (hP : va_P D vwCl (xW cA ax x ++ (mW cA am y ++ KT)) H) (hD : va_D (AL s) (xW cA ax x ++ (mW cA am y ++ KT))) (hS : va_S (AL s) s.heap H locs) (hR : Rel x y ka ta mk) (hc : cells + 40 ≤ 600000 ∧ slots + 800 ≤ 7302250) (hl : lv_has ls 4 [(3, .int i), (2, .ref (am 0)), (1, .ref (ax 0)), (0, .ref b)])
    (kk : ∀ (x' : XS) (y' : MS) (H' : Heap) (locs' : List Loc) (cells' slots' : Nat), va_P D vwCl (xW cA ax x' ++ (mW cA am y' ++ KT)) H' → va_D (AL s) (xW cA ax x' ++ (mW cA am y' ++ KT)) → va_S (AL s) s.heap H' locs' → Rel x' y' ka ta mk → cells' ≤ cells + 40 → slots' ≤ slots + 800 → W p l e room_1 s m #[Value.ref b] below meth c H' locs' cells' slots' Q (F0 m 2310 ls [])) : W p l e room_1 s m #[Value.ref b] below meth c H locs cells slots Q (F0 m 1647 ls []) := by
  obtain ⟨F, hK, hE, hX, hbl, e9⟩ := G
  obtain ⟨hc1, hc2⟩ := hc
  have hA : ∀ q, s.heap.size ≤ q → AL s q := fun _ h => h
  have hAb : ∀ q, AL s q → cA 9 ≤ q := fun q h => by rw [e9]; exact h
  have hbA : ¬ AL s b := Nat.not_le.mpr hbl
  obtain ⟨r, x', y', e1, e2, hR'⟩ := ok_eclipse (n := 20000) hR (Nat.le_refl _) (xs (Int32.toNatClampNeg (i + (1 : Int32))))
  refine lv_aload_n F.1 F.2.1 (dd D_law_28 19 rfl) rfl (lv_at hl 2 rfl) ?_
  refine lv_aload_n F.1 F.2.1 (dd D_law_28 20 rfl) rfl (lv_at hl 3 rfl) ?_
  refine lv_iload_n F.1 F.2.1 (dd D_law_28 21 rfl) rfl (lv_at hl 0 rfl) ?_
  refine lv_iconst (v := (1 : Int32)) F.1 F.2.1 (dd D_law_28 22 rfl) ki_1 ?_
  refine lv_iadd F.1 F.2.1 (dd D_law_28 23 rfl) ?_
  refine va_sld F.1 F.2.1 hX hbl hbA hS h1 (dd D_law_28 24 rfl) ?_
  refine lawW0 (rest := []) F hK hA hAb (c_X8_eclipse D cA ax x 20000 (xs (Int32.toNatClampNeg (i + (1 : Int32)))) _ e1) lk_L_180 (Nat.le_of_ble_eq_true rfl) (rcv_8 hK hP (q0 := 0) (gL (xp_0 cA ax x))) rfl hl rfl (Nat.le_of_ble_eq_true rfl) (dd D_law_28 25 rfl) ⟨by omega, by omega⟩ hP hD hS (fun H locs hP hD hS => ?_)
  refine lv_pop F.1 F.2.1 (dd D_law_28 26 rfl) rfl ?_
  refine lv_aload_n F.1 F.2.1 (dd D_law_28 27 rfl) rfl (lv_at hl 1 rfl) ?_
  refine lv_aload_n F.1 F.2.1 (dd D_law_28 28 rfl) rfl (lv_at hl 3 rfl) ?_
  refine lv_iload_n F.1 F.2.1 (dd D_law_28 29 rfl) rfl (lv_at hl 0 rfl) ?_
  refine lv_iconst (v := (1 : Int32)) F.1 F.2.1 (dd D_law_28 30 rfl) ki_1 ?_
  refine lv_iadd F.1 F.2.1 (dd D_law_28 31 rfl) ?_
  refine va_sld F.1 F.2.1 hX hbl hbA hS h1 (dd D_law_28 32 rfl) ?_
  refine lawW (rest := []) F hK hA hAb (c_X9_eclipse D cA am y 20000 (xs (Int32.toNatClampNeg (i + (1 : Int32)))) _ e2) lk_L_183 (Nat.le_of_ble_eq_true rfl) (rcv_9 hK hP (q0 := 63 + (0)) (gR (xp_len cA ax x') (gL (mp_0 cA am y)))) rfl hl rfl (Nat.le_of_ble_eq_true rfl) (dd D_law_28 33 rfl) ⟨by omega, by omega⟩ hP hD hS (fun H locs hP hD hS => ?_)
  refine lv_pop F.1 F.2.1 (dd D_law_28 34 rfl) rfl ?_
  refine lv_goto (tgt := 2310) F.1 F.2.1 (dd D_law_28 35 rfl) rfl ?_
  exact kk x' y' H locs _ _ hP hD hS hR' (by omega) (by omega)
set_option maxHeartbeats 4000000 in
set_option maxRecDepth 100000 in
theorem case_40 (G : LG p m c s b L xs D cA) (h1 : vp_in (i + (1 : Int32)) L) (h2 : vp_in (i + (2 : Int32)) L) (h3 : vp_in (i + (3 : Int32)) L) (h4 : vp_in (i + (4 : Int32)) L) (h5 : vp_in (i + (5 : Int32)) L) (h6 : vp_in (i + (6 : Int32)) L) (hP : va_P D vwCl (xW cA ax x ++ (mW cA am y ++ KT)) H) (hD : va_D (AL s) (xW cA ax x ++ (mW cA am y ++ KT))) (hS : va_S (AL s) s.heap H locs) (hR : Rel x y ka ta mk) (hc : cells + 40 ≤ 600000 ∧ slots + 800 ≤ 7302250) (hl : lv_has ls 4 [(3, .int i), (2, .ref (am 0)), (1, .ref (ax 0)), (0, .ref b)])
    (kk : ∀ (x' : XS) (y' : MS) (H' : Heap) (locs' : List Loc) (cells' slots' : Nat), va_P D vwCl (xW cA ax x' ++ (mW cA am y' ++ KT)) H' → va_D (AL s) (xW cA ax x' ++ (mW cA am y' ++ KT)) → va_S (AL s) s.heap H' locs' → Rel x' y' ka ta mk → cells' ≤ cells + 40 → slots' ≤ slots + 800 → W p l e room_1 s m #[Value.ref b] below meth c H' locs' cells' slots' Q (F0 m 2310 ls [])) : W p l e room_1 s m #[Value.ref b] below meth c H locs cells slots Q (F0 m 1670 ls []) := by
  obtain ⟨F, hK, hE, hX, hbl, e9⟩ := G
  obtain ⟨hc1, hc2⟩ := hc
  have hA : ∀ q, s.heap.size ≤ q → AL s q := fun _ h => h
  have hAb : ∀ q, AL s q → cA 9 ≤ q := fun q h => by rw [e9]; exact h
  have hbA : ¬ AL s b := Nat.not_le.mpr hbl
  obtain ⟨r, x', y', e1, e2, hR'⟩ := ok_sees (n := 20000) hR (xs (Int32.toNatClampNeg (i + (1 : Int32)))) (xs (Int32.toNatClampNeg (i + (2 : Int32)))) (xs (Int32.toNatClampNeg (i + (3 : Int32))))
  refine lv_aload_n F.1 F.2.1 (dd D_law_28 36 rfl) rfl (lv_at hl 2 rfl) ?_
  refine lv_aload_n F.1 F.2.1 (dd D_law_28 37 rfl) rfl (lv_at hl 3 rfl) ?_
  refine lv_iload_n F.1 F.2.1 (dd D_law_28 38 rfl) rfl (lv_at hl 0 rfl) ?_
  refine lv_iconst (v := (1 : Int32)) F.1 F.2.1 (dd D_law_28 39 rfl) ki_1 ?_
  refine lv_iadd F.1 F.2.1 (dd D_law_29 0 rfl) ?_
  refine va_sld F.1 F.2.1 hX hbl hbA hS h1 (dd D_law_29 1 rfl) ?_
  refine lv_aload_n F.1 F.2.1 (dd D_law_29 2 rfl) rfl (lv_at hl 3 rfl) ?_
  refine lv_iload_n F.1 F.2.1 (dd D_law_29 3 rfl) rfl (lv_at hl 0 rfl) ?_
  refine lv_iconst (v := (2 : Int32)) F.1 F.2.1 (dd D_law_29 4 rfl) ki_2 ?_
  refine lv_iadd F.1 F.2.1 (dd D_law_29 5 rfl) ?_
  refine va_sld F.1 F.2.1 hX hbl hbA hS h2 (dd D_law_29 6 rfl) ?_
  refine lv_aload_n F.1 F.2.1 (dd D_law_29 7 rfl) rfl (lv_at hl 3 rfl) ?_
  refine lv_iload_n F.1 F.2.1 (dd D_law_29 8 rfl) rfl (lv_at hl 0 rfl) ?_
  refine lv_iconst (v := (3 : Int32)) F.1 F.2.1 (dd D_law_29 9 rfl) ki_3 ?_
  refine lv_iadd F.1 F.2.1 (dd D_law_29 10 rfl) ?_
  refine va_sld F.1 F.2.1 hX hbl hbA hS h3 (dd D_law_29 11 rfl) ?_
  refine lawW0 (rest := []) F hK hA hAb (c_X8_sees D cA ax x 20000 (xs (Int32.toNatClampNeg (i + (1 : Int32)))) (xs (Int32.toNatClampNeg (i + (2 : Int32)))) (xs (Int32.toNatClampNeg (i + (3 : Int32)))) _ e1) lk_L_184 (Nat.le_of_ble_eq_true rfl) (rcv_8 hK hP (q0 := 0) (gL (xp_0 cA ax x))) rfl hl rfl (Nat.le_of_ble_eq_true rfl) (dd D_law_29 12 rfl) ⟨by omega, by omega⟩ hP hD hS (fun H locs hP hD hS => ?_)
  refine lv_pop F.1 F.2.1 (dd D_law_29 13 rfl) rfl ?_
  refine lv_aload_n F.1 F.2.1 (dd D_law_29 14 rfl) rfl (lv_at hl 1 rfl) ?_
  refine lv_aload_n F.1 F.2.1 (dd D_law_29 15 rfl) rfl (lv_at hl 3 rfl) ?_
  refine lv_iload_n F.1 F.2.1 (dd D_law_29 16 rfl) rfl (lv_at hl 0 rfl) ?_
  refine lv_iconst (v := (1 : Int32)) F.1 F.2.1 (dd D_law_29 17 rfl) ki_1 ?_
  refine lv_iadd F.1 F.2.1 (dd D_law_29 18 rfl) ?_
  refine va_sld F.1 F.2.1 hX hbl hbA hS h1 (dd D_law_29 19 rfl) ?_
  refine lv_aload_n F.1 F.2.1 (dd D_law_29 20 rfl) rfl (lv_at hl 3 rfl) ?_
  refine lv_iload_n F.1 F.2.1 (dd D_law_29 21 rfl) rfl (lv_at hl 0 rfl) ?_
  refine lv_iconst (v := (2 : Int32)) F.1 F.2.1 (dd D_law_29 22 rfl) ki_2 ?_
  refine lv_iadd F.1 F.2.1 (dd D_law_29 23 rfl) ?_
  refine va_sld F.1 F.2.1 hX hbl hbA hS h2 (dd D_law_29 24 rfl) ?_
  refine lv_aload_n F.1 F.2.1 (dd D_law_29 25 rfl) rfl (lv_at hl 3 rfl) ?_
  refine lv_iload_n F.1 F.2.1 (dd D_law_29 26 rfl) rfl (lv_at hl 0 rfl) ?_
  refine lv_iconst (v := (3 : Int32)) F.1 F.2.1 (dd D_law_29 27 rfl) ki_3 ?_
  refine lv_iadd F.1 F.2.1 (dd D_law_29 28 rfl) ?_
  refine va_sld F.1 F.2.1 hX hbl hbA hS h3 (dd D_law_29 29 rfl) ?_
  refine lawW (rest := []) F hK hA hAb (c_X9_sees D cA am y 20000 (xs (Int32.toNatClampNeg (i + (1 : Int32)))) (xs (Int32.toNatClampNeg (i + (2 : Int32)))) (xs (Int32.toNatClampNeg (i + (3 : Int32)))) _ e2) lk_L_187 (Nat.le_of_ble_eq_true rfl) (rcv_9 hK hP (q0 := 63 + (0)) (gR (xp_len cA ax x') (gL (mp_0 cA am y)))) rfl hl rfl (Nat.le_of_ble_eq_true rfl) (dd D_law_29 30 rfl) ⟨by omega, by omega⟩ hP hD hS (fun H locs hP hD hS => ?_)
  refine lv_pop F.1 F.2.1 (dd D_law_29 31 rfl) rfl ?_
  refine lv_goto (tgt := 2310) F.1 F.2.1 (dd D_law_29 32 rfl) rfl ?_
  exact kk x' y' H locs _ _ hP hD hS hR' (by omega) (by omega)
set_option maxHeartbeats 4000000 in
set_option maxRecDepth 100000 in
theorem case_41 (G : LG p m c s b L xs D cA) (h1 : vp_in (i + (1 : Int32)) L) (h2 : vp_in (i + (2 : Int32)) L) (h3 : vp_in (i + (3 : Int32)) L) (h4 : vp_in (i + (4 : Int32)) L) (h5 : vp_in (i + (5 : Int32)) L) (h6 : vp_in (i + (6 : Int32)) L) (hP : va_P D vwCl (xW cA ax x ++ (mW cA am y ++ KT)) H) (hD : va_D (AL s) (xW cA ax x ++ (mW cA am y ++ KT))) (hS : va_S (AL s) s.heap H locs) (hR : Rel x y ka ta mk) (hc : cells + 40 ≤ 600000 ∧ slots + 800 ≤ 7302250) (hl : lv_has ls 4 [(3, .int i), (2, .ref (am 0)), (1, .ref (ax 0)), (0, .ref b)])
    (kk : ∀ (x' : XS) (y' : MS) (H' : Heap) (locs' : List Loc) (cells' slots' : Nat), va_P D vwCl (xW cA ax x' ++ (mW cA am y' ++ KT)) H' → va_D (AL s) (xW cA ax x' ++ (mW cA am y' ++ KT)) → va_S (AL s) s.heap H' locs' → Rel x' y' ka ta mk → cells' ≤ cells + 40 → slots' ≤ slots + 800 → W p l e room_1 s m #[Value.ref b] below meth c H' locs' cells' slots' Q (F0 m 2310 ls [])) : W p l e room_1 s m #[Value.ref b] below meth c H locs cells slots Q (F0 m 1713 ls []) := by
  obtain ⟨F, hK, hE, hX, hbl, e9⟩ := G
  obtain ⟨hc1, hc2⟩ := hc
  have hA : ∀ q, s.heap.size ≤ q → AL s q := fun _ h => h
  have hAb : ∀ q, AL s q → cA 9 ≤ q := fun q h => by rw [e9]; exact h
  have hbA : ¬ AL s b := Nat.not_le.mpr hbl
  obtain ⟨r, x', y', e1, e2, hR'⟩ := ok_picture (n := 20000) hR (Nat.le_refl _) (xs (Int32.toNatClampNeg (i + (1 : Int32)))) (xs (Int32.toNatClampNeg (i + (2 : Int32)))) (xs (Int32.toNatClampNeg (i + (3 : Int32))))
  refine lv_aload_n F.1 F.2.1 (dd D_law_29 33 rfl) rfl (lv_at hl 2 rfl) ?_
  refine lv_aload_n F.1 F.2.1 (dd D_law_29 34 rfl) rfl (lv_at hl 3 rfl) ?_
  refine lv_iload_n F.1 F.2.1 (dd D_law_29 35 rfl) rfl (lv_at hl 0 rfl) ?_
  refine lv_iconst (v := (1 : Int32)) F.1 F.2.1 (dd D_law_29 36 rfl) ki_1 ?_
  refine lv_iadd F.1 F.2.1 (dd D_law_29 37 rfl) ?_
  refine va_sld F.1 F.2.1 hX hbl hbA hS h1 (dd D_law_29 38 rfl) ?_
  refine lv_aload_n F.1 F.2.1 (dd D_law_29 39 rfl) rfl (lv_at hl 3 rfl) ?_
  refine lv_iload_n F.1 F.2.1 (dd D_law_30 0 rfl) rfl (lv_at hl 0 rfl) ?_
  refine lv_iconst (v := (2 : Int32)) F.1 F.2.1 (dd D_law_30 1 rfl) ki_2 ?_
  refine lv_iadd F.1 F.2.1 (dd D_law_30 2 rfl) ?_
  refine va_sld F.1 F.2.1 hX hbl hbA hS h2 (dd D_law_30 3 rfl) ?_
  refine lv_aload_n F.1 F.2.1 (dd D_law_30 4 rfl) rfl (lv_at hl 3 rfl) ?_
  refine lv_iload_n F.1 F.2.1 (dd D_law_30 5 rfl) rfl (lv_at hl 0 rfl) ?_
  refine lv_iconst (v := (3 : Int32)) F.1 F.2.1 (dd D_law_30 6 rfl) ki_3 ?_
  refine lv_iadd F.1 F.2.1 (dd D_law_30 7 rfl) ?_
  refine va_sld F.1 F.2.1 hX hbl hbA hS h3 (dd D_law_30 8 rfl) ?_
  refine lawW0 (rest := []) F hK hA hAb (c_X8_picture D cA ax x 20000 (xs (Int32.toNatClampNeg (i + (1 : Int32)))) (xs (Int32.toNatClampNeg (i + (2 : Int32)))) (xs (Int32.toNatClampNeg (i + (3 : Int32)))) _ e1) lk_L_188 (Nat.le_of_ble_eq_true rfl) (rcv_8 hK hP (q0 := 0) (gL (xp_0 cA ax x))) rfl hl rfl (Nat.le_of_ble_eq_true rfl) (dd D_law_30 9 rfl) ⟨by omega, by omega⟩ hP hD hS (fun H locs hP hD hS => ?_)
  refine lv_pop F.1 F.2.1 (dd D_law_30 10 rfl) rfl ?_
  refine lv_aload_n F.1 F.2.1 (dd D_law_30 11 rfl) rfl (lv_at hl 1 rfl) ?_
  refine lv_aload_n F.1 F.2.1 (dd D_law_30 12 rfl) rfl (lv_at hl 3 rfl) ?_
  refine lv_iload_n F.1 F.2.1 (dd D_law_30 13 rfl) rfl (lv_at hl 0 rfl) ?_
  refine lv_iconst (v := (1 : Int32)) F.1 F.2.1 (dd D_law_30 14 rfl) ki_1 ?_
  refine lv_iadd F.1 F.2.1 (dd D_law_30 15 rfl) ?_
  refine va_sld F.1 F.2.1 hX hbl hbA hS h1 (dd D_law_30 16 rfl) ?_
  refine lv_aload_n F.1 F.2.1 (dd D_law_30 17 rfl) rfl (lv_at hl 3 rfl) ?_
  refine lv_iload_n F.1 F.2.1 (dd D_law_30 18 rfl) rfl (lv_at hl 0 rfl) ?_
  refine lv_iconst (v := (2 : Int32)) F.1 F.2.1 (dd D_law_30 19 rfl) ki_2 ?_
  refine lv_iadd F.1 F.2.1 (dd D_law_30 20 rfl) ?_
  refine va_sld F.1 F.2.1 hX hbl hbA hS h2 (dd D_law_30 21 rfl) ?_
  refine lv_aload_n F.1 F.2.1 (dd D_law_30 22 rfl) rfl (lv_at hl 3 rfl) ?_
  refine lv_iload_n F.1 F.2.1 (dd D_law_30 23 rfl) rfl (lv_at hl 0 rfl) ?_
  refine lv_iconst (v := (3 : Int32)) F.1 F.2.1 (dd D_law_30 24 rfl) ki_3 ?_
  refine lv_iadd F.1 F.2.1 (dd D_law_30 25 rfl) ?_
  refine va_sld F.1 F.2.1 hX hbl hbA hS h3 (dd D_law_30 26 rfl) ?_
  refine lawW (rest := []) F hK hA hAb (c_X9_picture D cA am y 20000 (xs (Int32.toNatClampNeg (i + (1 : Int32)))) (xs (Int32.toNatClampNeg (i + (2 : Int32)))) (xs (Int32.toNatClampNeg (i + (3 : Int32)))) _ e2) lk_L_191 (Nat.le_of_ble_eq_true rfl) (rcv_9 hK hP (q0 := 63 + (0)) (gR (xp_len cA ax x') (gL (mp_0 cA am y)))) rfl hl rfl (Nat.le_of_ble_eq_true rfl) (dd D_law_30 27 rfl) ⟨by omega, by omega⟩ hP hD hS (fun H locs hP hD hS => ?_)
  refine lv_pop F.1 F.2.1 (dd D_law_30 28 rfl) rfl ?_
  refine lv_goto (tgt := 2310) F.1 F.2.1 (dd D_law_30 29 rfl) rfl ?_
  exact kk x' y' H locs _ _ hP hD hS hR' (by omega) (by omega)
set_option maxHeartbeats 4000000 in
set_option maxRecDepth 100000 in
theorem case_42 (G : LG p m c s b L xs D cA) (h1 : vp_in (i + (1 : Int32)) L) (h2 : vp_in (i + (2 : Int32)) L) (h3 : vp_in (i + (3 : Int32)) L) (h4 : vp_in (i + (4 : Int32)) L) (h5 : vp_in (i + (5 : Int32)) L) (h6 : vp_in (i + (6 : Int32)) L) (hP : va_P D vwCl (xW cA ax x ++ (mW cA am y ++ KT)) H) (hD : va_D (AL s) (xW cA ax x ++ (mW cA am y ++ KT))) (hS : va_S (AL s) s.heap H locs) (hR : Rel x y ka ta mk) (hc : cells + 40 ≤ 600000 ∧ slots + 800 ≤ 7302250) (hl : lv_has ls 4 [(3, .int i), (2, .ref (am 0)), (1, .ref (ax 0)), (0, .ref b)])
    (kk : ∀ (x' : XS) (y' : MS) (H' : Heap) (locs' : List Loc) (cells' slots' : Nat), va_P D vwCl (xW cA ax x' ++ (mW cA am y' ++ KT)) H' → va_D (AL s) (xW cA ax x' ++ (mW cA am y' ++ KT)) → va_S (AL s) s.heap H' locs' → Rel x' y' ka ta mk → cells' ≤ cells + 40 → slots' ≤ slots + 800 → W p l e room_1 s m #[Value.ref b] below meth c H' locs' cells' slots' Q (F0 m 2310 ls [])) : W p l e room_1 s m #[Value.ref b] below meth c H locs cells slots Q (F0 m 1756 ls []) := by
  obtain ⟨F, hK, hE, hX, hbl, e9⟩ := G
  obtain ⟨hc1, hc2⟩ := hc
  have hA : ∀ q, s.heap.size ≤ q → AL s q := fun _ h => h
  have hAb : ∀ q, AL s q → cA 9 ≤ q := fun q h => by rw [e9]; exact h
  have hbA : ¬ AL s b := Nat.not_le.mpr hbl
  obtain ⟨r, x', y', e1, e2, hR'⟩ := ok_seen (n := 20000) hR (Nat.le_refl _) (xs (Int32.toNatClampNeg (i + (1 : Int32)))) (xs (Int32.toNatClampNeg (i + (2 : Int32))))
  refine lv_aload_n F.1 F.2.1 (dd D_law_30 30 rfl) rfl (lv_at hl 2 rfl) ?_
  refine lv_aload_n F.1 F.2.1 (dd D_law_30 31 rfl) rfl (lv_at hl 3 rfl) ?_
  refine lv_iload_n F.1 F.2.1 (dd D_law_30 32 rfl) rfl (lv_at hl 0 rfl) ?_
  refine lv_iconst (v := (1 : Int32)) F.1 F.2.1 (dd D_law_30 33 rfl) ki_1 ?_
  refine lv_iadd F.1 F.2.1 (dd D_law_30 34 rfl) ?_
  refine va_sld F.1 F.2.1 hX hbl hbA hS h1 (dd D_law_30 35 rfl) ?_
  refine lv_aload_n F.1 F.2.1 (dd D_law_30 36 rfl) rfl (lv_at hl 3 rfl) ?_
  refine lv_iload_n F.1 F.2.1 (dd D_law_30 37 rfl) rfl (lv_at hl 0 rfl) ?_
  refine lv_iconst (v := (2 : Int32)) F.1 F.2.1 (dd D_law_30 38 rfl) ki_2 ?_
  refine lv_iadd F.1 F.2.1 (dd D_law_30 39 rfl) ?_
  refine va_sld F.1 F.2.1 hX hbl hbA hS h2 (dd D_law_31 0 rfl) ?_
  refine lawW0 (rest := []) F hK hA hAb (c_X8_seen D cA ax x 20000 (xs (Int32.toNatClampNeg (i + (1 : Int32)))) (xs (Int32.toNatClampNeg (i + (2 : Int32)))) _ e1) lk_L_192 (Nat.le_of_ble_eq_true rfl) (rcv_8 hK hP (q0 := 0) (gL (xp_0 cA ax x))) rfl hl rfl (Nat.le_of_ble_eq_true rfl) (dd D_law_31 1 rfl) ⟨by omega, by omega⟩ hP hD hS (fun H locs hP hD hS => ?_)
  refine lv_pop F.1 F.2.1 (dd D_law_31 2 rfl) rfl ?_
  refine lv_aload_n F.1 F.2.1 (dd D_law_31 3 rfl) rfl (lv_at hl 1 rfl) ?_
  refine lv_aload_n F.1 F.2.1 (dd D_law_31 4 rfl) rfl (lv_at hl 3 rfl) ?_
  refine lv_iload_n F.1 F.2.1 (dd D_law_31 5 rfl) rfl (lv_at hl 0 rfl) ?_
  refine lv_iconst (v := (1 : Int32)) F.1 F.2.1 (dd D_law_31 6 rfl) ki_1 ?_
  refine lv_iadd F.1 F.2.1 (dd D_law_31 7 rfl) ?_
  refine va_sld F.1 F.2.1 hX hbl hbA hS h1 (dd D_law_31 8 rfl) ?_
  refine lv_aload_n F.1 F.2.1 (dd D_law_31 9 rfl) rfl (lv_at hl 3 rfl) ?_
  refine lv_iload_n F.1 F.2.1 (dd D_law_31 10 rfl) rfl (lv_at hl 0 rfl) ?_
  refine lv_iconst (v := (2 : Int32)) F.1 F.2.1 (dd D_law_31 11 rfl) ki_2 ?_
  refine lv_iadd F.1 F.2.1 (dd D_law_31 12 rfl) ?_
  refine va_sld F.1 F.2.1 hX hbl hbA hS h2 (dd D_law_31 13 rfl) ?_
  refine lawW (rest := []) F hK hA hAb (c_X9_seen D cA am y 20000 (xs (Int32.toNatClampNeg (i + (1 : Int32)))) (xs (Int32.toNatClampNeg (i + (2 : Int32)))) _ e2) lk_L_195 (Nat.le_of_ble_eq_true rfl) (rcv_9 hK hP (q0 := 63 + (0)) (gR (xp_len cA ax x') (gL (mp_0 cA am y)))) rfl hl rfl (Nat.le_of_ble_eq_true rfl) (dd D_law_31 14 rfl) ⟨by omega, by omega⟩ hP hD hS (fun H locs hP hD hS => ?_)
  refine lv_pop F.1 F.2.1 (dd D_law_31 15 rfl) rfl ?_
  refine lv_goto (tgt := 2310) F.1 F.2.1 (dd D_law_31 16 rfl) rfl ?_
  exact kk x' y' H locs _ _ hP hD hS hR' (by omega) (by omega)
set_option maxHeartbeats 4000000 in
set_option maxRecDepth 100000 in
theorem case_43 (G : LG p m c s b L xs D cA) (h1 : vp_in (i + (1 : Int32)) L) (h2 : vp_in (i + (2 : Int32)) L) (h3 : vp_in (i + (3 : Int32)) L) (h4 : vp_in (i + (4 : Int32)) L) (h5 : vp_in (i + (5 : Int32)) L) (h6 : vp_in (i + (6 : Int32)) L) (hP : va_P D vwCl (xW cA ax x ++ (mW cA am y ++ KT)) H) (hD : va_D (AL s) (xW cA ax x ++ (mW cA am y ++ KT))) (hS : va_S (AL s) s.heap H locs) (hR : Rel x y ka ta mk) (hc : cells + 40 ≤ 600000 ∧ slots + 800 ≤ 7302250) (hl : lv_has ls 4 [(3, .int i), (2, .ref (am 0)), (1, .ref (ax 0)), (0, .ref b)])
    (kk : ∀ (x' : XS) (y' : MS) (H' : Heap) (locs' : List Loc) (cells' slots' : Nat), va_P D vwCl (xW cA ax x' ++ (mW cA am y' ++ KT)) H' → va_D (AL s) (xW cA ax x' ++ (mW cA am y' ++ KT)) → va_S (AL s) s.heap H' locs' → Rel x' y' ka ta mk → cells' ≤ cells + 40 → slots' ≤ slots + 800 → W p l e room_1 s m #[Value.ref b] below meth c H' locs' cells' slots' Q (F0 m 2310 ls [])) : W p l e room_1 s m #[Value.ref b] below meth c H locs cells slots Q (F0 m 1789 ls []) := by
  obtain ⟨F, hK, hE, hX, hbl, e9⟩ := G
  obtain ⟨hc1, hc2⟩ := hc
  have hA : ∀ q, s.heap.size ≤ q → AL s q := fun _ h => h
  have hAb : ∀ q, AL s q → cA 9 ≤ q := fun q h => by rw [e9]; exact h
  have hbA : ¬ AL s b := Nat.not_le.mpr hbl
  obtain ⟨r, x', y', e1, e2, hR'⟩ := ok_court (n := 20000) hR (Nat.le_refl _) (xs (Int32.toNatClampNeg (i + (1 : Int32)))) (xs (Int32.toNatClampNeg (i + (2 : Int32))))
  refine lv_aload_n F.1 F.2.1 (dd D_law_31 17 rfl) rfl (lv_at hl 2 rfl) ?_
  refine lv_aload_n F.1 F.2.1 (dd D_law_31 18 rfl) rfl (lv_at hl 3 rfl) ?_
  refine lv_iload_n F.1 F.2.1 (dd D_law_31 19 rfl) rfl (lv_at hl 0 rfl) ?_
  refine lv_iconst (v := (1 : Int32)) F.1 F.2.1 (dd D_law_31 20 rfl) ki_1 ?_
  refine lv_iadd F.1 F.2.1 (dd D_law_31 21 rfl) ?_
  refine va_sld F.1 F.2.1 hX hbl hbA hS h1 (dd D_law_31 22 rfl) ?_
  refine lv_aload_n F.1 F.2.1 (dd D_law_31 23 rfl) rfl (lv_at hl 3 rfl) ?_
  refine lv_iload_n F.1 F.2.1 (dd D_law_31 24 rfl) rfl (lv_at hl 0 rfl) ?_
  refine lv_iconst (v := (2 : Int32)) F.1 F.2.1 (dd D_law_31 25 rfl) ki_2 ?_
  refine lv_iadd F.1 F.2.1 (dd D_law_31 26 rfl) ?_
  refine va_sld F.1 F.2.1 hX hbl hbA hS h2 (dd D_law_31 27 rfl) ?_
  refine lawW0 (rest := []) F hK hA hAb (c_X8_court D cA ax x 20000 (xs (Int32.toNatClampNeg (i + (1 : Int32)))) (xs (Int32.toNatClampNeg (i + (2 : Int32)))) _ e1) lk_L_196 (Nat.le_of_ble_eq_true rfl) (rcv_8 hK hP (q0 := 0) (gL (xp_0 cA ax x))) rfl hl rfl (Nat.le_of_ble_eq_true rfl) (dd D_law_31 28 rfl) ⟨by omega, by omega⟩ hP hD hS (fun H locs hP hD hS => ?_)
  refine lv_pop F.1 F.2.1 (dd D_law_31 29 rfl) rfl ?_
  refine lv_aload_n F.1 F.2.1 (dd D_law_31 30 rfl) rfl (lv_at hl 1 rfl) ?_
  refine lv_aload_n F.1 F.2.1 (dd D_law_31 31 rfl) rfl (lv_at hl 3 rfl) ?_
  refine lv_iload_n F.1 F.2.1 (dd D_law_31 32 rfl) rfl (lv_at hl 0 rfl) ?_
  refine lv_iconst (v := (1 : Int32)) F.1 F.2.1 (dd D_law_31 33 rfl) ki_1 ?_
  refine lv_iadd F.1 F.2.1 (dd D_law_31 34 rfl) ?_
  refine va_sld F.1 F.2.1 hX hbl hbA hS h1 (dd D_law_31 35 rfl) ?_
  refine lv_aload_n F.1 F.2.1 (dd D_law_31 36 rfl) rfl (lv_at hl 3 rfl) ?_
  refine lv_iload_n F.1 F.2.1 (dd D_law_31 37 rfl) rfl (lv_at hl 0 rfl) ?_
  refine lv_iconst (v := (2 : Int32)) F.1 F.2.1 (dd D_law_31 38 rfl) ki_2 ?_
  refine lv_iadd F.1 F.2.1 (dd D_law_31 39 rfl) ?_
  refine va_sld F.1 F.2.1 hX hbl hbA hS h2 (dd D_law_32 0 rfl) ?_
  refine lawW (rest := []) F hK hA hAb (c_X9_court D cA am y 20000 (xs (Int32.toNatClampNeg (i + (1 : Int32)))) (xs (Int32.toNatClampNeg (i + (2 : Int32)))) _ e2) lk_L_199 (Nat.le_of_ble_eq_true rfl) (rcv_9 hK hP (q0 := 63 + (0)) (gR (xp_len cA ax x') (gL (mp_0 cA am y)))) rfl hl rfl (Nat.le_of_ble_eq_true rfl) (dd D_law_32 1 rfl) ⟨by omega, by omega⟩ hP hD hS (fun H locs hP hD hS => ?_)
  refine lv_pop F.1 F.2.1 (dd D_law_32 2 rfl) rfl ?_
  refine lv_goto (tgt := 2310) F.1 F.2.1 (dd D_law_32 3 rfl) rfl ?_
  exact kk x' y' H locs _ _ hP hD hS hR' (by omega) (by omega)
set_option maxHeartbeats 4000000 in
set_option maxRecDepth 100000 in
theorem case_44 (G : LG p m c s b L xs D cA) (h1 : vp_in (i + (1 : Int32)) L) (h2 : vp_in (i + (2 : Int32)) L) (h3 : vp_in (i + (3 : Int32)) L) (h4 : vp_in (i + (4 : Int32)) L) (h5 : vp_in (i + (5 : Int32)) L) (h6 : vp_in (i + (6 : Int32)) L) (hP : va_P D vwCl (xW cA ax x ++ (mW cA am y ++ KT)) H) (hD : va_D (AL s) (xW cA ax x ++ (mW cA am y ++ KT))) (hS : va_S (AL s) s.heap H locs) (hR : Rel x y ka ta mk) (hc : cells + 40 ≤ 600000 ∧ slots + 800 ≤ 7302250) (hl : lv_has ls 4 [(3, .int i), (2, .ref (am 0)), (1, .ref (ax 0)), (0, .ref b)])
    (kk : ∀ (x' : XS) (y' : MS) (H' : Heap) (locs' : List Loc) (cells' slots' : Nat), va_P D vwCl (xW cA ax x' ++ (mW cA am y' ++ KT)) H' → va_D (AL s) (xW cA ax x' ++ (mW cA am y' ++ KT)) → va_S (AL s) s.heap H' locs' → Rel x' y' ka ta mk → cells' ≤ cells + 40 → slots' ≤ slots + 800 → W p l e room_1 s m #[Value.ref b] below meth c H' locs' cells' slots' Q (F0 m 2310 ls [])) : W p l e room_1 s m #[Value.ref b] below meth c H locs cells slots Q (F0 m 1822 ls []) := by
  obtain ⟨F, hK, hE, hX, hbl, e9⟩ := G
  obtain ⟨hc1, hc2⟩ := hc
  have hA : ∀ q, s.heap.size ≤ q → AL s q := fun _ h => h
  have hAb : ∀ q, AL s q → cA 9 ≤ q := fun q h => by rw [e9]; exact h
  have hbA : ¬ AL s b := Nat.not_le.mpr hbl
  obtain ⟨r, x', y', e1, e2, hR'⟩ := ok_eager (n := 20000) hR (Nat.le_refl _) (xs (Int32.toNatClampNeg (i + (1 : Int32)))) (xs (Int32.toNatClampNeg (i + (2 : Int32))))
  refine lv_aload_n F.1 F.2.1 (dd D_law_32 4 rfl) rfl (lv_at hl 2 rfl) ?_
  refine lv_aload_n F.1 F.2.1 (dd D_law_32 5 rfl) rfl (lv_at hl 3 rfl) ?_
  refine lv_iload_n F.1 F.2.1 (dd D_law_32 6 rfl) rfl (lv_at hl 0 rfl) ?_
  refine lv_iconst (v := (1 : Int32)) F.1 F.2.1 (dd D_law_32 7 rfl) ki_1 ?_
  refine lv_iadd F.1 F.2.1 (dd D_law_32 8 rfl) ?_
  refine va_sld F.1 F.2.1 hX hbl hbA hS h1 (dd D_law_32 9 rfl) ?_
  refine lv_aload_n F.1 F.2.1 (dd D_law_32 10 rfl) rfl (lv_at hl 3 rfl) ?_
  refine lv_iload_n F.1 F.2.1 (dd D_law_32 11 rfl) rfl (lv_at hl 0 rfl) ?_
  refine lv_iconst (v := (2 : Int32)) F.1 F.2.1 (dd D_law_32 12 rfl) ki_2 ?_
  refine lv_iadd F.1 F.2.1 (dd D_law_32 13 rfl) ?_
  refine va_sld F.1 F.2.1 hX hbl hbA hS h2 (dd D_law_32 14 rfl) ?_
  refine lawW0 (rest := []) F hK hA hAb (c_X8_eager D cA ax x 20000 (xs (Int32.toNatClampNeg (i + (1 : Int32)))) (xs (Int32.toNatClampNeg (i + (2 : Int32)))) _ e1) lk_L_200 (Nat.le_of_ble_eq_true rfl) (rcv_8 hK hP (q0 := 0) (gL (xp_0 cA ax x))) rfl hl rfl (Nat.le_of_ble_eq_true rfl) (dd D_law_32 15 rfl) ⟨by omega, by omega⟩ hP hD hS (fun H locs hP hD hS => ?_)
  refine lv_pop F.1 F.2.1 (dd D_law_32 16 rfl) rfl ?_
  refine lv_aload_n F.1 F.2.1 (dd D_law_32 17 rfl) rfl (lv_at hl 1 rfl) ?_
  refine lv_aload_n F.1 F.2.1 (dd D_law_32 18 rfl) rfl (lv_at hl 3 rfl) ?_
  refine lv_iload_n F.1 F.2.1 (dd D_law_32 19 rfl) rfl (lv_at hl 0 rfl) ?_
  refine lv_iconst (v := (1 : Int32)) F.1 F.2.1 (dd D_law_32 20 rfl) ki_1 ?_
  refine lv_iadd F.1 F.2.1 (dd D_law_32 21 rfl) ?_
  refine va_sld F.1 F.2.1 hX hbl hbA hS h1 (dd D_law_32 22 rfl) ?_
  refine lv_aload_n F.1 F.2.1 (dd D_law_32 23 rfl) rfl (lv_at hl 3 rfl) ?_
  refine lv_iload_n F.1 F.2.1 (dd D_law_32 24 rfl) rfl (lv_at hl 0 rfl) ?_
  refine lv_iconst (v := (2 : Int32)) F.1 F.2.1 (dd D_law_32 25 rfl) ki_2 ?_
  refine lv_iadd F.1 F.2.1 (dd D_law_32 26 rfl) ?_
  refine va_sld F.1 F.2.1 hX hbl hbA hS h2 (dd D_law_32 27 rfl) ?_
  refine lawW (rest := []) F hK hA hAb (c_X9_eager D cA am y 20000 (xs (Int32.toNatClampNeg (i + (1 : Int32)))) (xs (Int32.toNatClampNeg (i + (2 : Int32)))) _ e2) lk_L_203 (Nat.le_of_ble_eq_true rfl) (rcv_9 hK hP (q0 := 63 + (0)) (gR (xp_len cA ax x') (gL (mp_0 cA am y)))) rfl hl rfl (Nat.le_of_ble_eq_true rfl) (dd D_law_32 28 rfl) ⟨by omega, by omega⟩ hP hD hS (fun H locs hP hD hS => ?_)
  refine lv_pop F.1 F.2.1 (dd D_law_32 29 rfl) rfl ?_
  refine lv_goto (tgt := 2310) F.1 F.2.1 (dd D_law_32 30 rfl) rfl ?_
  exact kk x' y' H locs _ _ hP hD hS hR' (by omega) (by omega)
set_option maxHeartbeats 4000000 in
set_option maxRecDepth 100000 in
theorem case_45 (G : LG p m c s b L xs D cA) (h1 : vp_in (i + (1 : Int32)) L) (h2 : vp_in (i + (2 : Int32)) L) (h3 : vp_in (i + (3 : Int32)) L) (h4 : vp_in (i + (4 : Int32)) L) (h5 : vp_in (i + (5 : Int32)) L) (h6 : vp_in (i + (6 : Int32)) L) (hP : va_P D vwCl (xW cA ax x ++ (mW cA am y ++ KT)) H) (hD : va_D (AL s) (xW cA ax x ++ (mW cA am y ++ KT))) (hS : va_S (AL s) s.heap H locs) (hR : Rel x y ka ta mk) (hc : cells + 40 ≤ 600000 ∧ slots + 800 ≤ 7302250) (hl : lv_has ls 4 [(3, .int i), (2, .ref (am 0)), (1, .ref (ax 0)), (0, .ref b)])
    (kk : ∀ (x' : XS) (y' : MS) (H' : Heap) (locs' : List Loc) (cells' slots' : Nat), va_P D vwCl (xW cA ax x' ++ (mW cA am y' ++ KT)) H' → va_D (AL s) (xW cA ax x' ++ (mW cA am y' ++ KT)) → va_S (AL s) s.heap H' locs' → Rel x' y' ka ta mk → cells' ≤ cells + 40 → slots' ≤ slots + 800 → W p l e room_1 s m #[Value.ref b] below meth c H' locs' cells' slots' Q (F0 m 2310 ls [])) : W p l e room_1 s m #[Value.ref b] below meth c H locs cells slots Q (F0 m 1855 ls []) := by
  obtain ⟨F, hK, hE, hX, hbl, e9⟩ := G
  obtain ⟨hc1, hc2⟩ := hc
  have hA : ∀ q, s.heap.size ≤ q → AL s q := fun _ h => h
  have hAb : ∀ q, AL s q → cA 9 ≤ q := fun q h => by rw [e9]; exact h
  have hbA : ¬ AL s b := Nat.not_le.mpr hbl
  obtain ⟨r, x', y', e1, e2, hR'⟩ := ok_tide (n := 20000) hR (xs (Int32.toNatClampNeg (i + (1 : Int32)))) (xs (Int32.toNatClampNeg (i + (2 : Int32))))
  refine lv_aload_n F.1 F.2.1 (dd D_law_32 31 rfl) rfl (lv_at hl 2 rfl) ?_
  refine lv_aload_n F.1 F.2.1 (dd D_law_32 32 rfl) rfl (lv_at hl 3 rfl) ?_
  refine lv_iload_n F.1 F.2.1 (dd D_law_32 33 rfl) rfl (lv_at hl 0 rfl) ?_
  refine lv_iconst (v := (1 : Int32)) F.1 F.2.1 (dd D_law_32 34 rfl) ki_1 ?_
  refine lv_iadd F.1 F.2.1 (dd D_law_32 35 rfl) ?_
  refine va_sld F.1 F.2.1 hX hbl hbA hS h1 (dd D_law_32 36 rfl) ?_
  refine lv_aload_n F.1 F.2.1 (dd D_law_32 37 rfl) rfl (lv_at hl 3 rfl) ?_
  refine lv_iload_n F.1 F.2.1 (dd D_law_32 38 rfl) rfl (lv_at hl 0 rfl) ?_
  refine lv_iconst (v := (2 : Int32)) F.1 F.2.1 (dd D_law_32 39 rfl) ki_2 ?_
  refine lv_iadd F.1 F.2.1 (dd D_law_33 0 rfl) ?_
  refine va_sld F.1 F.2.1 hX hbl hbA hS h2 (dd D_law_33 1 rfl) ?_
  refine lawW0 (rest := []) F hK hA hAb (c_X8_tide D cA ax x 20000 (xs (Int32.toNatClampNeg (i + (1 : Int32)))) (xs (Int32.toNatClampNeg (i + (2 : Int32)))) _ e1) lk_L_204 (Nat.le_of_ble_eq_true rfl) (rcv_8 hK hP (q0 := 0) (gL (xp_0 cA ax x))) rfl hl rfl (Nat.le_of_ble_eq_true rfl) (dd D_law_33 2 rfl) ⟨by omega, by omega⟩ hP hD hS (fun H locs hP hD hS => ?_)
  refine lv_pop F.1 F.2.1 (dd D_law_33 3 rfl) rfl ?_
  refine lv_aload_n F.1 F.2.1 (dd D_law_33 4 rfl) rfl (lv_at hl 1 rfl) ?_
  refine lv_aload_n F.1 F.2.1 (dd D_law_33 5 rfl) rfl (lv_at hl 3 rfl) ?_
  refine lv_iload_n F.1 F.2.1 (dd D_law_33 6 rfl) rfl (lv_at hl 0 rfl) ?_
  refine lv_iconst (v := (1 : Int32)) F.1 F.2.1 (dd D_law_33 7 rfl) ki_1 ?_
  refine lv_iadd F.1 F.2.1 (dd D_law_33 8 rfl) ?_
  refine va_sld F.1 F.2.1 hX hbl hbA hS h1 (dd D_law_33 9 rfl) ?_
  refine lv_aload_n F.1 F.2.1 (dd D_law_33 10 rfl) rfl (lv_at hl 3 rfl) ?_
  refine lv_iload_n F.1 F.2.1 (dd D_law_33 11 rfl) rfl (lv_at hl 0 rfl) ?_
  refine lv_iconst (v := (2 : Int32)) F.1 F.2.1 (dd D_law_33 12 rfl) ki_2 ?_
  refine lv_iadd F.1 F.2.1 (dd D_law_33 13 rfl) ?_
  refine va_sld F.1 F.2.1 hX hbl hbA hS h2 (dd D_law_33 14 rfl) ?_
  refine lawW (rest := []) F hK hA hAb (c_X9_tide D cA am y 20000 (xs (Int32.toNatClampNeg (i + (1 : Int32)))) (xs (Int32.toNatClampNeg (i + (2 : Int32)))) _ e2) lk_L_207 (Nat.le_of_ble_eq_true rfl) (rcv_9 hK hP (q0 := 63 + (0)) (gR (xp_len cA ax x') (gL (mp_0 cA am y)))) rfl hl rfl (Nat.le_of_ble_eq_true rfl) (dd D_law_33 15 rfl) ⟨by omega, by omega⟩ hP hD hS (fun H locs hP hD hS => ?_)
  refine lv_pop F.1 F.2.1 (dd D_law_33 16 rfl) rfl ?_
  refine lv_goto (tgt := 2310) F.1 F.2.1 (dd D_law_33 17 rfl) rfl ?_
  exact kk x' y' H locs _ _ hP hD hS hR' (by omega) (by omega)
set_option maxHeartbeats 4000000 in
set_option maxRecDepth 100000 in
theorem case_46 (G : LG p m c s b L xs D cA) (h1 : vp_in (i + (1 : Int32)) L) (h2 : vp_in (i + (2 : Int32)) L) (h3 : vp_in (i + (3 : Int32)) L) (h4 : vp_in (i + (4 : Int32)) L) (h5 : vp_in (i + (5 : Int32)) L) (h6 : vp_in (i + (6 : Int32)) L) (hP : va_P D vwCl (xW cA ax x ++ (mW cA am y ++ KT)) H) (hD : va_D (AL s) (xW cA ax x ++ (mW cA am y ++ KT))) (hS : va_S (AL s) s.heap H locs) (hR : Rel x y ka ta mk) (hc : cells + 40 ≤ 600000 ∧ slots + 800 ≤ 7302250) (hl : lv_has ls 4 [(3, .int i), (2, .ref (am 0)), (1, .ref (ax 0)), (0, .ref b)])
    (kk : ∀ (x' : XS) (y' : MS) (H' : Heap) (locs' : List Loc) (cells' slots' : Nat), va_P D vwCl (xW cA ax x' ++ (mW cA am y' ++ KT)) H' → va_D (AL s) (xW cA ax x' ++ (mW cA am y' ++ KT)) → va_S (AL s) s.heap H' locs' → Rel x' y' ka ta mk → cells' ≤ cells + 40 → slots' ≤ slots + 800 → W p l e room_1 s m #[Value.ref b] below meth c H' locs' cells' slots' Q (F0 m 2310 ls [])) : W p l e room_1 s m #[Value.ref b] below meth c H locs cells slots Q (F0 m 1888 ls []) := by
  obtain ⟨F, hK, hE, hX, hbl, e9⟩ := G
  obtain ⟨hc1, hc2⟩ := hc
  have hA : ∀ q, s.heap.size ≤ q → AL s q := fun _ h => h
  have hAb : ∀ q, AL s q → cA 9 ≤ q := fun q h => by rw [e9]; exact h
  have hbA : ¬ AL s b := Nat.not_le.mpr hbl
  obtain ⟨r, x', y', e1, e2, hR'⟩ := ok_high (n := 20000) hR (xs (Int32.toNatClampNeg (i + (1 : Int32))))
  refine lv_aload_n F.1 F.2.1 (dd D_law_33 18 rfl) rfl (lv_at hl 2 rfl) ?_
  refine lv_aload_n F.1 F.2.1 (dd D_law_33 19 rfl) rfl (lv_at hl 3 rfl) ?_
  refine lv_iload_n F.1 F.2.1 (dd D_law_33 20 rfl) rfl (lv_at hl 0 rfl) ?_
  refine lv_iconst (v := (1 : Int32)) F.1 F.2.1 (dd D_law_33 21 rfl) ki_1 ?_
  refine lv_iadd F.1 F.2.1 (dd D_law_33 22 rfl) ?_
  refine va_sld F.1 F.2.1 hX hbl hbA hS h1 (dd D_law_33 23 rfl) ?_
  refine lawW0 (rest := []) F hK hA hAb (c_X8_high D cA ax x 20000 (xs (Int32.toNatClampNeg (i + (1 : Int32)))) _ e1) lk_L_208 (Nat.le_of_ble_eq_true rfl) (rcv_8 hK hP (q0 := 0) (gL (xp_0 cA ax x))) rfl hl rfl (Nat.le_of_ble_eq_true rfl) (dd D_law_33 24 rfl) ⟨by omega, by omega⟩ hP hD hS (fun H locs hP hD hS => ?_)
  refine lv_pop F.1 F.2.1 (dd D_law_33 25 rfl) rfl ?_
  refine lv_aload_n F.1 F.2.1 (dd D_law_33 26 rfl) rfl (lv_at hl 1 rfl) ?_
  refine lv_aload_n F.1 F.2.1 (dd D_law_33 27 rfl) rfl (lv_at hl 3 rfl) ?_
  refine lv_iload_n F.1 F.2.1 (dd D_law_33 28 rfl) rfl (lv_at hl 0 rfl) ?_
  refine lv_iconst (v := (1 : Int32)) F.1 F.2.1 (dd D_law_33 29 rfl) ki_1 ?_
  refine lv_iadd F.1 F.2.1 (dd D_law_33 30 rfl) ?_
  refine va_sld F.1 F.2.1 hX hbl hbA hS h1 (dd D_law_33 31 rfl) ?_
  refine lawW (rest := []) F hK hA hAb (c_X9_high D cA am y 20000 (xs (Int32.toNatClampNeg (i + (1 : Int32)))) _ e2) lk_L_211 (Nat.le_of_ble_eq_true rfl) (rcv_9 hK hP (q0 := 63 + (0)) (gR (xp_len cA ax x') (gL (mp_0 cA am y)))) rfl hl rfl (Nat.le_of_ble_eq_true rfl) (dd D_law_33 32 rfl) ⟨by omega, by omega⟩ hP hD hS (fun H locs hP hD hS => ?_)
  refine lv_pop F.1 F.2.1 (dd D_law_33 33 rfl) rfl ?_
  refine lv_goto (tgt := 2310) F.1 F.2.1 (dd D_law_33 34 rfl) rfl ?_
  exact kk x' y' H locs _ _ hP hD hS hR' (by omega) (by omega)
set_option maxHeartbeats 4000000 in
set_option maxRecDepth 100000 in
theorem case_47 (G : LG p m c s b L xs D cA) (h1 : vp_in (i + (1 : Int32)) L) (h2 : vp_in (i + (2 : Int32)) L) (h3 : vp_in (i + (3 : Int32)) L) (h4 : vp_in (i + (4 : Int32)) L) (h5 : vp_in (i + (5 : Int32)) L) (h6 : vp_in (i + (6 : Int32)) L) (hP : va_P D vwCl (xW cA ax x ++ (mW cA am y ++ KT)) H) (hD : va_D (AL s) (xW cA ax x ++ (mW cA am y ++ KT))) (hS : va_S (AL s) s.heap H locs) (hR : Rel x y ka ta mk) (hc : cells + 40 ≤ 600000 ∧ slots + 800 ≤ 7302250) (hl : lv_has ls 4 [(3, .int i), (2, .ref (am 0)), (1, .ref (ax 0)), (0, .ref b)])
    (kk : ∀ (x' : XS) (y' : MS) (H' : Heap) (locs' : List Loc) (cells' slots' : Nat), va_P D vwCl (xW cA ax x' ++ (mW cA am y' ++ KT)) H' → va_D (AL s) (xW cA ax x' ++ (mW cA am y' ++ KT)) → va_S (AL s) s.heap H' locs' → Rel x' y' ka ta mk → cells' ≤ cells + 40 → slots' ≤ slots + 800 → W p l e room_1 s m #[Value.ref b] below meth c H' locs' cells' slots' Q (F0 m 2310 ls [])) : W p l e room_1 s m #[Value.ref b] below meth c H locs cells slots Q (F0 m 1911 ls []) := by
  obtain ⟨F, hK, hE, hX, hbl, e9⟩ := G
  obtain ⟨hc1, hc2⟩ := hc
  have hA : ∀ q, s.heap.size ≤ q → AL s q := fun _ h => h
  have hAb : ∀ q, AL s q → cA 9 ≤ q := fun q h => by rw [e9]; exact h
  have hbA : ¬ AL s b := Nat.not_le.mpr hbl
  obtain ⟨r, r2, x', y', e1, e2, hR'⟩ := (ok_bone (n := 20000) hR (Nat.le_refl _) (xs (Int32.toNatClampNeg (i + (1 : Int32)))) (xs (Int32.toNatClampNeg (i + (2 : Int32)))) (xs (Int32.toNatClampNeg (i + (3 : Int32))))).1
  refine lv_aload_n F.1 F.2.1 (dd D_law_33 35 rfl) rfl (lv_at hl 2 rfl) ?_
  refine lv_aload_n F.1 F.2.1 (dd D_law_33 36 rfl) rfl (lv_at hl 3 rfl) ?_
  refine lv_iload_n F.1 F.2.1 (dd D_law_33 37 rfl) rfl (lv_at hl 0 rfl) ?_
  refine lv_iconst (v := (1 : Int32)) F.1 F.2.1 (dd D_law_33 38 rfl) ki_1 ?_
  refine lv_iadd F.1 F.2.1 (dd D_law_33 39 rfl) ?_
  refine va_sld F.1 F.2.1 hX hbl hbA hS h1 (dd D_law_34 0 rfl) ?_
  refine lv_aload_n F.1 F.2.1 (dd D_law_34 1 rfl) rfl (lv_at hl 3 rfl) ?_
  refine lv_iload_n F.1 F.2.1 (dd D_law_34 2 rfl) rfl (lv_at hl 0 rfl) ?_
  refine lv_iconst (v := (2 : Int32)) F.1 F.2.1 (dd D_law_34 3 rfl) ki_2 ?_
  refine lv_iadd F.1 F.2.1 (dd D_law_34 4 rfl) ?_
  refine va_sld F.1 F.2.1 hX hbl hbA hS h2 (dd D_law_34 5 rfl) ?_
  refine lv_aload_n F.1 F.2.1 (dd D_law_34 6 rfl) rfl (lv_at hl 3 rfl) ?_
  refine lv_iload_n F.1 F.2.1 (dd D_law_34 7 rfl) rfl (lv_at hl 0 rfl) ?_
  refine lv_iconst (v := (3 : Int32)) F.1 F.2.1 (dd D_law_34 8 rfl) ki_3 ?_
  refine lv_iadd F.1 F.2.1 (dd D_law_34 9 rfl) ?_
  refine va_sld F.1 F.2.1 hX hbl hbA hS h3 (dd D_law_34 10 rfl) ?_
  refine lawW0 (rest := []) F hK hA hAb (c_X8_bone D cA ax x 20000 (xs (Int32.toNatClampNeg (i + (1 : Int32)))) (xs (Int32.toNatClampNeg (i + (2 : Int32)))) (xs (Int32.toNatClampNeg (i + (3 : Int32)))) _ e1) lk_L_212 (Nat.le_of_ble_eq_true rfl) (rcv_8 hK hP (q0 := 0) (gL (xp_0 cA ax x))) rfl hl rfl (Nat.le_of_ble_eq_true rfl) (dd D_law_34 11 rfl) ⟨by omega, by omega⟩ hP hD hS (fun H locs hP hD hS => ?_)
  refine lv_pop F.1 F.2.1 (dd D_law_34 12 rfl) rfl ?_
  refine lv_aload_n F.1 F.2.1 (dd D_law_34 13 rfl) rfl (lv_at hl 1 rfl) ?_
  refine lv_aload_n F.1 F.2.1 (dd D_law_34 14 rfl) rfl (lv_at hl 3 rfl) ?_
  refine lv_iload_n F.1 F.2.1 (dd D_law_34 15 rfl) rfl (lv_at hl 0 rfl) ?_
  refine lv_iconst (v := (1 : Int32)) F.1 F.2.1 (dd D_law_34 16 rfl) ki_1 ?_
  refine lv_iadd F.1 F.2.1 (dd D_law_34 17 rfl) ?_
  refine va_sld F.1 F.2.1 hX hbl hbA hS h1 (dd D_law_34 18 rfl) ?_
  refine lv_aload_n F.1 F.2.1 (dd D_law_34 19 rfl) rfl (lv_at hl 3 rfl) ?_
  refine lv_iload_n F.1 F.2.1 (dd D_law_34 20 rfl) rfl (lv_at hl 0 rfl) ?_
  refine lv_iconst (v := (2 : Int32)) F.1 F.2.1 (dd D_law_34 21 rfl) ki_2 ?_
  refine lv_iadd F.1 F.2.1 (dd D_law_34 22 rfl) ?_
  refine va_sld F.1 F.2.1 hX hbl hbA hS h2 (dd D_law_34 23 rfl) ?_
  refine lv_aload_n F.1 F.2.1 (dd D_law_34 24 rfl) rfl (lv_at hl 3 rfl) ?_
  refine lv_iload_n F.1 F.2.1 (dd D_law_34 25 rfl) rfl (lv_at hl 0 rfl) ?_
  refine lv_iconst (v := (3 : Int32)) F.1 F.2.1 (dd D_law_34 26 rfl) ki_3 ?_
  refine lv_iadd F.1 F.2.1 (dd D_law_34 27 rfl) ?_
  refine va_sld F.1 F.2.1 hX hbl hbA hS h3 (dd D_law_34 28 rfl) ?_
  refine lawW (rest := []) F hK hA hAb (c_X9_bone D cA am y 20000 (xs (Int32.toNatClampNeg (i + (1 : Int32)))) (xs (Int32.toNatClampNeg (i + (2 : Int32)))) (xs (Int32.toNatClampNeg (i + (3 : Int32)))) _ e2) lk_L_215 (Nat.le_of_ble_eq_true rfl) (rcv_9 hK hP (q0 := 63 + (0)) (gR (xp_len cA ax x') (gL (mp_0 cA am y)))) rfl hl rfl (Nat.le_of_ble_eq_true rfl) (dd D_law_34 29 rfl) ⟨by omega, by omega⟩ hP hD hS (fun H locs hP hD hS => ?_)
  refine lv_pop F.1 F.2.1 (dd D_law_34 30 rfl) rfl ?_
  refine lv_goto (tgt := 2310) F.1 F.2.1 (dd D_law_34 31 rfl) rfl ?_
  exact kk x' y' H locs _ _ hP hD hS hR' (by omega) (by omega)
set_option maxHeartbeats 4000000 in
set_option maxRecDepth 100000 in
theorem case_48 (G : LG p m c s b L xs D cA) (h1 : vp_in (i + (1 : Int32)) L) (h2 : vp_in (i + (2 : Int32)) L) (h3 : vp_in (i + (3 : Int32)) L) (h4 : vp_in (i + (4 : Int32)) L) (h5 : vp_in (i + (5 : Int32)) L) (h6 : vp_in (i + (6 : Int32)) L) (hP : va_P D vwCl (xW cA ax x ++ (mW cA am y ++ KT)) H) (hD : va_D (AL s) (xW cA ax x ++ (mW cA am y ++ KT))) (hS : va_S (AL s) s.heap H locs) (hR : Rel x y ka ta mk) (hc : cells + 40 ≤ 600000 ∧ slots + 800 ≤ 7302250) (hl : lv_has ls 4 [(3, .int i), (2, .ref (am 0)), (1, .ref (ax 0)), (0, .ref b)])
    (kk : ∀ (x' : XS) (y' : MS) (H' : Heap) (locs' : List Loc) (cells' slots' : Nat), va_P D vwCl (xW cA ax x' ++ (mW cA am y' ++ KT)) H' → va_D (AL s) (xW cA ax x' ++ (mW cA am y' ++ KT)) → va_S (AL s) s.heap H' locs' → Rel x' y' ka ta mk → cells' ≤ cells + 40 → slots' ≤ slots + 800 → W p l e room_1 s m #[Value.ref b] below meth c H' locs' cells' slots' Q (F0 m 2310 ls [])) : W p l e room_1 s m #[Value.ref b] below meth c H locs cells slots Q (F0 m 1954 ls []) := by
  obtain ⟨F, hK, hE, hX, hbl, e9⟩ := G
  obtain ⟨hc1, hc2⟩ := hc
  have hA : ∀ q, s.heap.size ≤ q → AL s q := fun _ h => h
  have hAb : ∀ q, AL s q → cA 9 ≤ q := fun q h => by rw [e9]; exact h
  have hbA : ¬ AL s b := Nat.not_le.mpr hbl
  obtain ⟨r, x', y', e1, e2, hR'⟩ := ok_hits (n := 20000) hR (Nat.le_refl _) (xs (Int32.toNatClampNeg (i + (1 : Int32)))) (xs (Int32.toNatClampNeg (i + (2 : Int32)))) (xs (Int32.toNatClampNeg (i + (3 : Int32))))
  refine lv_aload_n F.1 F.2.1 (dd D_law_34 32 rfl) rfl (lv_at hl 2 rfl) ?_
  refine lv_aload_n F.1 F.2.1 (dd D_law_34 33 rfl) rfl (lv_at hl 3 rfl) ?_
  refine lv_iload_n F.1 F.2.1 (dd D_law_34 34 rfl) rfl (lv_at hl 0 rfl) ?_
  refine lv_iconst (v := (1 : Int32)) F.1 F.2.1 (dd D_law_34 35 rfl) ki_1 ?_
  refine lv_iadd F.1 F.2.1 (dd D_law_34 36 rfl) ?_
  refine va_sld F.1 F.2.1 hX hbl hbA hS h1 (dd D_law_34 37 rfl) ?_
  refine lv_aload_n F.1 F.2.1 (dd D_law_34 38 rfl) rfl (lv_at hl 3 rfl) ?_
  refine lv_iload_n F.1 F.2.1 (dd D_law_34 39 rfl) rfl (lv_at hl 0 rfl) ?_
  refine lv_iconst (v := (2 : Int32)) F.1 F.2.1 (dd D_law_35 0 rfl) ki_2 ?_
  refine lv_iadd F.1 F.2.1 (dd D_law_35 1 rfl) ?_
  refine va_sld F.1 F.2.1 hX hbl hbA hS h2 (dd D_law_35 2 rfl) ?_
  refine lv_aload_n F.1 F.2.1 (dd D_law_35 3 rfl) rfl (lv_at hl 3 rfl) ?_
  refine lv_iload_n F.1 F.2.1 (dd D_law_35 4 rfl) rfl (lv_at hl 0 rfl) ?_
  refine lv_iconst (v := (3 : Int32)) F.1 F.2.1 (dd D_law_35 5 rfl) ki_3 ?_
  refine lv_iadd F.1 F.2.1 (dd D_law_35 6 rfl) ?_
  refine va_sld F.1 F.2.1 hX hbl hbA hS h3 (dd D_law_35 7 rfl) ?_
  refine lawW0 (rest := []) F hK hA hAb (c_X8_hits D cA ax x 20000 (xs (Int32.toNatClampNeg (i + (1 : Int32)))) (xs (Int32.toNatClampNeg (i + (2 : Int32)))) (xs (Int32.toNatClampNeg (i + (3 : Int32)))) _ e1) lk_L_216 (Nat.le_of_ble_eq_true rfl) (rcv_8 hK hP (q0 := 0) (gL (xp_0 cA ax x))) rfl hl rfl (Nat.le_of_ble_eq_true rfl) (dd D_law_35 8 rfl) ⟨by omega, by omega⟩ hP hD hS (fun H locs hP hD hS => ?_)
  refine lv_pop F.1 F.2.1 (dd D_law_35 9 rfl) rfl ?_
  refine lv_aload_n F.1 F.2.1 (dd D_law_35 10 rfl) rfl (lv_at hl 1 rfl) ?_
  refine lv_aload_n F.1 F.2.1 (dd D_law_35 11 rfl) rfl (lv_at hl 3 rfl) ?_
  refine lv_iload_n F.1 F.2.1 (dd D_law_35 12 rfl) rfl (lv_at hl 0 rfl) ?_
  refine lv_iconst (v := (1 : Int32)) F.1 F.2.1 (dd D_law_35 13 rfl) ki_1 ?_
  refine lv_iadd F.1 F.2.1 (dd D_law_35 14 rfl) ?_
  refine va_sld F.1 F.2.1 hX hbl hbA hS h1 (dd D_law_35 15 rfl) ?_
  refine lv_aload_n F.1 F.2.1 (dd D_law_35 16 rfl) rfl (lv_at hl 3 rfl) ?_
  refine lv_iload_n F.1 F.2.1 (dd D_law_35 17 rfl) rfl (lv_at hl 0 rfl) ?_
  refine lv_iconst (v := (2 : Int32)) F.1 F.2.1 (dd D_law_35 18 rfl) ki_2 ?_
  refine lv_iadd F.1 F.2.1 (dd D_law_35 19 rfl) ?_
  refine va_sld F.1 F.2.1 hX hbl hbA hS h2 (dd D_law_35 20 rfl) ?_
  refine lv_aload_n F.1 F.2.1 (dd D_law_35 21 rfl) rfl (lv_at hl 3 rfl) ?_
  refine lv_iload_n F.1 F.2.1 (dd D_law_35 22 rfl) rfl (lv_at hl 0 rfl) ?_
  refine lv_iconst (v := (3 : Int32)) F.1 F.2.1 (dd D_law_35 23 rfl) ki_3 ?_
  refine lv_iadd F.1 F.2.1 (dd D_law_35 24 rfl) ?_
  refine va_sld F.1 F.2.1 hX hbl hbA hS h3 (dd D_law_35 25 rfl) ?_
  refine lawW (rest := []) F hK hA hAb (c_X9_hits D cA am y 20000 (xs (Int32.toNatClampNeg (i + (1 : Int32)))) (xs (Int32.toNatClampNeg (i + (2 : Int32)))) (xs (Int32.toNatClampNeg (i + (3 : Int32)))) _ e2) lk_L_219 (Nat.le_of_ble_eq_true rfl) (rcv_9 hK hP (q0 := 63 + (0)) (gR (xp_len cA ax x') (gL (mp_0 cA am y)))) rfl hl rfl (Nat.le_of_ble_eq_true rfl) (dd D_law_35 26 rfl) ⟨by omega, by omega⟩ hP hD hS (fun H locs hP hD hS => ?_)
  refine lv_pop F.1 F.2.1 (dd D_law_35 27 rfl) rfl ?_
  refine lv_goto (tgt := 2310) F.1 F.2.1 (dd D_law_35 28 rfl) rfl ?_
  exact kk x' y' H locs _ _ hP hD hS hR' (by omega) (by omega)
set_option maxHeartbeats 4000000 in
set_option maxRecDepth 100000 in
theorem case_49 (G : LG p m c s b L xs D cA) (h1 : vp_in (i + (1 : Int32)) L) (h2 : vp_in (i + (2 : Int32)) L) (h3 : vp_in (i + (3 : Int32)) L) (h4 : vp_in (i + (4 : Int32)) L) (h5 : vp_in (i + (5 : Int32)) L) (h6 : vp_in (i + (6 : Int32)) L) (hP : va_P D vwCl (xW cA ax x ++ (mW cA am y ++ KT)) H) (hD : va_D (AL s) (xW cA ax x ++ (mW cA am y ++ KT))) (hS : va_S (AL s) s.heap H locs) (hR : Rel x y ka ta mk) (hc : cells + 40 ≤ 600000 ∧ slots + 800 ≤ 7302250) (hl : lv_has ls 4 [(3, .int i), (2, .ref (am 0)), (1, .ref (ax 0)), (0, .ref b)])
    (kk : ∀ (x' : XS) (y' : MS) (H' : Heap) (locs' : List Loc) (cells' slots' : Nat), va_P D vwCl (xW cA ax x' ++ (mW cA am y' ++ KT)) H' → va_D (AL s) (xW cA ax x' ++ (mW cA am y' ++ KT)) → va_S (AL s) s.heap H' locs' → Rel x' y' ka ta mk → cells' ≤ cells + 40 → slots' ≤ slots + 800 → W p l e room_1 s m #[Value.ref b] below meth c H' locs' cells' slots' Q (F0 m 2310 ls [])) : W p l e room_1 s m #[Value.ref b] below meth c H locs cells slots Q (F0 m 1997 ls []) := by
  obtain ⟨F, hK, hE, hX, hbl, e9⟩ := G
  obtain ⟨hc1, hc2⟩ := hc
  have hA : ∀ q, s.heap.size ≤ q → AL s q := fun _ h => h
  have hAb : ∀ q, AL s q → cA 9 ≤ q := fun q h => by rw [e9]; exact h
  have hbA : ¬ AL s b := Nat.not_le.mpr hbl
  obtain ⟨r, x', y', e1, e2, hR'⟩ := ok_chance (n := 20000) hR (Nat.le_refl _) (xs (Int32.toNatClampNeg (i + (1 : Int32)))) (xs (Int32.toNatClampNeg (i + (2 : Int32)))) (xs (Int32.toNatClampNeg (i + (3 : Int32))))
  refine lv_aload_n F.1 F.2.1 (dd D_law_35 29 rfl) rfl (lv_at hl 2 rfl) ?_
  refine lv_aload_n F.1 F.2.1 (dd D_law_35 30 rfl) rfl (lv_at hl 3 rfl) ?_
  refine lv_iload_n F.1 F.2.1 (dd D_law_35 31 rfl) rfl (lv_at hl 0 rfl) ?_
  refine lv_iconst (v := (1 : Int32)) F.1 F.2.1 (dd D_law_35 32 rfl) ki_1 ?_
  refine lv_iadd F.1 F.2.1 (dd D_law_35 33 rfl) ?_
  refine va_sld F.1 F.2.1 hX hbl hbA hS h1 (dd D_law_35 34 rfl) ?_
  refine lv_aload_n F.1 F.2.1 (dd D_law_35 35 rfl) rfl (lv_at hl 3 rfl) ?_
  refine lv_iload_n F.1 F.2.1 (dd D_law_35 36 rfl) rfl (lv_at hl 0 rfl) ?_
  refine lv_iconst (v := (2 : Int32)) F.1 F.2.1 (dd D_law_35 37 rfl) ki_2 ?_
  refine lv_iadd F.1 F.2.1 (dd D_law_35 38 rfl) ?_
  refine va_sld F.1 F.2.1 hX hbl hbA hS h2 (dd D_law_35 39 rfl) ?_
  refine lv_aload_n F.1 F.2.1 (dd D_law_36 0 rfl) rfl (lv_at hl 3 rfl) ?_
  refine lv_iload_n F.1 F.2.1 (dd D_law_36 1 rfl) rfl (lv_at hl 0 rfl) ?_
  refine lv_iconst (v := (3 : Int32)) F.1 F.2.1 (dd D_law_36 2 rfl) ki_3 ?_
  refine lv_iadd F.1 F.2.1 (dd D_law_36 3 rfl) ?_
  refine va_sld F.1 F.2.1 hX hbl hbA hS h3 (dd D_law_36 4 rfl) ?_
  refine lawW0 (rest := []) F hK hA hAb (c_X8_chance D cA ax x 20000 (xs (Int32.toNatClampNeg (i + (1 : Int32)))) (xs (Int32.toNatClampNeg (i + (2 : Int32)))) (xs (Int32.toNatClampNeg (i + (3 : Int32)))) _ e1) lk_L_220 (Nat.le_of_ble_eq_true rfl) (rcv_8 hK hP (q0 := 0) (gL (xp_0 cA ax x))) rfl hl rfl (Nat.le_of_ble_eq_true rfl) (dd D_law_36 5 rfl) ⟨by omega, by omega⟩ hP hD hS (fun H locs hP hD hS => ?_)
  refine lv_pop F.1 F.2.1 (dd D_law_36 6 rfl) rfl ?_
  refine lv_aload_n F.1 F.2.1 (dd D_law_36 7 rfl) rfl (lv_at hl 1 rfl) ?_
  refine lv_aload_n F.1 F.2.1 (dd D_law_36 8 rfl) rfl (lv_at hl 3 rfl) ?_
  refine lv_iload_n F.1 F.2.1 (dd D_law_36 9 rfl) rfl (lv_at hl 0 rfl) ?_
  refine lv_iconst (v := (1 : Int32)) F.1 F.2.1 (dd D_law_36 10 rfl) ki_1 ?_
  refine lv_iadd F.1 F.2.1 (dd D_law_36 11 rfl) ?_
  refine va_sld F.1 F.2.1 hX hbl hbA hS h1 (dd D_law_36 12 rfl) ?_
  refine lv_aload_n F.1 F.2.1 (dd D_law_36 13 rfl) rfl (lv_at hl 3 rfl) ?_
  refine lv_iload_n F.1 F.2.1 (dd D_law_36 14 rfl) rfl (lv_at hl 0 rfl) ?_
  refine lv_iconst (v := (2 : Int32)) F.1 F.2.1 (dd D_law_36 15 rfl) ki_2 ?_
  refine lv_iadd F.1 F.2.1 (dd D_law_36 16 rfl) ?_
  refine va_sld F.1 F.2.1 hX hbl hbA hS h2 (dd D_law_36 17 rfl) ?_
  refine lv_aload_n F.1 F.2.1 (dd D_law_36 18 rfl) rfl (lv_at hl 3 rfl) ?_
  refine lv_iload_n F.1 F.2.1 (dd D_law_36 19 rfl) rfl (lv_at hl 0 rfl) ?_
  refine lv_iconst (v := (3 : Int32)) F.1 F.2.1 (dd D_law_36 20 rfl) ki_3 ?_
  refine lv_iadd F.1 F.2.1 (dd D_law_36 21 rfl) ?_
  refine va_sld F.1 F.2.1 hX hbl hbA hS h3 (dd D_law_36 22 rfl) ?_
  refine lawW (rest := []) F hK hA hAb (c_X9_chance D cA am y 20000 (xs (Int32.toNatClampNeg (i + (1 : Int32)))) (xs (Int32.toNatClampNeg (i + (2 : Int32)))) (xs (Int32.toNatClampNeg (i + (3 : Int32)))) _ e2) lk_L_223 (Nat.le_of_ble_eq_true rfl) (rcv_9 hK hP (q0 := 63 + (0)) (gR (xp_len cA ax x') (gL (mp_0 cA am y)))) rfl hl rfl (Nat.le_of_ble_eq_true rfl) (dd D_law_36 23 rfl) ⟨by omega, by omega⟩ hP hD hS (fun H locs hP hD hS => ?_)
  refine lv_pop F.1 F.2.1 (dd D_law_36 24 rfl) rfl ?_
  refine lv_goto (tgt := 2310) F.1 F.2.1 (dd D_law_36 25 rfl) rfl ?_
  exact kk x' y' H locs _ _ hP hD hS hR' (by omega) (by omega)
set_option maxHeartbeats 4000000 in
set_option maxRecDepth 100000 in
theorem case_50 (G : LG p m c s b L xs D cA) (h1 : vp_in (i + (1 : Int32)) L) (h2 : vp_in (i + (2 : Int32)) L) (h3 : vp_in (i + (3 : Int32)) L) (h4 : vp_in (i + (4 : Int32)) L) (h5 : vp_in (i + (5 : Int32)) L) (h6 : vp_in (i + (6 : Int32)) L) (hP : va_P D vwCl (xW cA ax x ++ (mW cA am y ++ KT)) H) (hD : va_D (AL s) (xW cA ax x ++ (mW cA am y ++ KT))) (hS : va_S (AL s) s.heap H locs) (hR : Rel x y ka ta mk) (hc : cells + 40 ≤ 600000 ∧ slots + 800 ≤ 7302250) (hl : lv_has ls 4 [(3, .int i), (2, .ref (am 0)), (1, .ref (ax 0)), (0, .ref b)])
    (kk : ∀ (x' : XS) (y' : MS) (H' : Heap) (locs' : List Loc) (cells' slots' : Nat), va_P D vwCl (xW cA ax x' ++ (mW cA am y' ++ KT)) H' → va_D (AL s) (xW cA ax x' ++ (mW cA am y' ++ KT)) → va_S (AL s) s.heap H' locs' → Rel x' y' ka ta mk → cells' ≤ cells + 40 → slots' ≤ slots + 800 → W p l e room_1 s m #[Value.ref b] below meth c H' locs' cells' slots' Q (F0 m 2310 ls [])) : W p l e room_1 s m #[Value.ref b] below meth c H locs cells slots Q (F0 m 2040 ls []) := by
  obtain ⟨F, hK, hE, hX, hbl, e9⟩ := G
  obtain ⟨hc1, hc2⟩ := hc
  have hA : ∀ q, s.heap.size ≤ q → AL s q := fun _ h => h
  have hAb : ∀ q, AL s q → cA 9 ≤ q := fun q h => by rw [e9]; exact h
  have hbA : ¬ AL s b := Nat.not_le.mpr hbl
  obtain ⟨r, x', y', e1, e2, hR'⟩ := ok_meets (n := 20000) hR (Nat.le_refl _) (xs (Int32.toNatClampNeg (i + (1 : Int32)))) (xs (Int32.toNatClampNeg (i + (2 : Int32)))) (xs (Int32.toNatClampNeg (i + (3 : Int32))))
  refine lv_aload_n F.1 F.2.1 (dd D_law_36 26 rfl) rfl (lv_at hl 2 rfl) ?_
  refine lv_aload_n F.1 F.2.1 (dd D_law_36 27 rfl) rfl (lv_at hl 3 rfl) ?_
  refine lv_iload_n F.1 F.2.1 (dd D_law_36 28 rfl) rfl (lv_at hl 0 rfl) ?_
  refine lv_iconst (v := (1 : Int32)) F.1 F.2.1 (dd D_law_36 29 rfl) ki_1 ?_
  refine lv_iadd F.1 F.2.1 (dd D_law_36 30 rfl) ?_
  refine va_sld F.1 F.2.1 hX hbl hbA hS h1 (dd D_law_36 31 rfl) ?_
  refine lv_aload_n F.1 F.2.1 (dd D_law_36 32 rfl) rfl (lv_at hl 3 rfl) ?_
  refine lv_iload_n F.1 F.2.1 (dd D_law_36 33 rfl) rfl (lv_at hl 0 rfl) ?_
  refine lv_iconst (v := (2 : Int32)) F.1 F.2.1 (dd D_law_36 34 rfl) ki_2 ?_
  refine lv_iadd F.1 F.2.1 (dd D_law_36 35 rfl) ?_
  refine va_sld F.1 F.2.1 hX hbl hbA hS h2 (dd D_law_36 36 rfl) ?_
  refine lv_aload_n F.1 F.2.1 (dd D_law_36 37 rfl) rfl (lv_at hl 3 rfl) ?_
  refine lv_iload_n F.1 F.2.1 (dd D_law_36 38 rfl) rfl (lv_at hl 0 rfl) ?_
  refine lv_iconst (v := (3 : Int32)) F.1 F.2.1 (dd D_law_36 39 rfl) ki_3 ?_
  refine lv_iadd F.1 F.2.1 (dd D_law_37 0 rfl) ?_
  refine va_sld F.1 F.2.1 hX hbl hbA hS h3 (dd D_law_37 1 rfl) ?_
  refine lawW0 (rest := []) F hK hA hAb (c_X8_meets D cA ax x 20000 (xs (Int32.toNatClampNeg (i + (1 : Int32)))) (xs (Int32.toNatClampNeg (i + (2 : Int32)))) (xs (Int32.toNatClampNeg (i + (3 : Int32)))) _ e1) lk_L_224 (Nat.le_of_ble_eq_true rfl) (rcv_8 hK hP (q0 := 0) (gL (xp_0 cA ax x))) rfl hl rfl (Nat.le_of_ble_eq_true rfl) (dd D_law_37 2 rfl) ⟨by omega, by omega⟩ hP hD hS (fun H locs hP hD hS => ?_)
  refine lv_pop F.1 F.2.1 (dd D_law_37 3 rfl) rfl ?_
  refine lv_aload_n F.1 F.2.1 (dd D_law_37 4 rfl) rfl (lv_at hl 1 rfl) ?_
  refine lv_aload_n F.1 F.2.1 (dd D_law_37 5 rfl) rfl (lv_at hl 3 rfl) ?_
  refine lv_iload_n F.1 F.2.1 (dd D_law_37 6 rfl) rfl (lv_at hl 0 rfl) ?_
  refine lv_iconst (v := (1 : Int32)) F.1 F.2.1 (dd D_law_37 7 rfl) ki_1 ?_
  refine lv_iadd F.1 F.2.1 (dd D_law_37 8 rfl) ?_
  refine va_sld F.1 F.2.1 hX hbl hbA hS h1 (dd D_law_37 9 rfl) ?_
  refine lv_aload_n F.1 F.2.1 (dd D_law_37 10 rfl) rfl (lv_at hl 3 rfl) ?_
  refine lv_iload_n F.1 F.2.1 (dd D_law_37 11 rfl) rfl (lv_at hl 0 rfl) ?_
  refine lv_iconst (v := (2 : Int32)) F.1 F.2.1 (dd D_law_37 12 rfl) ki_2 ?_
  refine lv_iadd F.1 F.2.1 (dd D_law_37 13 rfl) ?_
  refine va_sld F.1 F.2.1 hX hbl hbA hS h2 (dd D_law_37 14 rfl) ?_
  refine lv_aload_n F.1 F.2.1 (dd D_law_37 15 rfl) rfl (lv_at hl 3 rfl) ?_
  refine lv_iload_n F.1 F.2.1 (dd D_law_37 16 rfl) rfl (lv_at hl 0 rfl) ?_
  refine lv_iconst (v := (3 : Int32)) F.1 F.2.1 (dd D_law_37 17 rfl) ki_3 ?_
  refine lv_iadd F.1 F.2.1 (dd D_law_37 18 rfl) ?_
  refine va_sld F.1 F.2.1 hX hbl hbA hS h3 (dd D_law_37 19 rfl) ?_
  refine lawW (rest := []) F hK hA hAb (c_X9_meets D cA am y 20000 (xs (Int32.toNatClampNeg (i + (1 : Int32)))) (xs (Int32.toNatClampNeg (i + (2 : Int32)))) (xs (Int32.toNatClampNeg (i + (3 : Int32)))) _ e2) lk_L_227 (Nat.le_of_ble_eq_true rfl) (rcv_9 hK hP (q0 := 63 + (0)) (gR (xp_len cA ax x') (gL (mp_0 cA am y)))) rfl hl rfl (Nat.le_of_ble_eq_true rfl) (dd D_law_37 20 rfl) ⟨by omega, by omega⟩ hP hD hS (fun H locs hP hD hS => ?_)
  refine lv_pop F.1 F.2.1 (dd D_law_37 21 rfl) rfl ?_
  refine lv_goto (tgt := 2310) F.1 F.2.1 (dd D_law_37 22 rfl) rfl ?_
  exact kk x' y' H locs _ _ hP hD hS hR' (by omega) (by omega)
set_option maxHeartbeats 4000000 in
set_option maxRecDepth 100000 in
theorem case_51 (G : LG p m c s b L xs D cA) (h1 : vp_in (i + (1 : Int32)) L) (h2 : vp_in (i + (2 : Int32)) L) (h3 : vp_in (i + (3 : Int32)) L) (h4 : vp_in (i + (4 : Int32)) L) (h5 : vp_in (i + (5 : Int32)) L) (h6 : vp_in (i + (6 : Int32)) L) (hP : va_P D vwCl (xW cA ax x ++ (mW cA am y ++ KT)) H) (hD : va_D (AL s) (xW cA ax x ++ (mW cA am y ++ KT))) (hS : va_S (AL s) s.heap H locs) (hR : Rel x y ka ta mk) (hc : cells + 40 ≤ 600000 ∧ slots + 800 ≤ 7302250) (hl : lv_has ls 4 [(3, .int i), (2, .ref (am 0)), (1, .ref (ax 0)), (0, .ref b)])
    (kk : ∀ (x' : XS) (y' : MS) (H' : Heap) (locs' : List Loc) (cells' slots' : Nat), va_P D vwCl (xW cA ax x' ++ (mW cA am y' ++ KT)) H' → va_D (AL s) (xW cA ax x' ++ (mW cA am y' ++ KT)) → va_S (AL s) s.heap H' locs' → Rel x' y' ka ta mk → cells' ≤ cells + 40 → slots' ≤ slots + 800 → W p l e room_1 s m #[Value.ref b] below meth c H' locs' cells' slots' Q (F0 m 2310 ls [])) : W p l e room_1 s m #[Value.ref b] below meth c H locs cells slots Q (F0 m 2083 ls []) := by
  obtain ⟨F, hK, hE, hX, hbl, e9⟩ := G
  obtain ⟨hc1, hc2⟩ := hc
  have hA : ∀ q, s.heap.size ≤ q → AL s q := fun _ h => h
  have hAb : ∀ q, AL s q → cA 9 ≤ q := fun q h => by rw [e9]; exact h
  have hbA : ¬ AL s b := Nat.not_le.mpr hbl
  obtain ⟨r, x', y', e1, e2, hR'⟩ := ok_place (n := 20000) hR (Nat.le_refl _) (xs (Int32.toNatClampNeg (i + (1 : Int32)))) (xs (Int32.toNatClampNeg (i + (2 : Int32)))) (xs (Int32.toNatClampNeg (i + (3 : Int32))))
  refine lv_aload_n F.1 F.2.1 (dd D_law_37 23 rfl) rfl (lv_at hl 2 rfl) ?_
  refine lv_aload_n F.1 F.2.1 (dd D_law_37 24 rfl) rfl (lv_at hl 3 rfl) ?_
  refine lv_iload_n F.1 F.2.1 (dd D_law_37 25 rfl) rfl (lv_at hl 0 rfl) ?_
  refine lv_iconst (v := (1 : Int32)) F.1 F.2.1 (dd D_law_37 26 rfl) ki_1 ?_
  refine lv_iadd F.1 F.2.1 (dd D_law_37 27 rfl) ?_
  refine va_sld F.1 F.2.1 hX hbl hbA hS h1 (dd D_law_37 28 rfl) ?_
  refine lv_aload_n F.1 F.2.1 (dd D_law_37 29 rfl) rfl (lv_at hl 3 rfl) ?_
  refine lv_iload_n F.1 F.2.1 (dd D_law_37 30 rfl) rfl (lv_at hl 0 rfl) ?_
  refine lv_iconst (v := (2 : Int32)) F.1 F.2.1 (dd D_law_37 31 rfl) ki_2 ?_
  refine lv_iadd F.1 F.2.1 (dd D_law_37 32 rfl) ?_
  refine va_sld F.1 F.2.1 hX hbl hbA hS h2 (dd D_law_37 33 rfl) ?_
  refine lv_aload_n F.1 F.2.1 (dd D_law_37 34 rfl) rfl (lv_at hl 3 rfl) ?_
  refine lv_iload_n F.1 F.2.1 (dd D_law_37 35 rfl) rfl (lv_at hl 0 rfl) ?_
  refine lv_iconst (v := (3 : Int32)) F.1 F.2.1 (dd D_law_37 36 rfl) ki_3 ?_
  refine lv_iadd F.1 F.2.1 (dd D_law_37 37 rfl) ?_
  refine va_sld F.1 F.2.1 hX hbl hbA hS h3 (dd D_law_37 38 rfl) ?_
  refine lawW0 (rest := []) F hK hA hAb (c_X8_place D cA ax x 20000 (xs (Int32.toNatClampNeg (i + (1 : Int32)))) (xs (Int32.toNatClampNeg (i + (2 : Int32)))) (xs (Int32.toNatClampNeg (i + (3 : Int32)))) _ e1) lk_L_228 (Nat.le_of_ble_eq_true rfl) (rcv_8 hK hP (q0 := 0) (gL (xp_0 cA ax x))) rfl hl rfl (Nat.le_of_ble_eq_true rfl) (dd D_law_37 39 rfl) ⟨by omega, by omega⟩ hP hD hS (fun H locs hP hD hS => ?_)
  refine lv_pop F.1 F.2.1 (dd D_law_38 0 rfl) rfl ?_
  refine lv_aload_n F.1 F.2.1 (dd D_law_38 1 rfl) rfl (lv_at hl 1 rfl) ?_
  refine lv_aload_n F.1 F.2.1 (dd D_law_38 2 rfl) rfl (lv_at hl 3 rfl) ?_
  refine lv_iload_n F.1 F.2.1 (dd D_law_38 3 rfl) rfl (lv_at hl 0 rfl) ?_
  refine lv_iconst (v := (1 : Int32)) F.1 F.2.1 (dd D_law_38 4 rfl) ki_1 ?_
  refine lv_iadd F.1 F.2.1 (dd D_law_38 5 rfl) ?_
  refine va_sld F.1 F.2.1 hX hbl hbA hS h1 (dd D_law_38 6 rfl) ?_
  refine lv_aload_n F.1 F.2.1 (dd D_law_38 7 rfl) rfl (lv_at hl 3 rfl) ?_
  refine lv_iload_n F.1 F.2.1 (dd D_law_38 8 rfl) rfl (lv_at hl 0 rfl) ?_
  refine lv_iconst (v := (2 : Int32)) F.1 F.2.1 (dd D_law_38 9 rfl) ki_2 ?_
  refine lv_iadd F.1 F.2.1 (dd D_law_38 10 rfl) ?_
  refine va_sld F.1 F.2.1 hX hbl hbA hS h2 (dd D_law_38 11 rfl) ?_
  refine lv_aload_n F.1 F.2.1 (dd D_law_38 12 rfl) rfl (lv_at hl 3 rfl) ?_
  refine lv_iload_n F.1 F.2.1 (dd D_law_38 13 rfl) rfl (lv_at hl 0 rfl) ?_
  refine lv_iconst (v := (3 : Int32)) F.1 F.2.1 (dd D_law_38 14 rfl) ki_3 ?_
  refine lv_iadd F.1 F.2.1 (dd D_law_38 15 rfl) ?_
  refine va_sld F.1 F.2.1 hX hbl hbA hS h3 (dd D_law_38 16 rfl) ?_
  refine lawW (rest := []) F hK hA hAb (c_X9_place D cA am y 20000 (xs (Int32.toNatClampNeg (i + (1 : Int32)))) (xs (Int32.toNatClampNeg (i + (2 : Int32)))) (xs (Int32.toNatClampNeg (i + (3 : Int32)))) _ e2) lk_L_231 (Nat.le_of_ble_eq_true rfl) (rcv_9 hK hP (q0 := 63 + (0)) (gR (xp_len cA ax x') (gL (mp_0 cA am y)))) rfl hl rfl (Nat.le_of_ble_eq_true rfl) (dd D_law_38 17 rfl) ⟨by omega, by omega⟩ hP hD hS (fun H locs hP hD hS => ?_)
  refine lv_pop F.1 F.2.1 (dd D_law_38 18 rfl) rfl ?_
  refine lv_goto (tgt := 2310) F.1 F.2.1 (dd D_law_38 19 rfl) rfl ?_
  exact kk x' y' H locs _ _ hP hD hS hR' (by omega) (by omega)
set_option maxHeartbeats 4000000 in
set_option maxRecDepth 100000 in
theorem case_52 (G : LG p m c s b L xs D cA) (h1 : vp_in (i + (1 : Int32)) L) (h2 : vp_in (i + (2 : Int32)) L) (h3 : vp_in (i + (3 : Int32)) L) (h4 : vp_in (i + (4 : Int32)) L) (h5 : vp_in (i + (5 : Int32)) L) (h6 : vp_in (i + (6 : Int32)) L) (hP : va_P D vwCl (xW cA ax x ++ (mW cA am y ++ KT)) H) (hD : va_D (AL s) (xW cA ax x ++ (mW cA am y ++ KT))) (hS : va_S (AL s) s.heap H locs) (hR : Rel x y ka ta mk) (hc : cells + 40 ≤ 600000 ∧ slots + 800 ≤ 7302250) (hl : lv_has ls 4 [(3, .int i), (2, .ref (am 0)), (1, .ref (ax 0)), (0, .ref b)])
    (kk : ∀ (x' : XS) (y' : MS) (H' : Heap) (locs' : List Loc) (cells' slots' : Nat), va_P D vwCl (xW cA ax x' ++ (mW cA am y' ++ KT)) H' → va_D (AL s) (xW cA ax x' ++ (mW cA am y' ++ KT)) → va_S (AL s) s.heap H' locs' → Rel x' y' ka ta mk → cells' ≤ cells + 40 → slots' ≤ slots + 800 → W p l e room_1 s m #[Value.ref b] below meth c H' locs' cells' slots' Q (F0 m 2310 ls [])) : W p l e room_1 s m #[Value.ref b] below meth c H locs cells slots Q (F0 m 2126 ls []) := by
  obtain ⟨F, hK, hE, hX, hbl, e9⟩ := G
  obtain ⟨hc1, hc2⟩ := hc
  have hA : ∀ q, s.heap.size ≤ q → AL s q := fun _ h => h
  have hAb : ∀ q, AL s q → cA 9 ≤ q := fun q h => by rw [e9]; exact h
  have hbA : ¬ AL s b := Nat.not_le.mpr hbl
  obtain ⟨r, x', y', e1, e2, hR'⟩ := ok_meant (n := 20000) hR (Nat.le_refl _) (xs (Int32.toNatClampNeg (i + (1 : Int32)))) (xs (Int32.toNatClampNeg (i + (2 : Int32)))) (xs (Int32.toNatClampNeg (i + (3 : Int32))))
  refine lv_aload_n F.1 F.2.1 (dd D_law_38 20 rfl) rfl (lv_at hl 2 rfl) ?_
  refine lv_aload_n F.1 F.2.1 (dd D_law_38 21 rfl) rfl (lv_at hl 3 rfl) ?_
  refine lv_iload_n F.1 F.2.1 (dd D_law_38 22 rfl) rfl (lv_at hl 0 rfl) ?_
  refine lv_iconst (v := (1 : Int32)) F.1 F.2.1 (dd D_law_38 23 rfl) ki_1 ?_
  refine lv_iadd F.1 F.2.1 (dd D_law_38 24 rfl) ?_
  refine va_sld F.1 F.2.1 hX hbl hbA hS h1 (dd D_law_38 25 rfl) ?_
  refine lv_aload_n F.1 F.2.1 (dd D_law_38 26 rfl) rfl (lv_at hl 3 rfl) ?_
  refine lv_iload_n F.1 F.2.1 (dd D_law_38 27 rfl) rfl (lv_at hl 0 rfl) ?_
  refine lv_iconst (v := (2 : Int32)) F.1 F.2.1 (dd D_law_38 28 rfl) ki_2 ?_
  refine lv_iadd F.1 F.2.1 (dd D_law_38 29 rfl) ?_
  refine va_sld F.1 F.2.1 hX hbl hbA hS h2 (dd D_law_38 30 rfl) ?_
  refine lv_aload_n F.1 F.2.1 (dd D_law_38 31 rfl) rfl (lv_at hl 3 rfl) ?_
  refine lv_iload_n F.1 F.2.1 (dd D_law_38 32 rfl) rfl (lv_at hl 0 rfl) ?_
  refine lv_iconst (v := (3 : Int32)) F.1 F.2.1 (dd D_law_38 33 rfl) ki_3 ?_
  refine lv_iadd F.1 F.2.1 (dd D_law_38 34 rfl) ?_
  refine va_sld F.1 F.2.1 hX hbl hbA hS h3 (dd D_law_38 35 rfl) ?_
  refine lawW0 (rest := []) F hK hA hAb (c_X8_meant D cA ax x 20000 (xs (Int32.toNatClampNeg (i + (1 : Int32)))) (xs (Int32.toNatClampNeg (i + (2 : Int32)))) (xs (Int32.toNatClampNeg (i + (3 : Int32)))) _ e1) lk_L_232 (Nat.le_of_ble_eq_true rfl) (rcv_8 hK hP (q0 := 0) (gL (xp_0 cA ax x))) rfl hl rfl (Nat.le_of_ble_eq_true rfl) (dd D_law_38 36 rfl) ⟨by omega, by omega⟩ hP hD hS (fun H locs hP hD hS => ?_)
  refine lv_pop F.1 F.2.1 (dd D_law_38 37 rfl) rfl ?_
  refine lv_aload_n F.1 F.2.1 (dd D_law_38 38 rfl) rfl (lv_at hl 1 rfl) ?_
  refine lv_aload_n F.1 F.2.1 (dd D_law_38 39 rfl) rfl (lv_at hl 3 rfl) ?_
  refine lv_iload_n F.1 F.2.1 (dd D_law_39 0 rfl) rfl (lv_at hl 0 rfl) ?_
  refine lv_iconst (v := (1 : Int32)) F.1 F.2.1 (dd D_law_39 1 rfl) ki_1 ?_
  refine lv_iadd F.1 F.2.1 (dd D_law_39 2 rfl) ?_
  refine va_sld F.1 F.2.1 hX hbl hbA hS h1 (dd D_law_39 3 rfl) ?_
  refine lv_aload_n F.1 F.2.1 (dd D_law_39 4 rfl) rfl (lv_at hl 3 rfl) ?_
  refine lv_iload_n F.1 F.2.1 (dd D_law_39 5 rfl) rfl (lv_at hl 0 rfl) ?_
  refine lv_iconst (v := (2 : Int32)) F.1 F.2.1 (dd D_law_39 6 rfl) ki_2 ?_
  refine lv_iadd F.1 F.2.1 (dd D_law_39 7 rfl) ?_
  refine va_sld F.1 F.2.1 hX hbl hbA hS h2 (dd D_law_39 8 rfl) ?_
  refine lv_aload_n F.1 F.2.1 (dd D_law_39 9 rfl) rfl (lv_at hl 3 rfl) ?_
  refine lv_iload_n F.1 F.2.1 (dd D_law_39 10 rfl) rfl (lv_at hl 0 rfl) ?_
  refine lv_iconst (v := (3 : Int32)) F.1 F.2.1 (dd D_law_39 11 rfl) ki_3 ?_
  refine lv_iadd F.1 F.2.1 (dd D_law_39 12 rfl) ?_
  refine va_sld F.1 F.2.1 hX hbl hbA hS h3 (dd D_law_39 13 rfl) ?_
  refine lawW (rest := []) F hK hA hAb (c_X9_meant D cA am y 20000 (xs (Int32.toNatClampNeg (i + (1 : Int32)))) (xs (Int32.toNatClampNeg (i + (2 : Int32)))) (xs (Int32.toNatClampNeg (i + (3 : Int32)))) _ e2) lk_L_235 (Nat.le_of_ble_eq_true rfl) (rcv_9 hK hP (q0 := 63 + (0)) (gR (xp_len cA ax x') (gL (mp_0 cA am y)))) rfl hl rfl (Nat.le_of_ble_eq_true rfl) (dd D_law_39 14 rfl) ⟨by omega, by omega⟩ hP hD hS (fun H locs hP hD hS => ?_)
  refine lv_pop F.1 F.2.1 (dd D_law_39 15 rfl) rfl ?_
  refine lv_goto (tgt := 2310) F.1 F.2.1 (dd D_law_39 16 rfl) rfl ?_
  exact kk x' y' H locs _ _ hP hD hS hR' (by omega) (by omega)
set_option maxHeartbeats 4000000 in
set_option maxRecDepth 100000 in
theorem case_53 (G : LG p m c s b L xs D cA) (h1 : vp_in (i + (1 : Int32)) L) (h2 : vp_in (i + (2 : Int32)) L) (h3 : vp_in (i + (3 : Int32)) L) (h4 : vp_in (i + (4 : Int32)) L) (h5 : vp_in (i + (5 : Int32)) L) (h6 : vp_in (i + (6 : Int32)) L) (hP : va_P D vwCl (xW cA ax x ++ (mW cA am y ++ KT)) H) (hD : va_D (AL s) (xW cA ax x ++ (mW cA am y ++ KT))) (hS : va_S (AL s) s.heap H locs) (hR : Rel x y ka ta mk) (hc : cells + 40 ≤ 600000 ∧ slots + 800 ≤ 7302250) (hl : lv_has ls 4 [(3, .int i), (2, .ref (am 0)), (1, .ref (ax 0)), (0, .ref b)])
    (kk : ∀ (x' : XS) (y' : MS) (H' : Heap) (locs' : List Loc) (cells' slots' : Nat), va_P D vwCl (xW cA ax x' ++ (mW cA am y' ++ KT)) H' → va_D (AL s) (xW cA ax x' ++ (mW cA am y' ++ KT)) → va_S (AL s) s.heap H' locs' → Rel x' y' ka ta mk → cells' ≤ cells + 40 → slots' ≤ slots + 800 → W p l e room_1 s m #[Value.ref b] below meth c H' locs' cells' slots' Q (F0 m 2310 ls [])) : W p l e room_1 s m #[Value.ref b] below meth c H locs cells slots Q (F0 m 2169 ls []) := by
  obtain ⟨F, hK, hE, hX, hbl, e9⟩ := G
  obtain ⟨hc1, hc2⟩ := hc
  have hA : ∀ q, s.heap.size ≤ q → AL s q := fun _ h => h
  have hAb : ∀ q, AL s q → cA 9 ≤ q := fun q h => by rw [e9]; exact h
  have hbA : ¬ AL s b := Nat.not_le.mpr hbl
  obtain ⟨r, x', y', e1, e2, hR'⟩ := ok_told (n := 20000) hR (xs (Int32.toNatClampNeg (i + (1 : Int32)))) (xs (Int32.toNatClampNeg (i + (2 : Int32))))
  refine lv_aload_n F.1 F.2.1 (dd D_law_39 17 rfl) rfl (lv_at hl 2 rfl) ?_
  refine lv_aload_n F.1 F.2.1 (dd D_law_39 18 rfl) rfl (lv_at hl 3 rfl) ?_
  refine lv_iload_n F.1 F.2.1 (dd D_law_39 19 rfl) rfl (lv_at hl 0 rfl) ?_
  refine lv_iconst (v := (1 : Int32)) F.1 F.2.1 (dd D_law_39 20 rfl) ki_1 ?_
  refine lv_iadd F.1 F.2.1 (dd D_law_39 21 rfl) ?_
  refine va_sld F.1 F.2.1 hX hbl hbA hS h1 (dd D_law_39 22 rfl) ?_
  refine lv_aload_n F.1 F.2.1 (dd D_law_39 23 rfl) rfl (lv_at hl 3 rfl) ?_
  refine lv_iload_n F.1 F.2.1 (dd D_law_39 24 rfl) rfl (lv_at hl 0 rfl) ?_
  refine lv_iconst (v := (2 : Int32)) F.1 F.2.1 (dd D_law_39 25 rfl) ki_2 ?_
  refine lv_iadd F.1 F.2.1 (dd D_law_39 26 rfl) ?_
  refine va_sld F.1 F.2.1 hX hbl hbA hS h2 (dd D_law_39 27 rfl) ?_
  refine lawW0 (rest := []) F hK hA hAb (c_X8_told D cA ax x 20000 (xs (Int32.toNatClampNeg (i + (1 : Int32)))) (xs (Int32.toNatClampNeg (i + (2 : Int32)))) _ e1) lk_L_236 (Nat.le_of_ble_eq_true rfl) (rcv_8 hK hP (q0 := 0) (gL (xp_0 cA ax x))) rfl hl rfl (Nat.le_of_ble_eq_true rfl) (dd D_law_39 28 rfl) ⟨by omega, by omega⟩ hP hD hS (fun H locs hP hD hS => ?_)
  refine lv_pop F.1 F.2.1 (dd D_law_39 29 rfl) rfl ?_
  refine lv_aload_n F.1 F.2.1 (dd D_law_39 30 rfl) rfl (lv_at hl 1 rfl) ?_
  refine lv_aload_n F.1 F.2.1 (dd D_law_39 31 rfl) rfl (lv_at hl 3 rfl) ?_
  refine lv_iload_n F.1 F.2.1 (dd D_law_39 32 rfl) rfl (lv_at hl 0 rfl) ?_
  refine lv_iconst (v := (1 : Int32)) F.1 F.2.1 (dd D_law_39 33 rfl) ki_1 ?_
  refine lv_iadd F.1 F.2.1 (dd D_law_39 34 rfl) ?_
  refine va_sld F.1 F.2.1 hX hbl hbA hS h1 (dd D_law_39 35 rfl) ?_
  refine lv_aload_n F.1 F.2.1 (dd D_law_39 36 rfl) rfl (lv_at hl 3 rfl) ?_
  refine lv_iload_n F.1 F.2.1 (dd D_law_39 37 rfl) rfl (lv_at hl 0 rfl) ?_
  refine lv_iconst (v := (2 : Int32)) F.1 F.2.1 (dd D_law_39 38 rfl) ki_2 ?_
  refine lv_iadd F.1 F.2.1 (dd D_law_39 39 rfl) ?_
  refine va_sld F.1 F.2.1 hX hbl hbA hS h2 (dd D_law_40 0 rfl) ?_
  refine lawW (rest := []) F hK hA hAb (c_X9_told D cA am y 20000 (xs (Int32.toNatClampNeg (i + (1 : Int32)))) (xs (Int32.toNatClampNeg (i + (2 : Int32)))) _ e2) lk_L_239 (Nat.le_of_ble_eq_true rfl) (rcv_9 hK hP (q0 := 63 + (0)) (gR (xp_len cA ax x') (gL (mp_0 cA am y)))) rfl hl rfl (Nat.le_of_ble_eq_true rfl) (dd D_law_40 1 rfl) ⟨by omega, by omega⟩ hP hD hS (fun H locs hP hD hS => ?_)
  refine lv_pop F.1 F.2.1 (dd D_law_40 2 rfl) rfl ?_
  refine lv_goto (tgt := 2310) F.1 F.2.1 (dd D_law_40 3 rfl) rfl ?_
  exact kk x' y' H locs _ _ hP hD hS hR' (by omega) (by omega)
set_option maxHeartbeats 4000000 in
set_option maxRecDepth 100000 in
theorem case_54 (G : LG p m c s b L xs D cA) (h1 : vp_in (i + (1 : Int32)) L) (h2 : vp_in (i + (2 : Int32)) L) (h3 : vp_in (i + (3 : Int32)) L) (h4 : vp_in (i + (4 : Int32)) L) (h5 : vp_in (i + (5 : Int32)) L) (h6 : vp_in (i + (6 : Int32)) L) (hP : va_P D vwCl (xW cA ax x ++ (mW cA am y ++ KT)) H) (hD : va_D (AL s) (xW cA ax x ++ (mW cA am y ++ KT))) (hS : va_S (AL s) s.heap H locs) (hR : Rel x y ka ta mk) (hc : cells + 40 ≤ 600000 ∧ slots + 800 ≤ 7302250) (hl : lv_has ls 4 [(3, .int i), (2, .ref (am 0)), (1, .ref (ax 0)), (0, .ref b)])
    (kk : ∀ (x' : XS) (y' : MS) (H' : Heap) (locs' : List Loc) (cells' slots' : Nat), va_P D vwCl (xW cA ax x' ++ (mW cA am y' ++ KT)) H' → va_D (AL s) (xW cA ax x' ++ (mW cA am y' ++ KT)) → va_S (AL s) s.heap H' locs' → Rel x' y' ka ta mk → cells' ≤ cells + 40 → slots' ≤ slots + 800 → W p l e room_1 s m #[Value.ref b] below meth c H' locs' cells' slots' Q (F0 m 2310 ls [])) : W p l e room_1 s m #[Value.ref b] below meth c H locs cells slots Q (F0 m 2202 ls []) := by
  obtain ⟨F, hK, hE, hX, hbl, e9⟩ := G
  obtain ⟨hc1, hc2⟩ := hc
  have hA : ∀ q, s.heap.size ≤ q → AL s q := fun _ h => h
  have hAb : ∀ q, AL s q → cA 9 ≤ q := fun q h => by rw [e9]; exact h
  have hbA : ¬ AL s b := Nat.not_le.mpr hbl
  obtain ⟨r, x', y', e1, e2, hR'⟩ := ok_goes (n := 20000) hR (Nat.le_refl _) 
  refine lv_aload_n F.1 F.2.1 (dd D_law_40 4 rfl) rfl (lv_at hl 2 rfl) ?_
  refine lawW0 (rest := []) F hK hA hAb (c_X8_goes D cA ax x 20000  _ e1) lk_L_240 (Nat.le_of_ble_eq_true rfl) (rcv_8 hK hP (q0 := 0) (gL (xp_0 cA ax x))) rfl hl rfl (Nat.le_of_ble_eq_true rfl) (dd D_law_40 5 rfl) ⟨by omega, by omega⟩ hP hD hS (fun H locs hP hD hS => ?_)
  refine lv_pop F.1 F.2.1 (dd D_law_40 6 rfl) rfl ?_
  refine lv_aload_n F.1 F.2.1 (dd D_law_40 7 rfl) rfl (lv_at hl 1 rfl) ?_
  refine lawW (rest := []) F hK hA hAb (c_X9_goes D cA am y 20000  _ e2) lk_L_243 (Nat.le_of_ble_eq_true rfl) (rcv_9 hK hP (q0 := 63 + (0)) (gR (xp_len cA ax x') (gL (mp_0 cA am y)))) rfl hl rfl (Nat.le_of_ble_eq_true rfl) (dd D_law_40 8 rfl) ⟨by omega, by omega⟩ hP hD hS (fun H locs hP hD hS => ?_)
  refine lv_pop F.1 F.2.1 (dd D_law_40 9 rfl) rfl ?_
  refine lv_goto (tgt := 2310) F.1 F.2.1 (dd D_law_40 10 rfl) rfl ?_
  exact kk x' y' H locs _ _ hP hD hS hR' (by omega) (by omega)
set_option maxHeartbeats 4000000 in
set_option maxRecDepth 100000 in
theorem case_55 (G : LG p m c s b L xs D cA) (h1 : vp_in (i + (1 : Int32)) L) (h2 : vp_in (i + (2 : Int32)) L) (h3 : vp_in (i + (3 : Int32)) L) (h4 : vp_in (i + (4 : Int32)) L) (h5 : vp_in (i + (5 : Int32)) L) (h6 : vp_in (i + (6 : Int32)) L) (hP : va_P D vwCl (xW cA ax x ++ (mW cA am y ++ KT)) H) (hD : va_D (AL s) (xW cA ax x ++ (mW cA am y ++ KT))) (hS : va_S (AL s) s.heap H locs) (hR : Rel x y ka ta mk) (hc : cells + 40 ≤ 600000 ∧ slots + 800 ≤ 7302250) (hl : lv_has ls 4 [(3, .int i), (2, .ref (am 0)), (1, .ref (ax 0)), (0, .ref b)])
    (kk : ∀ (x' : XS) (y' : MS) (H' : Heap) (locs' : List Loc) (cells' slots' : Nat), va_P D vwCl (xW cA ax x' ++ (mW cA am y' ++ KT)) H' → va_D (AL s) (xW cA ax x' ++ (mW cA am y' ++ KT)) → va_S (AL s) s.heap H' locs' → Rel x' y' ka ta mk → cells' ≤ cells + 40 → slots' ≤ slots + 800 → W p l e room_1 s m #[Value.ref b] below meth c H' locs' cells' slots' Q (F0 m 2310 ls [])) : W p l e room_1 s m #[Value.ref b] below meth c H locs cells slots Q (F0 m 2215 ls []) := by
  obtain ⟨F, hK, hE, hX, hbl, e9⟩ := G
  obtain ⟨hc1, hc2⟩ := hc
  have hA : ∀ q, s.heap.size ≤ q → AL s q := fun _ h => h
  have hAb : ∀ q, AL s q → cA 9 ≤ q := fun q h => by rw [e9]; exact h
  have hbA : ¬ AL s b := Nat.not_le.mpr hbl
  obtain ⟨r, x', y', e1, e2, hR'⟩ := ok_looks (n := 20000) hR (Nat.le_refl _) (xs (Int32.toNatClampNeg (i + (1 : Int32))))
  refine lv_aload_n F.1 F.2.1 (dd D_law_40 11 rfl) rfl (lv_at hl 2 rfl) ?_
  refine lv_aload_n F.1 F.2.1 (dd D_law_40 12 rfl) rfl (lv_at hl 3 rfl) ?_
  refine lv_iload_n F.1 F.2.1 (dd D_law_40 13 rfl) rfl (lv_at hl 0 rfl) ?_
  refine lv_iconst (v := (1 : Int32)) F.1 F.2.1 (dd D_law_40 14 rfl) ki_1 ?_
  refine lv_iadd F.1 F.2.1 (dd D_law_40 15 rfl) ?_
  refine va_sld F.1 F.2.1 hX hbl hbA hS h1 (dd D_law_40 16 rfl) ?_
  refine lawW0 (rest := []) F hK hA hAb (c_X8_looks D cA ax x 20000 (xs (Int32.toNatClampNeg (i + (1 : Int32)))) _ e1) lk_L_244 (Nat.le_of_ble_eq_true rfl) (rcv_8 hK hP (q0 := 0) (gL (xp_0 cA ax x))) rfl hl rfl (Nat.le_of_ble_eq_true rfl) (dd D_law_40 17 rfl) ⟨by omega, by omega⟩ hP hD hS (fun H locs hP hD hS => ?_)
  refine lv_pop F.1 F.2.1 (dd D_law_40 18 rfl) rfl ?_
  refine lv_aload_n F.1 F.2.1 (dd D_law_40 19 rfl) rfl (lv_at hl 1 rfl) ?_
  refine lv_aload_n F.1 F.2.1 (dd D_law_40 20 rfl) rfl (lv_at hl 3 rfl) ?_
  refine lv_iload_n F.1 F.2.1 (dd D_law_40 21 rfl) rfl (lv_at hl 0 rfl) ?_
  refine lv_iconst (v := (1 : Int32)) F.1 F.2.1 (dd D_law_40 22 rfl) ki_1 ?_
  refine lv_iadd F.1 F.2.1 (dd D_law_40 23 rfl) ?_
  refine va_sld F.1 F.2.1 hX hbl hbA hS h1 (dd D_law_40 24 rfl) ?_
  refine lawW (rest := []) F hK hA hAb (c_X9_looks D cA am y 20000 (xs (Int32.toNatClampNeg (i + (1 : Int32)))) _ e2) lk_L_247 (Nat.le_of_ble_eq_true rfl) (rcv_9 hK hP (q0 := 63 + (0)) (gR (xp_len cA ax x') (gL (mp_0 cA am y)))) rfl hl rfl (Nat.le_of_ble_eq_true rfl) (dd D_law_40 25 rfl) ⟨by omega, by omega⟩ hP hD hS (fun H locs hP hD hS => ?_)
  refine lv_pop F.1 F.2.1 (dd D_law_40 26 rfl) rfl ?_
  refine lv_goto (tgt := 2310) F.1 F.2.1 (dd D_law_40 27 rfl) rfl ?_
  exact kk x' y' H locs _ _ hP hD hS hR' (by omega) (by omega)
set_option maxHeartbeats 4000000 in
set_option maxRecDepth 100000 in
theorem case_56 (G : LG p m c s b L xs D cA) (h1 : vp_in (i + (1 : Int32)) L) (h2 : vp_in (i + (2 : Int32)) L) (h3 : vp_in (i + (3 : Int32)) L) (h4 : vp_in (i + (4 : Int32)) L) (h5 : vp_in (i + (5 : Int32)) L) (h6 : vp_in (i + (6 : Int32)) L) (hP : va_P D vwCl (xW cA ax x ++ (mW cA am y ++ KT)) H) (hD : va_D (AL s) (xW cA ax x ++ (mW cA am y ++ KT))) (hS : va_S (AL s) s.heap H locs) (hR : Rel x y ka ta mk) (hc : cells + 40 ≤ 600000 ∧ slots + 800 ≤ 7302250) (hl : lv_has ls 4 [(3, .int i), (2, .ref (am 0)), (1, .ref (ax 0)), (0, .ref b)])
    (kk : ∀ (x' : XS) (y' : MS) (H' : Heap) (locs' : List Loc) (cells' slots' : Nat), va_P D vwCl (xW cA ax x' ++ (mW cA am y' ++ KT)) H' → va_D (AL s) (xW cA ax x' ++ (mW cA am y' ++ KT)) → va_S (AL s) s.heap H' locs' → Rel x' y' ka ta mk → cells' ≤ cells + 40 → slots' ≤ slots + 800 → W p l e room_1 s m #[Value.ref b] below meth c H' locs' cells' slots' Q (F0 m 2310 ls [])) : W p l e room_1 s m #[Value.ref b] below meth c H locs cells slots Q (F0 m 2238 ls []) := by
  obtain ⟨F, hK, hE, hX, hbl, e9⟩ := G
  obtain ⟨hc1, hc2⟩ := hc
  have hA : ∀ q, s.heap.size ≤ q → AL s q := fun _ h => h
  have hAb : ∀ q, AL s q → cA 9 ≤ q := fun q h => by rw [e9]; exact h
  have hbA : ¬ AL s b := Nat.not_le.mpr hbl
  obtain ⟨e0, hR'⟩ := ok_seed hR (xs (Int32.toNatClampNeg (i + (1 : Int32))))
  refine lv_aload_n F.1 F.2.1 (dd D_law_40 28 rfl) rfl (lv_at hl 2 rfl) ?_
  refine lv_aload_n F.1 F.2.1 (dd D_law_40 29 rfl) rfl (lv_at hl 3 rfl) ?_
  refine lv_iload_n F.1 F.2.1 (dd D_law_40 30 rfl) rfl (lv_at hl 0 rfl) ?_
  refine lv_iconst (v := (1 : Int32)) F.1 F.2.1 (dd D_law_40 31 rfl) ki_1 ?_
  refine lv_iadd F.1 F.2.1 (dd D_law_40 32 rfl) ?_
  refine va_sld F.1 F.2.1 hX hbl hbA hS h1 (dd D_law_40 33 rfl) ?_
  refine lawW0 (rest := []) F hK hA hAb (c_X8_seed D cA ax x (xs (Int32.toNatClampNeg (i + (1 : Int32))))) lk_L_248 (Nat.le_of_ble_eq_true rfl) (rcv_8 hK hP (q0 := 0) (gL (xp_0 cA ax x))) rfl hl rfl (Nat.le_of_ble_eq_true rfl) (dd D_law_40 34 rfl) ⟨by omega, by omega⟩ hP hD hS (fun H locs hP hD hS => ?_)
  refine lv_pop F.1 F.2.1 (dd D_law_40 35 rfl) rfl ?_
  refine lv_aload_n F.1 F.2.1 (dd D_law_40 36 rfl) rfl (lv_at hl 1 rfl) ?_
  refine lv_aload_n F.1 F.2.1 (dd D_law_40 37 rfl) rfl (lv_at hl 3 rfl) ?_
  refine lv_iload_n F.1 F.2.1 (dd D_law_40 38 rfl) rfl (lv_at hl 0 rfl) ?_
  refine lv_iconst (v := (1 : Int32)) F.1 F.2.1 (dd D_law_40 39 rfl) ki_1 ?_
  refine lv_iadd F.1 F.2.1 (dd D_law_41 0 rfl) ?_
  refine va_sld F.1 F.2.1 hX hbl hbA hS h1 (dd D_law_41 1 rfl) ?_
  refine lawW (rest := []) F hK hA hAb (c_X9_seed D cA am y (xs (Int32.toNatClampNeg (i + (1 : Int32))))) lk_L_251 (Nat.le_of_ble_eq_true rfl) (rcv_9 hK hP (q0 := 63 + (0)) (gR (xp_len cA ax (F_X8_seed x (xs (Int32.toNatClampNeg (i + (1 : Int32))))).2) (gL (mp_0 cA am y)))) rfl hl rfl (Nat.le_of_ble_eq_true rfl) (dd D_law_41 2 rfl) ⟨by omega, by omega⟩ hP hD hS (fun H locs hP hD hS => ?_)
  refine lv_pop F.1 F.2.1 (dd D_law_41 3 rfl) rfl ?_
  refine lv_goto (tgt := 2310) F.1 F.2.1 (dd D_law_41 4 rfl) rfl ?_
  exact kk _ _ H locs _ _ hP hD hS hR' (by omega) (by omega)
set_option maxHeartbeats 4000000 in
set_option maxRecDepth 100000 in
theorem case_59 (G : LG p m c s b L xs D cA) (h1 : vp_in (i + (1 : Int32)) L) (h2 : vp_in (i + (2 : Int32)) L) (h3 : vp_in (i + (3 : Int32)) L) (h4 : vp_in (i + (4 : Int32)) L) (h5 : vp_in (i + (5 : Int32)) L) (h6 : vp_in (i + (6 : Int32)) L) (hP : va_P D vwCl (xW cA ax x ++ (mW cA am y ++ KT)) H) (hD : va_D (AL s) (xW cA ax x ++ (mW cA am y ++ KT))) (hS : va_S (AL s) s.heap H locs) (hR : Rel x y ka ta mk) (hc : cells + 40 ≤ 600000 ∧ slots + 800 ≤ 7302250) (hl : lv_has ls 4 [(3, .int i), (2, .ref (am 0)), (1, .ref (ax 0)), (0, .ref b)])
    (kk : ∀ (x' : XS) (y' : MS) (H' : Heap) (locs' : List Loc) (cells' slots' : Nat), va_P D vwCl (xW cA ax x' ++ (mW cA am y' ++ KT)) H' → va_D (AL s) (xW cA ax x' ++ (mW cA am y' ++ KT)) → va_S (AL s) s.heap H' locs' → Rel x' y' ka ta mk → cells' ≤ cells + 40 → slots' ≤ slots + 800 → W p l e room_1 s m #[Value.ref b] below meth c H' locs' cells' slots' Q (F0 m 2310 ls [])) : W p l e room_1 s m #[Value.ref b] below meth c H locs cells slots Q (F0 m 2287 ls []) := by
  obtain ⟨F, hK, hE, hX, hbl, e9⟩ := G
  obtain ⟨hc1, hc2⟩ := hc
  have hA : ∀ q, s.heap.size ≤ q → AL s q := fun _ h => h
  have hAb : ∀ q, AL s q → cA 9 ≤ q := fun q h => by rw [e9]; exact h
  have hbA : ¬ AL s b := Nat.not_le.mpr hbl
  obtain ⟨r, e1, e2⟩ := ok_status (n := 20000) hR (Nat.le_refl _) (xs (Int32.toNatClampNeg (i + (1 : Int32))))
  refine lv_aload_n F.1 F.2.1 (dd D_law_41 19 rfl) rfl (lv_at hl 2 rfl) ?_
  refine lv_aload_n F.1 F.2.1 (dd D_law_41 20 rfl) rfl (lv_at hl 3 rfl) ?_
  refine lv_iload_n F.1 F.2.1 (dd D_law_41 21 rfl) rfl (lv_at hl 0 rfl) ?_
  refine lv_iconst (v := (1 : Int32)) F.1 F.2.1 (dd D_law_41 22 rfl) ki_1 ?_
  refine lv_iadd F.1 F.2.1 (dd D_law_41 23 rfl) ?_
  refine va_sld F.1 F.2.1 hX hbl hbA hS h1 (dd D_law_41 24 rfl) ?_
  refine lawO (rest := []) F hK hAb (c_X8_status D cA ax x 20000 (xs (Int32.toNatClampNeg (i + (1 : Int32)))) _ e1) lk_L_260 (Nat.le_of_ble_eq_true rfl) (rcv_8 hK hP (q0 := 0) (gL (xp_0 cA ax x))) rfl hl rfl (Nat.le_of_ble_eq_true rfl) (dd D_law_41 25 rfl) ⟨by omega, by omega⟩ (preP hP) hS ?_
  refine lv_aload_n F.1 F.2.1 (dd D_law_41 26 rfl) rfl (lv_at hl 1 rfl) ?_
  refine lv_aload_n F.1 F.2.1 (dd D_law_41 27 rfl) rfl (lv_at hl 3 rfl) ?_
  refine lv_iload_n F.1 F.2.1 (dd D_law_41 28 rfl) rfl (lv_at hl 0 rfl) ?_
  refine lv_iconst (v := (1 : Int32)) F.1 F.2.1 (dd D_law_41 29 rfl) ki_1 ?_
  refine lv_iadd F.1 F.2.1 (dd D_law_41 30 rfl) ?_
  refine va_sld F.1 F.2.1 hX hbl hbA hS h1 (dd D_law_41 31 rfl) ?_
  refine lawO (rest := [.int r]) F hK hAb (c_X9_status D cA am y 20000 (xs (Int32.toNatClampNeg (i + (1 : Int32)))) _ e2) lk_L_263 (Nat.le_of_ble_eq_true rfl) (rcv_9 hK hP (q0 := 63 + (0)) (gR (xp_len cA ax x) (gL (mp_0 cA am y)))) rfl hl rfl (Nat.le_of_ble_eq_true rfl) (dd D_law_41 32 rfl) ⟨by omega, by omega⟩ (preP (sufP hP)) hS ?_
  refine lv_icmp_eq (tgt := 2310) F.1 F.2.1 (dd D_law_41 33 rfl) rfl (fun _ => ?_) (fun q => absurd rfl q)
  exact kk x y H locs _ _ hP hD hS hR (by omega) (by omega)
end CASES
