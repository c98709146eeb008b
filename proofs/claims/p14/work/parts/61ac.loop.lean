section LOOP
variable {p : Program} {l : Launch} {e : Env} {s : State} {m : MethodId} {below : List Frame} {meth : Method} {c : Code} {Q : State → Prop} {D : va_G} {cA : Nat → ClassId} {b L : Nat} {xs : Nat → Int32} {ax am : Nat → Nat}
theorem rel_0 : Rel XSZ MSZ none none none := by
  refine ⟨⟨⟨rfl, rfl, rfl, rfl⟩, ⟨by decide, by decide, by decide, by decide⟩, ⟨⟨by decide, fun i h => ?_⟩, ⟨rfl, rfl, rfl⟩, fun i h => ?_, fun d h => rfl⟩, ⟨rfl, by decide, fun i h => ?_⟩, ⟨rfl, by decide, fun i h => ?_⟩, ⟨rfl, by decide, by decide⟩, rfl, rfl⟩, fun k h => Or.inl ⟨rfl, rfl⟩, ⟨rfl, by decide, fun i h => ?_⟩, fun i h => ?_, ⟨rfl, fun k h => by cases h⟩, rfl, rfl⟩
  · replace h : (i : Int) < 0 := h; omega
  · replace h : (i : Int) < 0 := h; omega
  · replace h : (i : Int) < 0 := h; omega
  · replace h : (i : Int) < 0 := h; omega
  · replace h : (i : Int) < 0 := h; omega
  · rfl
theorem ln_L_8 : LkN RL 7 8 9 [.null, .null, .null, .null, .null, .null, .null, .null, .int 0] := ⟨RX8, TX8, tyX8, rfl, wsin_X8, tyX8_ok, w_79, w_80, w_61, by decide +kernel⟩
theorem ln_L_9 : LkN RL 10 9 29 [.null, .null, .null, .null, .null, .null, .null, .null, .int 0, .null, .null, .int 0, .null, .int 0, .null, .int 0, .null, .int 0, .int 0, .int 0, .null, .null, .int 0, .int 0, .int 0, .int 0, .int 0, .null, .int 0] := ⟨RX9, TX9, tyX9, rfl, wsin_X9, tyX9_ok, w_1123, w_1124, w_70, by decide +kernel⟩
set_option maxHeartbeats 4000000 in
set_option maxRecDepth 100000 in
theorem law_start {ls : Array Slot} (G : LG p m c s b L xs D cA) (hL : L ≤ 3584) (hend : ∀ (H : Heap) (locs : List Loc) (cells slots : Nat) (ls : Array Slot), (∀ q ∈ locs, s.heap.size ≤ q.base) → cells ≤ 600000 → slots ≤ 7302250 → W p l e room_1 s m #[Value.ref b] below meth c H locs cells slots Q (F0 m 2316 ls [])) (hl : lv_has ls 4 [(0, .ref b)]) : W p l e room_1 s m #[Value.ref b] below meth c s.heap [] 0 0 Q (F0 m 0 ls []) := by
  have hG := G
  obtain ⟨F, hK, hE, hX, hbl, e9⟩ := G
  have hA : ∀ q, s.heap.size ≤ q → AL s q := fun _ h => h
  have hAb : ∀ q, AL s q → cA 9 ≤ q := fun q h => by rw [e9]; exact h
  have hS : va_S (AL s) s.heap s.heap [] := va_S.rf
  have hP : va_P D vwCl [] s.heap := fun k q h => by simp at h
  have hD : va_D (AL s) [] := ⟨fun i j p q h => by simp at h, fun k q h => by simp at h⟩
  refine newO F hK hP hD hS hA ln_L_8 (Nat.le_of_ble_eq_true rfl) (Nat.le_of_ble_eq_true rfl) (dd D_law_0 0 rfl) (fun q1 H hP hD hS => ?_)
  refine lv_dup F.1 F.2.1 (dd D_law_0 1 rfl) rfl ?_
  refine rw_last (L := []) hP hD hA hS (rIL (rest := [.ref q1]) F (c_X8_init D cA q1 l H.size) lk_L_9 (Nat.le_of_ble_eq_true rfl) (preRWE hK hE hS hAb hP hD) rfl hl rfl (Nat.le_of_ble_eq_true rfl) (dd D_law_0 2 rfl) ⟨(Nat.le_of_ble_eq_true rfl), (Nat.le_of_ble_eq_true rfl)⟩) ?_
  rintro S2 H locs ⟨ax, rfl, rfl⟩ hP hD hS
  replace hP : va_P D vwCl (xW cA ax XSZ) H := hP
  replace hD : va_D (AL s) (xW cA ax XSZ) := hD
  refine lv_astore_n (lv' := [(1, .ref (ax 0)), (0, .ref b)]) F.1 F.2.1 (dd D_law_0 3 rfl) rfl hl (Nat.le_of_ble_eq_true rfl) rfl (fun ls hl => ?_)
  refine newO F hK hP hD hS hA ln_L_9 (Nat.le_of_ble_eq_true rfl) (Nat.le_of_ble_eq_true rfl) (dd D_law_0 4 rfl) (fun q2 H hP hD hS => ?_)
  refine lv_dup F.1 F.2.1 (dd D_law_0 5 rfl) rfl ?_
  refine rw_last (L := xW cA ax XSZ) hP hD hA hS (rIL (rest := [.ref q2]) F (c_X9_init D cA q2 l H.size) lk_L_12 (Nat.le_of_ble_eq_true rfl) (preRWE hK hE hS hAb (sufP hP) (sufD hD)) rfl hl rfl (Nat.le_of_ble_eq_true rfl) (dd D_law_0 6 rfl) ⟨(Nat.le_of_ble_eq_true rfl), (Nat.le_of_ble_eq_true rfl)⟩) ?_
  rintro S2 H locs ⟨am, rfl, rfl⟩ hP hD hS
  refine lv_astore_n (lv' := [(2, .ref (am 0)), (1, .ref (ax 0)), (0, .ref b)]) F.1 F.2.1 (dd D_law_0 7 rfl) rfl hl (Nat.le_of_ble_eq_true rfl) rfl (fun ls hl => ?_)
  refine lv_iconst (v := 0) F.1 F.2.1 (dd D_law_0 8 rfl) ki_0 ?_
  refine lv_istore_n (lv' := [(3, .int 0), (2, .ref (am 0)), (1, .ref (ax 0)), (0, .ref b)]) F.1 F.2.1 (dd D_law_0 9 rfl) rfl hl (Nat.le_of_ble_eq_true rfl) rfl (fun ls hl => ?_)
  exact law_loop hG hL hend (L + 1) 0 0 XSZ MSZ none none H locs _ _ ls rfl (by omega) (by omega) (by show va_P D vwCl (xW cA ax XSZ ++ (mW cA am MSZ ++ [])) H; rw [List.append_nil]; exact hP) (by show va_D (AL s) (xW cA ax XSZ ++ (mW cA am MSZ ++ [])); rw [List.append_nil]; exact hD) hS rel_0 (Nat.le_of_ble_eq_true rfl) (Nat.le_of_ble_eq_true rfl) hl
end LOOP

