section LOOP
variable {p : Program} {l : Launch} {e : Env} {s : State} {m : MethodId} {below : List Frame} {meth : Method} {c : Code} {Q : State → Prop} {D : va_G} {cA : Nat → ClassId} {b L : Nat} {xs : Nat → Int32} {ax am : Nat → Nat}
set_option maxHeartbeats 4000000 in
set_option maxRecDepth 100000 in
theorem law_loop (G : LG p m c s b L xs D cA) (hL : L ≤ 3584) (hend : ∀ (H : Heap) (locs : List Loc) (cells slots : Nat) (ls : Array Slot), (∀ q ∈ locs, s.heap.size ≤ q.base) → cells ≤ 600000 → slots ≤ 7302250 → W p l e room_1 s m #[Value.ref b] below meth c H locs cells slots Q (F0 m 2316 ls [])) : ∀ (f I : Nat) (i : Int32) (x : XS) (y : MS) (tt kt : Option ((Nat → Nat) × MS)) (H : Heap) (locs : List Loc) (cells slots : Nat) (ls : Array Slot), i.toInt = I → I ≤ L + 7 → L < I + f → va_P D vwCl (xW cA ax x ++ (mW cA am y ++ (oW cA tt ++ oW cA kt))) H → va_D (AL s) (xW cA ax x ++ (mW cA am y ++ (oW cA tt ++ oW cA kt))) → va_S (AL s) s.heap H locs → Rel x y (kt.map fun q => q.1 0) (tt.map fun q => q.1 0) (kt.map fun q => q.2) → cells ≤ 100 + 6 * I → slots ≤ 3000 + 115 * I → lv_has ls 4 [(3, .int i), (2, .ref (am 0)), (1, .ref (ax 0)), (0, .ref b)] → W p l e room_1 s m #[Value.ref b] below meth c H locs cells slots Q (F0 m 18 ls []) := by
  have hG := G
  obtain ⟨F, hK, hE, hX, hbl, e9⟩ := G
  have hbA : ¬ AL s b := Nat.not_le.mpr hbl
  intro f
  induction f with
  | zero =>
    intro I i x y tt kt H locs cells slots ls hi hI hf hP hD hS hR hc1 hc2 hl
    refine lv_iload_n F.1 F.2.1 (dd D_law_0 10 rfl) rfl (lv_at hl 0 rfl) ?_
    refine lv_aload_n F.1 F.2.1 (dd D_law_0 11 rfl) rfl (lv_at hl 3 rfl) ?_
    refine va_slen F.1 F.2.1 hX hbl hbA hS (dd D_law_0 12 rfl) ?_
    refine lv_bipush (v := (7 : Int32)) F.1 F.2.1 (dd D_law_0 13 rfl) kb_7 ?_
    refine lv_isub F.1 F.2.1 (dd D_law_0 14 rfl) ?_
    have eL : (Int32.ofNat L - 7).toInt = (L : Int) - 7 := by
      have e1 : (Int32.ofNat L).toInt = L := Int32.toInt_ofNat_of_lt (by omega)
      rw [tS (by rw [e1]; show _ ≤ _ - (7 : Int); omega) (by rw [e1]; show _ - (7 : Int) ≤ _; omega), e1]
      rfl
    refine lv_icmp_gt (tgt := 2316) F.1 F.2.1 (dd D_law_0 15 rfl) rfl (fun _ => ?_) (fun q => absurd (Int32.lt_iff_toInt_lt.mpr (by omega)) q)
    exact hend H locs cells slots ls hS.2.2 (by omega) (by omega)
  | succ f ih =>
    intro I i x y tt kt H locs cells slots ls hi hI hf hP hD hS hR hc1 hc2 hl
    refine lv_iload_n F.1 F.2.1 (dd D_law_0 10 rfl) rfl (lv_at hl 0 rfl) ?_
    refine lv_aload_n F.1 F.2.1 (dd D_law_0 11 rfl) rfl (lv_at hl 3 rfl) ?_
    refine va_slen F.1 F.2.1 hX hbl hbA hS (dd D_law_0 12 rfl) ?_
    refine lv_bipush (v := (7 : Int32)) F.1 F.2.1 (dd D_law_0 13 rfl) kb_7 ?_
    refine lv_isub F.1 F.2.1 (dd D_law_0 14 rfl) ?_
    have eL : (Int32.ofNat L - 7).toInt = (L : Int) - 7 := by
      have e1 : (Int32.ofNat L).toInt = L := Int32.toInt_ofNat_of_lt (by omega)
      rw [tS (by rw [e1]; show _ ≤ _ - (7 : Int); omega) (by rw [e1]; show _ - (7 : Int) ≤ _; omega), e1]
      rfl
    refine lv_icmp_gt (tgt := 2316) F.1 F.2.1 (dd D_law_0 15 rfl) rfl (fun _ => ?_) (fun q => ?_)
    · exact hend H locs cells slots ls hS.2.2 (by omega) (by omega)
    have hlt : (I : Int) + 7 ≤ L := by
      have : ¬ (Int32.ofNat L - 7).toInt < i.toInt := fun z => q (Int32.lt_iff_toInt_lt.mpr z)
      omega
    have hin : ∀ j : Nat, j < 7 → vp_in (i + Int32.ofNat j) L := fun j hj => by
      have ej : (Int32.ofNat j).toInt = j := Int32.toInt_ofNat_of_lt (by omega)
      have e : (i + Int32.ofNat j).toInt = (I : Int) + j := by rw [tA (by rw [hi, ej]; omega) (by rw [hi, ej]; omega), hi, ej]
      rintro (z | z)
      · have := Int32.lt_iff_toInt_lt.mp z
        rw [e] at this
        replace this : (I : Int) + j < 0 := this
        omega
      · rw [nat_toInt, e] at z
        omega
    have h0 : vp_in i L := by
      have := hin 0 (by omega)
      rw [show Int32.ofNat 0 = 0 from rfl, Int32.add_zero] at this
      exact this
    refine lv_aload_n F.1 F.2.1 (dd D_law_0 16 rfl) rfl (lv_at hl 3 rfl) ?_
    refine lv_iload_n F.1 F.2.1 (dd D_law_0 17 rfl) rfl (lv_at hl 0 rfl) ?_
    refine va_sld F.1 F.2.1 hX hbl hbA hS h0 (dd D_law_0 18 rfl) ?_
    refine lv_bipush (v := (63 : Int32)) F.1 F.2.1 (dd D_law_0 19 rfl) kb_63 ?_
    refine lv_iand F.1 F.2.1 (dd D_law_0 20 rfl) ?_
    obtain ⟨k, hk, ek⟩ := and63 (xs i.toNatClampNeg)
    rw [ek]
    refine law_switch hG (hin 1 (by omega)) (hin 2 (by omega)) (hin 3 (by omega)) (hin 4 (by omega)) (hin 5 (by omega)) (hin 6 (by omega)) hP hD hS hR ⟨by omega, by omega⟩ hl (fun x' y' tt' kt' H' locs' cells' slots' q1 q2 q3 q4 q5 q6 => ?_) k hk
    refine lv_iinc (k := 0) (v := i + 7) (lv' := [(3, .int (i + 7)), (2, .ref (am 0)), (1, .ref (ax 0)), (0, .ref b)]) F.1 F.2.1 (dd D_law_41 36 rfl) hl rfl rfl (Nat.le_of_ble_eq_true rfl) rfl (fun ls' hl' => ?_)
    refine lv_goto (tgt := 18) F.1 F.2.1 (dd D_law_41 37 rfl) rfl ?_
    have e7 : (i + 7).toInt = ((I + 7 : Nat) : Int) := by
      rw [tA (by rw [hi]; show _ ≤ _ + (7 : Int); omega) (by rw [hi]; show _ + (7 : Int) ≤ _; omega), hi]
      rfl
    exact ih (I + 7) (i + 7) x' y' tt' kt' H' locs' cells' slots' ls' e7 (by omega) (by omega) q1 q2 q3 q4 (by omega) (by omega) hl'
end LOOP
