section LOOP
variable {p : Program} {l : Launch} {e : Env} {s : State} {m : MethodId} {below : List Frame} {meth : Method} {c : Code} {Q : State → Prop} {D : va_G} {cA : Nat → ClassId} {b L : Nat} {xs : Nat → Int32} {ax am : Nat → Nat}
theorem and63 (v : Int32) : ∃ k : Nat, k < 64 ∧ v &&& 63 = Int32.ofNat k := by
  have h : (v &&& 63).toBitVec.toNat ≤ 63 := by
    rw [Int32.toBitVec_and, BitVec.toNat_and]
    exact Nat.and_le_right
  refine ⟨(v &&& 63).toBitVec.toNat, by omega, Int32.toBitVec_inj.mp ?_⟩
  rw [Int32.toBitVec_ofNat', BitVec.ofNat_toNat, BitVec.setWidth_eq]
theorem or_step {k n : Nat} (h : n ≤ k) : k = n ∨ n + 1 ≤ k := (Nat.eq_or_lt_of_le h).elim (fun e => Or.inl e.symm) Or.inr
set_option maxHeartbeats 4000000 in
set_option maxRecDepth 100000 in
theorem law_switch {x : XS} {y : MS} {tt kt : Option ((Nat → Nat) × MS)} {H : Heap} {locs : List Loc} {cells slots : Nat} {ls : Array Slot} {i : Int32} (G : LG p m c s b L xs D cA) (h1 : vp_in (i + (1 : Int32)) L) (h2 : vp_in (i + (2 : Int32)) L) (h3 : vp_in (i + (3 : Int32)) L) (h4 : vp_in (i + (4 : Int32)) L) (h5 : vp_in (i + (5 : Int32)) L) (h6 : vp_in (i + (6 : Int32)) L) (hP : va_P D vwCl (xW cA ax x ++ (mW cA am y ++ (oW cA tt ++ oW cA kt))) H) (hD : va_D (AL s) (xW cA ax x ++ (mW cA am y ++ (oW cA tt ++ oW cA kt)))) (hS : va_S (AL s) s.heap H locs) (hR : Rel x y (kt.map fun q => q.1 0) (tt.map fun q => q.1 0) (kt.map fun q => q.2)) (hc : cells + 40 ≤ 600000 ∧ slots + 800 ≤ 7302250) (hl : lv_has ls 4 [(3, .int i), (2, .ref (am 0)), (1, .ref (ax 0)), (0, .ref b)])
    (kk : ∀ (x' : XS) (y' : MS) (tt' kt' : Option ((Nat → Nat) × MS)) (H' : Heap) (locs' : List Loc) (cells' slots' : Nat), va_P D vwCl (xW cA ax x' ++ (mW cA am y' ++ (oW cA tt' ++ oW cA kt'))) H' → va_D (AL s) (xW cA ax x' ++ (mW cA am y' ++ (oW cA tt' ++ oW cA kt'))) → va_S (AL s) s.heap H' locs' → Rel x' y' (kt'.map fun q => q.1 0) (tt'.map fun q => q.1 0) (kt'.map fun q => q.2) → cells' ≤ cells + 40 → slots' ≤ slots + 800 → W p l e room_1 s m #[Value.ref b] below meth c H' locs' cells' slots' Q (F0 m 2310 ls [])) (k : Nat) (hk : k < 64) : W p l e room_1 s m #[Value.ref b] below meth c H locs cells slots Q (F0 m 33 ls [.int (Int32.ofNat k)]) := by
  have F := G.1
  have h : 0 ≤ k := Nat.zero_le k
  have a := or_step (n := 0) h; clear h; rcases a with rfl | h
  · refine lv_tableIn (off := 255) (tgt := 288) F.1 F.2.1 (dd D_law_0 21 rfl) (by decide) (by decide) rfl rfl ?_
    exact case_0 G h1 h2 h3 h4 h5 h6 hP hD hS hR hc hl (fun x' y' H' l' c' s' q1 q2 q3 q4 q5 q6 => kk x' y' tt kt H' l' c' s' q1 q2 q3 q4 q5 q6)
  have a := or_step (n := 1) h; clear h; rcases a with rfl | h
  · refine lv_tableIn (off := 298) (tgt := 331) F.1 F.2.1 (dd D_law_0 21 rfl) (by decide) (by decide) rfl rfl ?_
    exact case_1 G h1 h2 h3 h4 h5 h6 hP hD hS hR hc hl (fun x' y' H' l' c' s' q1 q2 q3 q4 q5 q6 => kk x' y' tt kt H' l' c' s' q1 q2 q3 q4 q5 q6)
  have a := or_step (n := 2) h; clear h; rcases a with rfl | h
  · refine lv_tableIn (off := 371) (tgt := 404) F.1 F.2.1 (dd D_law_0 21 rfl) (by decide) (by decide) rfl rfl ?_
    exact case_2 G h1 h2 h3 h4 h5 h6 hP hD hS hR hc hl (fun x' y' H' l' c' s' q1 q2 q3 q4 q5 q6 => kk x' y' tt kt H' l' c' s' q1 q2 q3 q4 q5 q6)
  have a := or_step (n := 3) h; clear h; rcases a with rfl | h
  · refine lv_tableIn (off := 434) (tgt := 467) F.1 F.2.1 (dd D_law_0 21 rfl) (by decide) (by decide) rfl rfl ?_
    exact case_3 G h1 h2 h3 h4 h5 h6 hP hD hS hR hc hl (fun x' y' H' l' c' s' q1 q2 q3 q4 q5 q6 => kk x' y' tt kt H' l' c' s' q1 q2 q3 q4 q5 q6)
  have a := or_step (n := 4) h; clear h; rcases a with rfl | h
  · refine lv_tableIn (off := 467) (tgt := 500) F.1 F.2.1 (dd D_law_0 21 rfl) (by decide) (by decide) rfl rfl ?_
    exact case_4 G h1 h2 h3 h4 h5 h6 hP hD hS hR hc hl (fun x' y' H' l' c' s' q1 q2 q3 q4 q5 q6 => kk x' y' tt kt H' l' c' s' q1 q2 q3 q4 q5 q6)
  have a := or_step (n := 5) h; clear h; rcases a with rfl | h
  · refine lv_tableIn (off := 490) (tgt := 523) F.1 F.2.1 (dd D_law_0 21 rfl) (by decide) (by decide) rfl rfl ?_
    exact case_5 G h1 h2 h3 h4 h5 h6 hP hD hS hR hc hl (fun x' y' H' l' c' s' q1 q2 q3 q4 q5 q6 => kk x' y' tt kt H' l' c' s' q1 q2 q3 q4 q5 q6)
  have a := or_step (n := 6) h; clear h; rcases a with rfl | h
  · refine lv_tableIn (off := 533) (tgt := 566) F.1 F.2.1 (dd D_law_0 21 rfl) (by decide) (by decide) rfl rfl ?_
    exact case_6 G h1 h2 h3 h4 h5 h6 hP hD hS hR hc hl (fun x' y' H' l' c' s' q1 q2 q3 q4 q5 q6 => kk x' y' tt kt H' l' c' s' q1 q2 q3 q4 q5 q6)
  have a := or_step (n := 7) h; clear h; rcases a with rfl | h
  · refine lv_tableIn (off := 566) (tgt := 599) F.1 F.2.1 (dd D_law_0 21 rfl) (by decide) (by decide) rfl rfl ?_
    exact case_7 G h1 h2 h3 h4 h5 h6 hP hD hS hR hc hl (fun x' y' H' l' c' s' q1 q2 q3 q4 q5 q6 => kk x' y' tt kt H' l' c' s' q1 q2 q3 q4 q5 q6)
  have a := or_step (n := 8) h; clear h; rcases a with rfl | h
  · refine lv_tableIn (off := 589) (tgt := 622) F.1 F.2.1 (dd D_law_0 21 rfl) (by decide) (by decide) rfl rfl ?_
    exact case_8 G h1 h2 h3 h4 h5 h6 hP hD hS hR hc hl (fun x' y' H' l' c' s' q1 q2 q3 q4 q5 q6 => kk x' y' tt kt H' l' c' s' q1 q2 q3 q4 q5 q6)
  have a := or_step (n := 9) h; clear h; rcases a with rfl | h
  · refine lv_tableIn (off := 622) (tgt := 655) F.1 F.2.1 (dd D_law_0 21 rfl) (by decide) (by decide) rfl rfl ?_
    exact case_9 G h1 h2 h3 h4 h5 h6 hP hD hS hR hc hl (fun x' y' H' l' c' s' q1 q2 q3 q4 q5 q6 => kk x' y' tt kt H' l' c' s' q1 q2 q3 q4 q5 q6)
  have a := or_step (n := 10) h; clear h; rcases a with rfl | h
  · refine lv_tableIn (off := 665) (tgt := 698) F.1 F.2.1 (dd D_law_0 21 rfl) (by decide) (by decide) rfl rfl ?_
    exact case_10 G h1 h2 h3 h4 h5 h6 hP hD hS hR hc hl (fun x' y' H' l' c' s' q1 q2 q3 q4 q5 q6 => kk x' y' tt kt H' l' c' s' q1 q2 q3 q4 q5 q6)
  have a := or_step (n := 11) h; clear h; rcases a with rfl | h
  · refine lv_tableIn (off := 688) (tgt := 721) F.1 F.2.1 (dd D_law_0 21 rfl) (by decide) (by decide) rfl rfl ?_
    exact case_11 G h1 h2 h3 h4 h5 h6 hP hD hS hR hc hl (fun x' y' H' l' c' s' q1 q2 q3 q4 q5 q6 => kk x' y' tt kt H' l' c' s' q1 q2 q3 q4 q5 q6)
  have a := or_step (n := 12) h; clear h; rcases a with rfl | h
  · refine lv_tableIn (off := 711) (tgt := 744) F.1 F.2.1 (dd D_law_0 21 rfl) (by decide) (by decide) rfl rfl ?_
    exact case_12 G h1 h2 h3 h4 h5 h6 hP hD hS hR hc hl (fun x' y' H' l' c' s' q1 q2 q3 q4 q5 q6 => kk x' y' tt kt H' l' c' s' q1 q2 q3 q4 q5 q6)
  have a := or_step (n := 13) h; clear h; rcases a with rfl | h
  · refine lv_tableIn (off := 734) (tgt := 767) F.1 F.2.1 (dd D_law_0 21 rfl) (by decide) (by decide) rfl rfl ?_
    exact case_13 G h1 h2 h3 h4 h5 h6 hP hD hS hR hc hl (fun x' y' H' l' c' s' q1 q2 q3 q4 q5 q6 => kk x' y' tt kt H' l' c' s' q1 q2 q3 q4 q5 q6)
  have a := or_step (n := 14) h; clear h; rcases a with rfl | h
  · refine lv_tableIn (off := 757) (tgt := 790) F.1 F.2.1 (dd D_law_0 21 rfl) (by decide) (by decide) rfl rfl ?_
    exact case_14 G h1 h2 h3 h4 h5 h6 hP hD hS hR hc hl (fun x' y' H' l' c' s' q1 q2 q3 q4 q5 q6 => kk x' y' tt kt H' l' c' s' q1 q2 q3 q4 q5 q6)
  have a := or_step (n := 15) h; clear h; rcases a with rfl | h
  · refine lv_tableIn (off := 770) (tgt := 803) F.1 F.2.1 (dd D_law_0 21 rfl) (by decide) (by decide) rfl rfl ?_
    exact case_15 G hP hD hS hR hc hl (fun x' y' tt' H' l' c' s' q1 q2 q3 q4 q5 q6 => kk x' y' tt' kt H' l' c' s' q1 q2 q3 q4 q5 q6)
  have a := or_step (n := 16) h; clear h; rcases a with rfl | h
  · refine lv_tableIn (off := 783) (tgt := 816) F.1 F.2.1 (dd D_law_0 21 rfl) (by decide) (by decide) rfl rfl ?_
    exact case_16 G h1 h2 h3 h4 h5 h6 hP hD hS hR hc hl (fun x' y' H' l' c' s' q1 q2 q3 q4 q5 q6 => kk x' y' tt kt H' l' c' s' q1 q2 q3 q4 q5 q6)
  have a := or_step (n := 17) h; clear h; rcases a with rfl | h
  · refine lv_tableIn (off := 816) (tgt := 849) F.1 F.2.1 (dd D_law_0 21 rfl) (by decide) (by decide) rfl rfl ?_
    exact case_17 G h1 h2 h3 h4 h5 h6 hP hD hS hR hc hl (fun x' y' H' l' c' s' q1 q2 q3 q4 q5 q6 => kk x' y' tt kt H' l' c' s' q1 q2 q3 q4 q5 q6)
  have a := or_step (n := 18) h; clear h; rcases a with rfl | h
  · refine lv_tableIn (off := 839) (tgt := 872) F.1 F.2.1 (dd D_law_0 21 rfl) (by decide) (by decide) rfl rfl ?_
    exact case_18 G h1 h2 h3 h4 h5 h6 hP hD hS hR hc hl (fun x' y' H' l' c' s' q1 q2 q3 q4 q5 q6 => kk x' y' tt kt H' l' c' s' q1 q2 q3 q4 q5 q6)
  have a := or_step (n := 19) h; clear h; rcases a with rfl | h
  · refine lv_tableIn (off := 862) (tgt := 895) F.1 F.2.1 (dd D_law_0 21 rfl) (by decide) (by decide) rfl rfl ?_
    exact case_19 G h1 h2 h3 h4 h5 h6 hP hD hS hR hc hl (fun x' y' H' l' c' s' q1 q2 q3 q4 q5 q6 => kk x' y' tt kt H' l' c' s' q1 q2 q3 q4 q5 q6)
  have a := or_step (n := 20) h; clear h; rcases a with rfl | h
  · refine lv_tableIn (off := 895) (tgt := 928) F.1 F.2.1 (dd D_law_0 21 rfl) (by decide) (by decide) rfl rfl ?_
    exact case_20 G h1 h2 h3 h4 h5 h6 hP hD hS hR hc hl (fun x' y' H' l' c' s' q1 q2 q3 q4 q5 q6 => kk x' y' tt kt H' l' c' s' q1 q2 q3 q4 q5 q6)
  have a := or_step (n := 21) h; clear h; rcases a with rfl | h
  · refine lv_tableIn (off := 918) (tgt := 951) F.1 F.2.1 (dd D_law_0 21 rfl) (by decide) (by decide) rfl rfl ?_
    exact case_21 G h1 h2 h3 h4 h5 h6 hP hD hS hR hc hl (fun x' y' H' l' c' s' q1 q2 q3 q4 q5 q6 => kk x' y' tt kt H' l' c' s' q1 q2 q3 q4 q5 q6)
  have a := or_step (n := 22) h; clear h; rcases a with rfl | h
  · refine lv_tableIn (off := 941) (tgt := 974) F.1 F.2.1 (dd D_law_0 21 rfl) (by decide) (by decide) rfl rfl ?_
    exact case_22 G h1 h2 h3 h4 h5 h6 hP hD hS hR hc hl (fun x' y' H' l' c' s' q1 q2 q3 q4 q5 q6 => kk x' y' tt kt H' l' c' s' q1 q2 q3 q4 q5 q6)
  have a := or_step (n := 23) h; clear h; rcases a with rfl | h
  · refine lv_tableIn (off := 974) (tgt := 1007) F.1 F.2.1 (dd D_law_0 21 rfl) (by decide) (by decide) rfl rfl ?_
    exact case_23 G h1 h2 h3 h4 h5 h6 hP hD hS hR hc hl (fun x' y' H' l' c' s' q1 q2 q3 q4 q5 q6 => kk x' y' tt kt H' l' c' s' q1 q2 q3 q4 q5 q6)
  have a := or_step (n := 24) h; clear h; rcases a with rfl | h
  · refine lv_tableIn (off := 1017) (tgt := 1050) F.1 F.2.1 (dd D_law_0 21 rfl) (by decide) (by decide) rfl rfl ?_
    exact case_24 G h1 h2 h3 h4 h5 h6 hP hD hS hR hc hl (fun x' y' H' l' c' s' q1 q2 q3 q4 q5 q6 => kk x' y' tt kt H' l' c' s' q1 q2 q3 q4 q5 q6)
  have a := or_step (n := 25) h; clear h; rcases a with rfl | h
  · refine lv_tableIn (off := 1060) (tgt := 1093) F.1 F.2.1 (dd D_law_0 21 rfl) (by decide) (by decide) rfl rfl ?_
    exact case_25 G h1 h2 h3 h4 h5 h6 hP hD hS hR hc hl (fun x' y' H' l' c' s' q1 q2 q3 q4 q5 q6 => kk x' y' tt kt H' l' c' s' q1 q2 q3 q4 q5 q6)
  have a := or_step (n := 26) h; clear h; rcases a with rfl | h
  · refine lv_tableIn (off := 1093) (tgt := 1126) F.1 F.2.1 (dd D_law_0 21 rfl) (by decide) (by decide) rfl rfl ?_
    exact case_26 G h1 h2 h3 h4 h5 h6 hP hD hS hR hc hl (fun x' y' H' l' c' s' q1 q2 q3 q4 q5 q6 => kk x' y' tt kt H' l' c' s' q1 q2 q3 q4 q5 q6)
  have a := or_step (n := 27) h; clear h; rcases a with rfl | h
  · refine lv_tableIn (off := 1136) (tgt := 1169) F.1 F.2.1 (dd D_law_0 21 rfl) (by decide) (by decide) rfl rfl ?_
    exact case_27 G h1 h2 h3 h4 h5 h6 hP hD hS hR hc hl (fun x' y' H' l' c' s' q1 q2 q3 q4 q5 q6 => kk x' y' tt kt H' l' c' s' q1 q2 q3 q4 q5 q6)
  have a := or_step (n := 28) h; clear h; rcases a with rfl | h
  · refine lv_tableIn (off := 1199) (tgt := 1232) F.1 F.2.1 (dd D_law_0 21 rfl) (by decide) (by decide) rfl rfl ?_
    exact case_28 G h1 h2 h3 h4 h5 h6 hP hD hS hR hc hl (fun x' y' H' l' c' s' q1 q2 q3 q4 q5 q6 => kk x' y' tt kt H' l' c' s' q1 q2 q3 q4 q5 q6)
  have a := or_step (n := 29) h; clear h; rcases a with rfl | h
  · refine lv_tableIn (off := 1222) (tgt := 1255) F.1 F.2.1 (dd D_law_0 21 rfl) (by decide) (by decide) rfl rfl ?_
    exact case_29 G h1 h2 h3 h4 h5 h6 hP hD hS hR hc hl (fun x' y' H' l' c' s' q1 q2 q3 q4 q5 q6 => kk x' y' tt kt H' l' c' s' q1 q2 q3 q4 q5 q6)
  have a := or_step (n := 30) h; clear h; rcases a with rfl | h
  · refine lv_tableIn (off := 1255) (tgt := 1288) F.1 F.2.1 (dd D_law_0 21 rfl) (by decide) (by decide) rfl rfl ?_
    exact case_30 G h1 h2 h3 h4 h5 h6 hP hD hS hR hc hl (fun x' y' H' l' c' s' q1 q2 q3 q4 q5 q6 => kk x' y' tt kt H' l' c' s' q1 q2 q3 q4 q5 q6)
  have a := or_step (n := 31) h; clear h; rcases a with rfl | h
  · refine lv_tableIn (off := 1278) (tgt := 1311) F.1 F.2.1 (dd D_law_0 21 rfl) (by decide) (by decide) rfl rfl ?_
    exact case_31 G h1 h2 h3 h4 h5 h6 hP hD hS hR hc hl (fun x' y' H' l' c' s' q1 q2 q3 q4 q5 q6 => kk x' y' tt kt H' l' c' s' q1 q2 q3 q4 q5 q6)
  have a := or_step (n := 32) h; clear h; rcases a with rfl | h
  · refine lv_tableIn (off := 1331) (tgt := 1364) F.1 F.2.1 (dd D_law_0 21 rfl) (by decide) (by decide) rfl rfl ?_
    exact case_32 G h1 h2 h3 h4 h5 h6 hP hD hS hR hc hl (fun x' y' H' l' c' s' q1 q2 q3 q4 q5 q6 => kk x' y' tt kt H' l' c' s' q1 q2 q3 q4 q5 q6)
  have a := or_step (n := 33) h; clear h; rcases a with rfl | h
  · refine lv_tableIn (off := 1364) (tgt := 1397) F.1 F.2.1 (dd D_law_0 21 rfl) (by decide) (by decide) rfl rfl ?_
    exact case_33 G h1 h2 h3 h4 h5 h6 hP hD hS hR hc hl (fun x' y' H' l' c' s' q1 q2 q3 q4 q5 q6 => kk x' y' tt kt H' l' c' s' q1 q2 q3 q4 q5 q6)
  have a := or_step (n := 34) h; clear h; rcases a with rfl | h
  · refine lv_tableIn (off := 1397) (tgt := 1430) F.1 F.2.1 (dd D_law_0 21 rfl) (by decide) (by decide) rfl rfl ?_
    exact case_34 G h1 h2 h3 h4 h5 h6 hP hD hS hR hc hl (fun x' y' H' l' c' s' q1 q2 q3 q4 q5 q6 => kk x' y' tt kt H' l' c' s' q1 q2 q3 q4 q5 q6)
  have a := or_step (n := 35) h; clear h; rcases a with rfl | h
  · refine lv_tableIn (off := 1472) (tgt := 1505) F.1 F.2.1 (dd D_law_0 21 rfl) (by decide) (by decide) rfl rfl ?_
    exact case_35 G h1 h2 h3 h4 h5 h6 hP hD hS hR hc hl (fun x' y' H' l' c' s' q1 q2 q3 q4 q5 q6 => kk x' y' tt kt H' l' c' s' q1 q2 q3 q4 q5 q6)
  have a := or_step (n := 36) h; clear h; rcases a with rfl | h
  · refine lv_tableIn (off := 1525) (tgt := 1558) F.1 F.2.1 (dd D_law_0 21 rfl) (by decide) (by decide) rfl rfl ?_
    exact case_36 G h1 h2 h3 h4 h5 h6 hP hD hS hR hc hl (fun x' y' H' l' c' s' q1 q2 q3 q4 q5 q6 => kk x' y' tt kt H' l' c' s' q1 q2 q3 q4 q5 q6)
  have a := or_step (n := 37) h; clear h; rcases a with rfl | h
  · refine lv_tableIn (off := 1568) (tgt := 1601) F.1 F.2.1 (dd D_law_0 21 rfl) (by decide) (by decide) rfl rfl ?_
    exact case_37 G h1 h2 h3 h4 h5 h6 hP hD hS hR hc hl (fun x' y' H' l' c' s' q1 q2 q3 q4 q5 q6 => kk x' y' tt kt H' l' c' s' q1 q2 q3 q4 q5 q6)
  have a := or_step (n := 38) h; clear h; rcases a with rfl | h
  · refine lv_tableIn (off := 1591) (tgt := 1624) F.1 F.2.1 (dd D_law_0 21 rfl) (by decide) (by decide) rfl rfl ?_
    exact case_38 G h1 h2 h3 h4 h5 h6 hP hD hS hR hc hl (fun x' y' H' l' c' s' q1 q2 q3 q4 q5 q6 => kk x' y' tt kt H' l' c' s' q1 q2 q3 q4 q5 q6)
  have a := or_step (n := 39) h; clear h; rcases a with rfl | h
  · refine lv_tableIn (off := 1614) (tgt := 1647) F.1 F.2.1 (dd D_law_0 21 rfl) (by decide) (by decide) rfl rfl ?_
    exact case_39 G h1 h2 h3 h4 h5 h6 hP hD hS hR hc hl (fun x' y' H' l' c' s' q1 q2 q3 q4 q5 q6 => kk x' y' tt kt H' l' c' s' q1 q2 q3 q4 q5 q6)
  have a := or_step (n := 40) h; clear h; rcases a with rfl | h
  · refine lv_tableIn (off := 1637) (tgt := 1670) F.1 F.2.1 (dd D_law_0 21 rfl) (by decide) (by decide) rfl rfl ?_
    exact case_40 G h1 h2 h3 h4 h5 h6 hP hD hS hR hc hl (fun x' y' H' l' c' s' q1 q2 q3 q4 q5 q6 => kk x' y' tt kt H' l' c' s' q1 q2 q3 q4 q5 q6)
  have a := or_step (n := 41) h; clear h; rcases a with rfl | h
  · refine lv_tableIn (off := 1680) (tgt := 1713) F.1 F.2.1 (dd D_law_0 21 rfl) (by decide) (by decide) rfl rfl ?_
    exact case_41 G h1 h2 h3 h4 h5 h6 hP hD hS hR hc hl (fun x' y' H' l' c' s' q1 q2 q3 q4 q5 q6 => kk x' y' tt kt H' l' c' s' q1 q2 q3 q4 q5 q6)
  have a := or_step (n := 42) h; clear h; rcases a with rfl | h
  · refine lv_tableIn (off := 1723) (tgt := 1756) F.1 F.2.1 (dd D_law_0 21 rfl) (by decide) (by decide) rfl rfl ?_
    exact case_42 G h1 h2 h3 h4 h5 h6 hP hD hS hR hc hl (fun x' y' H' l' c' s' q1 q2 q3 q4 q5 q6 => kk x' y' tt kt H' l' c' s' q1 q2 q3 q4 q5 q6)
  have a := or_step (n := 43) h; clear h; rcases a with rfl | h
  · refine lv_tableIn (off := 1756) (tgt := 1789) F.1 F.2.1 (dd D_law_0 21 rfl) (by decide) (by decide) rfl rfl ?_
    exact case_43 G h1 h2 h3 h4 h5 h6 hP hD hS hR hc hl (fun x' y' H' l' c' s' q1 q2 q3 q4 q5 q6 => kk x' y' tt kt H' l' c' s' q1 q2 q3 q4 q5 q6)
  have a := or_step (n := 44) h; clear h; rcases a with rfl | h
  · refine lv_tableIn (off := 1789) (tgt := 1822) F.1 F.2.1 (dd D_law_0 21 rfl) (by decide) (by decide) rfl rfl ?_
    exact case_44 G h1 h2 h3 h4 h5 h6 hP hD hS hR hc hl (fun x' y' H' l' c' s' q1 q2 q3 q4 q5 q6 => kk x' y' tt kt H' l' c' s' q1 q2 q3 q4 q5 q6)
  have a := or_step (n := 45) h; clear h; rcases a with rfl | h
  · refine lv_tableIn (off := 1822) (tgt := 1855) F.1 F.2.1 (dd D_law_0 21 rfl) (by decide) (by decide) rfl rfl ?_
    exact case_45 G h1 h2 h3 h4 h5 h6 hP hD hS hR hc hl (fun x' y' H' l' c' s' q1 q2 q3 q4 q5 q6 => kk x' y' tt kt H' l' c' s' q1 q2 q3 q4 q5 q6)
  have a := or_step (n := 46) h; clear h; rcases a with rfl | h
  · refine lv_tableIn (off := 1855) (tgt := 1888) F.1 F.2.1 (dd D_law_0 21 rfl) (by decide) (by decide) rfl rfl ?_
    exact case_46 G h1 h2 h3 h4 h5 h6 hP hD hS hR hc hl (fun x' y' H' l' c' s' q1 q2 q3 q4 q5 q6 => kk x' y' tt kt H' l' c' s' q1 q2 q3 q4 q5 q6)
  have a := or_step (n := 47) h; clear h; rcases a with rfl | h
  · refine lv_tableIn (off := 1878) (tgt := 1911) F.1 F.2.1 (dd D_law_0 21 rfl) (by decide) (by decide) rfl rfl ?_
    exact case_47 G h1 h2 h3 h4 h5 h6 hP hD hS hR hc hl (fun x' y' H' l' c' s' q1 q2 q3 q4 q5 q6 => kk x' y' tt kt H' l' c' s' q1 q2 q3 q4 q5 q6)
  have a := or_step (n := 48) h; clear h; rcases a with rfl | h
  · refine lv_tableIn (off := 1921) (tgt := 1954) F.1 F.2.1 (dd D_law_0 21 rfl) (by decide) (by decide) rfl rfl ?_
    exact case_48 G h1 h2 h3 h4 h5 h6 hP hD hS hR hc hl (fun x' y' H' l' c' s' q1 q2 q3 q4 q5 q6 => kk x' y' tt kt H' l' c' s' q1 q2 q3 q4 q5 q6)
  have a := or_step (n := 49) h; clear h; rcases a with rfl | h
  · refine lv_tableIn (off := 1964) (tgt := 1997) F.1 F.2.1 (dd D_law_0 21 rfl) (by decide) (by decide) rfl rfl ?_
    exact case_49 G h1 h2 h3 h4 h5 h6 hP hD hS hR hc hl (fun x' y' H' l' c' s' q1 q2 q3 q4 q5 q6 => kk x' y' tt kt H' l' c' s' q1 q2 q3 q4 q5 q6)
  have a := or_step (n := 50) h; clear h; rcases a with rfl | h
  · refine lv_tableIn (off := 2007) (tgt := 2040) F.1 F.2.1 (dd D_law_0 21 rfl) (by decide) (by decide) rfl rfl ?_
    exact case_50 G h1 h2 h3 h4 h5 h6 hP hD hS hR hc hl (fun x' y' H' l' c' s' q1 q2 q3 q4 q5 q6 => kk x' y' tt kt H' l' c' s' q1 q2 q3 q4 q5 q6)
  have a := or_step (n := 51) h; clear h; rcases a with rfl | h
  · refine lv_tableIn (off := 2050) (tgt := 2083) F.1 F.2.1 (dd D_law_0 21 rfl) (by decide) (by decide) rfl rfl ?_
    exact case_51 G h1 h2 h3 h4 h5 h6 hP hD hS hR hc hl (fun x' y' H' l' c' s' q1 q2 q3 q4 q5 q6 => kk x' y' tt kt H' l' c' s' q1 q2 q3 q4 q5 q6)
  have a := or_step (n := 52) h; clear h; rcases a with rfl | h
  · refine lv_tableIn (off := 2093) (tgt := 2126) F.1 F.2.1 (dd D_law_0 21 rfl) (by decide) (by decide) rfl rfl ?_
    exact case_52 G h1 h2 h3 h4 h5 h6 hP hD hS hR hc hl (fun x' y' H' l' c' s' q1 q2 q3 q4 q5 q6 => kk x' y' tt kt H' l' c' s' q1 q2 q3 q4 q5 q6)
  have a := or_step (n := 53) h; clear h; rcases a with rfl | h
  · refine lv_tableIn (off := 2136) (tgt := 2169) F.1 F.2.1 (dd D_law_0 21 rfl) (by decide) (by decide) rfl rfl ?_
    exact case_53 G h1 h2 h3 h4 h5 h6 hP hD hS hR hc hl (fun x' y' H' l' c' s' q1 q2 q3 q4 q5 q6 => kk x' y' tt kt H' l' c' s' q1 q2 q3 q4 q5 q6)
  have a := or_step (n := 54) h; clear h; rcases a with rfl | h
  · refine lv_tableIn (off := 2169) (tgt := 2202) F.1 F.2.1 (dd D_law_0 21 rfl) (by decide) (by decide) rfl rfl ?_
    exact case_54 G h1 h2 h3 h4 h5 h6 hP hD hS hR hc hl (fun x' y' H' l' c' s' q1 q2 q3 q4 q5 q6 => kk x' y' tt kt H' l' c' s' q1 q2 q3 q4 q5 q6)
  have a := or_step (n := 55) h; clear h; rcases a with rfl | h
  · refine lv_tableIn (off := 2182) (tgt := 2215) F.1 F.2.1 (dd D_law_0 21 rfl) (by decide) (by decide) rfl rfl ?_
    exact case_55 G h1 h2 h3 h4 h5 h6 hP hD hS hR hc hl (fun x' y' H' l' c' s' q1 q2 q3 q4 q5 q6 => kk x' y' tt kt H' l' c' s' q1 q2 q3 q4 q5 q6)
  have a := or_step (n := 56) h; clear h; rcases a with rfl | h
  · refine lv_tableIn (off := 2205) (tgt := 2238) F.1 F.2.1 (dd D_law_0 21 rfl) (by decide) (by decide) rfl rfl ?_
    exact case_56 G h1 h2 h3 h4 h5 h6 hP hD hS hR hc hl (fun x' y' H' l' c' s' q1 q2 q3 q4 q5 q6 => kk x' y' tt kt H' l' c' s' q1 q2 q3 q4 q5 q6)
  have a := or_step (n := 57) h; clear h; rcases a with rfl | h
  · refine lv_tableIn (off := 2228) (tgt := 2261) F.1 F.2.1 (dd D_law_0 21 rfl) (by decide) (by decide) rfl rfl ?_
    exact case_57 G hP hD hS hR hc hl (fun x' y' kt' H' l' c' s' q1 q2 q3 q4 q5 q6 => kk x' y' tt kt' H' l' c' s' q1 q2 q3 q4 q5 q6)
  have a := or_step (n := 58) h; clear h; rcases a with rfl | h
  · refine lv_tableIn (off := 2241) (tgt := 2274) F.1 F.2.1 (dd D_law_0 21 rfl) (by decide) (by decide) rfl rfl ?_
    exact case_58 G hP hD hS hR hc hl (fun x' y' kt' H' l' c' s' q1 q2 q3 q4 q5 q6 => kk x' y' tt kt' H' l' c' s' q1 q2 q3 q4 q5 q6)
  have a := or_step (n := 59) h; clear h; rcases a with rfl | h
  · refine lv_tableIn (off := 2254) (tgt := 2287) F.1 F.2.1 (dd D_law_0 21 rfl) (by decide) (by decide) rfl rfl ?_
    exact case_59 G h1 h2 h3 h4 h5 h6 hP hD hS hR hc hl (fun x' y' H' l' c' s' q1 q2 q3 q4 q5 q6 => kk x' y' tt kt H' l' c' s' q1 q2 q3 q4 q5 q6)
  · refine lv_tableOut (tgt := 2310) F.1 F.2.1 (dd D_law_0 21 rfl) (Or.inr ?_) rfl ?_
    · rw [Int32.toInt_ofNat_of_lt (by omega)]
      omega
    · exact kk x y tt kt H locs cells slots hP hD hS hR (by omega) (by omega)
set_option maxHeartbeats 4000000 in
set_option maxRecDepth 100000 in
theorem law_loop (G : LG p m c s b L xs D cA) (hL : L ≤ 3584) (hend : ∀ (H : Heap) (locs : List Loc) (cells slots : Nat) (ls : Array Slot), (∀ q ∈ locs, s.heap.size ≤ q.base) → cells ≤ 600000 → slots ≤ 7302250 → W p l e room_1 s m #[Value.ref b] below meth c H locs cells slots Q (F0 m 2316 ls [])) : ∀ (f I : Nat) (i : Int32) (x : XS) (y : MS) (tt kt : Option ((Nat → Nat) × MS)) (H : Heap) (locs : List Loc) (cells slots : Nat) (ls : Array Slot), i.toInt = I → I ≤ L + 7 → L < I + f → va_P D vwCl (xW cA ax x ++ (mW cA am y ++ (oW cA tt ++ oW cA kt))) H → va_D (AL s) (xW cA ax x ++ (mW cA am y ++ (oW cA tt ++ oW cA kt))) → va_S (AL s) s.heap H locs → Rel x y (kt.map fun q => q.1 0) (tt.map fun q => q.1 0) (kt.map fun q => q.2) → cells ≤ 100 + 6 * I → slots ≤ 3000 + 115 * I → lv_has ls 4 [(3, .int i), (2, .ref (am 0)), (1, .ref (ax 0)), (0, .ref b)] → W p l e room_1 s m #[Value.ref b] below meth c H locs cells slots Q (F0 m 18 ls []) := by
  have hG := G
  obtain ⟨F, hK, hE, hX, hbl, e9⟩ := G
  have hbA : ¬ AL s b := Nat.not_le.mpr hbl
  intro f
  induction f with
  | zero =>
    intro I i x y tt kt H locs cells slots ls hi hI hf hP hD hS hR hc1 hc2 hl
    refine lv_iload_n F.1 F.2.1 (dd D_law_0 10 rfl) rfl (lv_at hl 0 rfl) ?_
    refine lv_aload_n F.1 F.2.1 (dd D_law_0 11 rfl) rfl (lv_at hl 3 rfl) ?_
    refine va_slen F.1 F.2.1 hX hbl hbA hS (dd D_law_0 12 rfl) ?_
    refine lv_bipush (v := (7 : Int32)) F.1 F.2.1 (dd D_law_0 13 rfl) kb_7 ?_
    refine lv_isub F.1 F.2.1 (dd D_law_0 14 rfl) ?_
    have eL : (Int32.ofNat L - 7).toInt = (L : Int) - 7 := by
      have e1 : (Int32.ofNat L).toInt = L := Int32.toInt_ofNat_of_lt (by omega)
      rw [tS (by rw [e1]; show _ ≤ _ - (7 : Int); omega) (by rw [e1]; show _ - (7 : Int) ≤ _; omega), e1]
      rfl
    refine lv_icmp_gt (tgt := 2316) F.1 F.2.1 (dd D_law_0 15 rfl) rfl (fun _ => ?_) (fun q => absurd (Int32.lt_iff_toInt_lt.mpr (by omega)) q)
    exact hend H locs cells slots ls hS.2.2 (by omega) (by omega)
  | succ f ih =>
    intro I i x y tt kt H locs cells slots ls hi hI hf hP hD hS hR hc1 hc2 hl
    refine lv_iload_n F.1 F.2.1 (dd D_law_0 10 rfl) rfl (lv_at hl 0 rfl) ?_
    refine lv_aload_n F.1 F.2.1 (dd D_law_0 11 rfl) rfl (lv_at hl 3 rfl) ?_
    refine va_slen F.1 F.2.1 hX hbl hbA hS (dd D_law_0 12 rfl) ?_
    refine lv_bipush (v := (7 : Int32)) F.1 F.2.1 (dd D_law_0 13 rfl) kb_7 ?_
    refine lv_isub F.1 F.2.1 (dd D_law_0 14 rfl) ?_
    have eL : (Int32.ofNat L - 7).toInt = (L : Int) - 7 := by
      have e1 : (Int32.ofNat L).toInt = L := Int32.toInt_ofNat_of_lt (by omega)
      rw [tS (by rw [e1]; show _ ≤ _ - (7 : Int); omega) (by rw [e1]; show _ - (7 : Int) ≤ _; omega), e1]
      rfl
    refine lv_icmp_gt (tgt := 2316) F.1 F.2.1 (dd D_law_0 15 rfl) rfl (fun _ => ?_) (fun q => ?_)
    · exact hend H locs cells slots ls hS.2.2 (by omega) (by omega)
    have hlt : (I : Int) + 7 ≤ L := by
      have : ¬ (Int32.ofNat L - 7).toInt < i.toInt := fun z => q (Int32.lt_iff_toInt_lt.mpr z)
      omega
    have hin : ∀ j : Nat, j < 7 → vp_in (i + Int32.ofNat j) L := fun j hj => by
      have ej : (Int32.ofNat j).toInt = j := Int32.toInt_ofNat_of_lt (by omega)
      have e : (i + Int32.ofNat j).toInt = (I : Int) + j := by rw [tA (by rw [hi, ej]; omega) (by rw [hi, ej]; omega), hi, ej]
      rintro (z | z)
      · have := Int32.lt_iff_toInt_lt.mp z
        rw [e] at this
        replace this : (I : Int) + j < 0 := this
        omega
      · rw [nat_toInt, e] at z
        omega
    have h0 : vp_in i L := by
      have := hin 0 (by omega)
      rw [show Int32.ofNat 0 = 0 from rfl, Int32.add_zero] at this
      exact this
    refine lv_aload_n F.1 F.2.1 (dd D_law_0 16 rfl) rfl (lv_at hl 3 rfl) ?_
    refine lv_iload_n F.1 F.2.1 (dd D_law_0 17 rfl) rfl (lv_at hl 0 rfl) ?_
    refine va_sld F.1 F.2.1 hX hbl hbA hS h0 (dd D_law_0 18 rfl) ?_
    refine lv_bipush (v := (63 : Int32)) F.1 F.2.1 (dd D_law_0 19 rfl) kb_63 ?_
    refine lv_iand F.1 F.2.1 (dd D_law_0 20 rfl) ?_
    obtain ⟨k, hk, ek⟩ := and63 (xs i.toNatClampNeg)
    rw [ek]
    refine law_switch hG (hin 1 (by omega)) (hin 2 (by omega)) (hin 3 (by omega)) (hin 4 (by omega)) (hin 5 (by omega)) (hin 6 (by omega)) hP hD hS hR ⟨by omega, by omega⟩ hl (fun x' y' tt' kt' H' locs' cells' slots' q1 q2 q3 q4 q5 q6 => ?_) k hk
    refine lv_iinc (k := 0) (v := i + 7) (lv' := [(3, .int (i + 7)), (2, .ref (am 0)), (1, .ref (ax 0)), (0, .ref b)]) F.1 F.2.1 (dd D_law_41 36 rfl) hl rfl rfl (Nat.le_of_ble_eq_true rfl) rfl (fun ls' hl' => ?_)
    refine lv_goto (tgt := 18) F.1 F.2.1 (dd D_law_41 37 rfl) rfl ?_
    have e7 : (i + 7).toInt = ((I + 7 : Nat) : Int) := by
      rw [tA (by rw [hi]; show _ ≤ _ + (7 : Int); omega) (by rw [hi]; show _ + (7 : Int) ≤ _; omega), hi]
      rfl
    exact ih (I + 7) (i + 7) x' y' tt' kt' H' locs' cells' slots' ls' e7 (by omega) (by omega) q1 q2 q3 q4 (by omega) (by omega) hl'
theorem rel_0 : Rel XSZ MSZ none none none := by
  refine ⟨⟨⟨rfl, rfl, rfl, rfl⟩, ⟨by decide, by decide, by decide, by decide⟩, ⟨⟨by decide, fun i h => ?_⟩, ⟨rfl, rfl, rfl⟩, fun i h => ?_, fun d h => rfl⟩, ⟨rfl, by decide, fun i h => ?_⟩, ⟨rfl, by decide, fun i h => ?_⟩, ⟨rfl, by decide, by decide⟩, rfl, rfl⟩, fun k h => Or.inl ⟨rfl, rfl⟩, ⟨rfl, by decide, fun i h => ?_⟩, fun i h => ?_, ⟨rfl, fun k h => by cases h⟩, rfl, rfl⟩
  · replace h : (i : Int) < 0 := h; omega
  · replace h : (i : Int) < 0 := h; omega
  · replace h : (i : Int) < 0 := h; omega
  · replace h : (i : Int) < 0 := h; omega
  · replace h : (i : Int) < 0 := h; omega
  · rfl
theorem ln_L_8 : LkN RL 7 8 9 [.null, .null, .null, .null, .null, .null, .null, .null, .int 0] := ⟨RX8, TX8, tyX8, rfl, wsin_X8, tyX8_ok, w_79, w_80, w_61, by decide +kernel⟩
theorem ln_L_9 : LkN RL 10 9 29 [.null, .null, .null, .null, .null, .null, .null, .null, .int 0, .null, .null, .int 0, .null, .int 0, .null, .int 0, .null, .int 0, .int 0, .int 0, .null, .null, .int 0, .int 0, .int 0, .int 0, .int 0, .null, .int 0] := ⟨RX9, TX9, tyX9, rfl, wsin_X9, tyX9_ok, w_1123, w_1124, w_70, by decide +kernel⟩
set_option maxHeartbeats 4000000 in
set_option maxRecDepth 100000 in
theorem law_start {ls : Array Slot} (G : LG p m c s b L xs D cA) (hL : L ≤ 3584) (hend : ∀ (H : Heap) (locs : List Loc) (cells slots : Nat) (ls : Array Slot), (∀ q ∈ locs, s.heap.size ≤ q.base) → cells ≤ 600000 → slots ≤ 7302250 → W p l e room_1 s m #[Value.ref b] below meth c H locs cells slots Q (F0 m 2316 ls [])) (hl : lv_has ls 4 [(0, .ref b)]) : W p l e room_1 s m #[Value.ref b] below meth c s.heap [] 0 0 Q (F0 m 0 ls []) := by
  have hG := G
  obtain ⟨F, hK, hE, hX, hbl, e9⟩ := G
  have hA : ∀ q, s.heap.size ≤ q → AL s q := fun _ h => h
  have hAb : ∀ q, AL s q → cA 9 ≤ q := fun q h => by rw [e9]; exact h
  have hS : va_S (AL s) s.heap s.heap [] := va_S.rf
  have hP : va_P D vwCl [] s.heap := fun k q h => by simp at h
  have hD : va_D (AL s) [] := ⟨fun i j p q h => by simp at h, fun k q h => by simp at h⟩
  refine newO F hK hP hD hS hA ln_L_8 (Nat.le_of_ble_eq_true rfl) (Nat.le_of_ble_eq_true rfl) (dd D_law_0 0 rfl) (fun q1 H hP hD hS => ?_)
  refine lv_dup F.1 F.2.1 (dd D_law_0 1 rfl) rfl ?_
  refine rw_last (L := []) hP hD hA hS (rIL (rest := [.ref q1]) F (c_X8_init D cA q1 l H.size) lk_L_9 (Nat.le_of_ble_eq_true rfl) (preRWE hK hE hS hAb hP hD) rfl hl rfl (Nat.le_of_ble_eq_true rfl) (dd D_law_0 2 rfl) ⟨(Nat.le_of_ble_eq_true rfl), (Nat.le_of_ble_eq_true rfl)⟩) ?_
  rintro S2 H locs ⟨ax, rfl, rfl⟩ hP hD hS
  replace hP : va_P D vwCl (xW cA ax XSZ) H := hP
  replace hD : va_D (AL s) (xW cA ax XSZ) := hD
  refine lv_astore_n (lv' := [(1, .ref (ax 0)), (0, .ref b)]) F.1 F.2.1 (dd D_law_0 3 rfl) rfl hl (Nat.le_of_ble_eq_true rfl) rfl (fun ls hl => ?_)
  refine newO F hK hP hD hS hA ln_L_9 (Nat.le_of_ble_eq_true rfl) (Nat.le_of_ble_eq_true rfl) (dd D_law_0 4 rfl) (fun q2 H hP hD hS => ?_)
  refine lv_dup F.1 F.2.1 (dd D_law_0 5 rfl) rfl ?_
  refine rw_last (L := xW cA ax XSZ) hP hD hA hS (rIL (rest := [.ref q2]) F (c_X9_init D cA q2 l H.size) lk_L_12 (Nat.le_of_ble_eq_true rfl) (preRWE hK hE hS hAb (sufP hP) (sufD hD)) rfl hl rfl (Nat.le_of_ble_eq_true rfl) (dd D_law_0 6 rfl) ⟨(Nat.le_of_ble_eq_true rfl), (Nat.le_of_ble_eq_true rfl)⟩) ?_
  rintro S2 H locs ⟨am, rfl, rfl⟩ hP hD hS
  refine lv_astore_n (lv' := [(2, .ref (am 0)), (1, .ref (ax 0)), (0, .ref b)]) F.1 F.2.1 (dd D_law_0 7 rfl) rfl hl (Nat.le_of_ble_eq_true rfl) rfl (fun ls hl => ?_)
  refine lv_iconst (v := 0) F.1 F.2.1 (dd D_law_0 8 rfl) ki_0 ?_
  refine lv_istore_n (lv' := [(3, .int 0), (2, .ref (am 0)), (1, .ref (ax 0)), (0, .ref b)]) F.1 F.2.1 (dd D_law_0 9 rfl) rfl hl (Nat.le_of_ble_eq_true rfl) rfl (fun ls hl => ?_)
  exact law_loop hG hL hend (L + 1) 0 0 XSZ MSZ none none H locs _ _ ls rfl (by omega) (by omega) (by show va_P D vwCl (xW cA ax XSZ ++ (mW cA am MSZ ++ [])) H; rw [List.append_nil]; exact hP) (by show va_D (AL s) (xW cA ax XSZ ++ (mW cA am MSZ ++ [])); rw [List.append_nil]; exact hD) hS rel_0 (Nat.le_of_ble_eq_true rfl) (Nat.le_of_ble_eq_true rfl) hl
end LOOP
