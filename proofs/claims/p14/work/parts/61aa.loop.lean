section LOOP
variable {p : Program} {l : Launch} {e : Env} {s : State} {m : MethodId} {below : List Frame} {meth : Method} {c : Code} {Q : State → Prop} {D : va_G} {cA : Nat → ClassId} {b L : Nat} {xs : Nat → Int32} {ax am : Nat → Nat}
theorem and63 (v : Int32) : ∃ k : Nat, k < 64 ∧ v &&& 63 = Int32.ofNat k := by
  have h : (v &&& 63).toBitVec.toNat ≤ 63 := by
    rw [Int32.toBitVec_and, BitVec.toNat_and]
    exact Nat.and_le_right
  refine ⟨(v &&& 63).toBitVec.toNat, by omega, Int32.toBitVec_inj.mp ?_⟩
  rw [Int32.toBitVec_ofNat', BitVec.ofNat_toNat, BitVec.setWidth_eq]
set_option maxHeartbeats 4000000 in
set_option maxRecDepth 100000 in
theorem law_switch {x : XS} {y : MS} {tt kt : Option ((Nat → Nat) × MS)} {H : Heap} {locs : List Loc} {cells slots : Nat} {ls : Array Slot} {i : Int32} (G : LG p m c s b L xs D cA) (h1 : vp_in (i + (1 : Int32)) L) (h2 : vp_in (i + (2 : Int32)) L) (h3 : vp_in (i + (3 : Int32)) L) (h4 : vp_in (i + (4 : Int32)) L) (h5 : vp_in (i + (5 : Int32)) L) (h6 : vp_in (i + (6 : Int32)) L) (hP : va_P D vwCl (xW cA ax x ++ (mW cA am y ++ (oW cA tt ++ oW cA kt))) H) (hD : va_D (AL s) (xW cA ax x ++ (mW cA am y ++ (oW cA tt ++ oW cA kt)))) (hS : va_S (AL s) s.heap H locs) (hR : Rel x y (kt.map fun q => q.1 0) (tt.map fun q => q.1 0) (kt.map fun q => q.2)) (hc : cells + 40 ≤ 600000 ∧ slots + 800 ≤ 7302250) (hl : lv_has ls 4 [(3, .int i), (2, .ref (am 0)), (1, .ref (ax 0)), (0, .ref b)])
    (kk : ∀ (x' : XS) (y' : MS) (tt' kt' : Option ((Nat → Nat) × MS)) (H' : Heap) (locs' : List Loc) (cells' slots' : Nat), va_P D vwCl (xW cA ax x' ++ (mW cA am y' ++ (oW cA tt' ++ oW cA kt'))) H' → va_D (AL s) (xW cA ax x' ++ (mW cA am y' ++ (oW cA tt' ++ oW cA kt'))) → va_S (AL s) s.heap H' locs' → Rel x' y' (kt'.map fun q => q.1 0) (tt'.map fun q => q.1 0) (kt'.map fun q => q.2) → cells' ≤ cells + 40 → slots' ≤ slots + 800 → W p l e room_1 s m #[Value.ref b] below meth c H' locs' cells' slots' Q (F0 m 2310 ls [])) (k : Nat) (hk : k < 64) : W p l e room_1 s m #[Value.ref b] below meth c H locs cells slots Q (F0 m 33 ls [.int (Int32.ofNat k)]) := by
  have F := G.1
  have key : k = 0 ∨ k = 1 ∨ k = 2 ∨ k = 3 ∨ k = 4 ∨ k = 5 ∨ k = 6 ∨ k = 7 ∨ k = 8 ∨ k = 9 ∨ k = 10 ∨ k = 11 ∨ k = 12 ∨ k = 13 ∨ k = 14 ∨ k = 15 ∨ k = 16 ∨ k = 17 ∨ k = 18 ∨ k = 19 ∨ k = 20 ∨ k = 21 ∨ k = 22 ∨ k = 23 ∨ k = 24 ∨ k = 25 ∨ k = 26 ∨ k = 27 ∨ k = 28 ∨ k = 29 ∨ k = 30 ∨ k = 31 ∨ k = 32 ∨ k = 33 ∨ k = 34 ∨ k = 35 ∨ k = 36 ∨ k = 37 ∨ k = 38 ∨ k = 39 ∨ k = 40 ∨ k = 41 ∨ k = 42 ∨ k = 43 ∨ k = 44 ∨ k = 45 ∨ k = 46 ∨ k = 47 ∨ k = 48 ∨ k = 49 ∨ k = 50 ∨ k = 51 ∨ k = 52 ∨ k = 53 ∨ k = 54 ∨ k = 55 ∨ k = 56 ∨ k = 57 ∨ k = 58 ∨ k = 59 ∨ 60 ≤ k := by omega
  rcases key with rfl | rfl | rfl | rfl | rfl | rfl | rfl | rfl | rfl | rfl | rfl | rfl | rfl | rfl | rfl | rfl | rfl | rfl | rfl | rfl | rfl | rfl | rfl | rfl | rfl | rfl | rfl | rfl | rfl | rfl | rfl | rfl | rfl | rfl | rfl | rfl | rfl | rfl | rfl | rfl | rfl | rfl | rfl | rfl | rfl | rfl | rfl | rfl | rfl | rfl | rfl | rfl | rfl | rfl | rfl | rfl | rfl | rfl | rfl | rfl | h
  · refine lv_tableIn (off := 255) (tgt := 288) F.1 F.2.1 (dd D_law_0 21 rfl) (by decide) (by decide) rfl rfl ?_
    exact case_0 G h1 h2 h3 h4 h5 h6 hP hD hS hR hc hl (fun x' y' H' l' c' s' q1 q2 q3 q4 q5 q6 => kk x' y' tt kt H' l' c' s' q1 q2 q3 q4 q5 q6)
  · refine lv_tableIn (off := 298) (tgt := 331) F.1 F.2.1 (dd D_law_0 21 rfl) (by decide) (by decide) rfl rfl ?_
    exact case_1 G h1 h2 h3 h4 h5 h6 hP hD hS hR hc hl (fun x' y' H' l' c' s' q1 q2 q3 q4 q5 q6 => kk x' y' tt kt H' l' c' s' q1 q2 q3 q4 q5 q6)
  · refine lv_tableIn (off := 371) (tgt := 404) F.1 F.2.1 (dd D_law_0 21 rfl) (by decide) (by decide) rfl rfl ?_
    exact case_2 G h1 h2 h3 h4 h5 h6 hP hD hS hR hc hl (fun x' y' H' l' c' s' q1 q2 q3 q4 q5 q6 => kk x' y' tt kt H' l' c' s' q1 q2 q3 q4 q5 q6)
  · refine lv_tableIn (off := 434) (tgt := 467) F.1 F.2.1 (dd D_law_0 21 rfl) (by decide) (by decide) rfl rfl ?_
    exact case_3 G h1 h2 h3 h4 h5 h6 hP hD hS hR hc hl (fun x' y' H' l' c' s' q1 q2 q3 q4 q5 q6 => kk x' y' tt kt H' l' c' s' q1 q2 q3 q4 q5 q6)
  · refine lv_tableIn (off := 467) (tgt := 500) F.1 F.2.1 (dd D_law_0 21 rfl) (by decide) (by decide) rfl rfl ?_
    exact case_4 G h1 h2 h3 h4 h5 h6 hP hD hS hR hc hl (fun x' y' H' l' c' s' q1 q2 q3 q4 q5 q6 => kk x' y' tt kt H' l' c' s' q1 q2 q3 q4 q5 q6)
  · refine lv_tableIn (off := 490) (tgt := 523) F.1 F.2.1 (dd D_law_0 21 rfl) (by decide) (by decide) rfl rfl ?_
    exact case_5 G h1 h2 h3 h4 h5 h6 hP hD hS hR hc hl (fun x' y' H' l' c' s' q1 q2 q3 q4 q5 q6 => kk x' y' tt kt H' l' c' s' q1 q2 q3 q4 q5 q6)
  · refine lv_tableIn (off := 533) (tgt := 566) F.1 F.2.1 (dd D_law_0 21 rfl) (by decide) (by decide) rfl rfl ?_
    exact case_6 G h1 h2 h3 h4 h5 h6 hP hD hS hR hc hl (fun x' y' H' l' c' s' q1 q2 q3 q4 q5 q6 => kk x' y' tt kt H' l' c' s' q1 q2 q3 q4 q5 q6)
  · refine lv_tableIn (off := 566) (tgt := 599) F.1 F.2.1 (dd D_law_0 21 rfl) (by decide) (by decide) rfl rfl ?_
    exact case_7 G h1 h2 h3 h4 h5 h6 hP hD hS hR hc hl (fun x' y' H' l' c' s' q1 q2 q3 q4 q5 q6 => kk x' y' tt kt H' l' c' s' q1 q2 q3 q4 q5 q6)
  · refine lv_tableIn (off := 589) (tgt := 622) F.1 F.2.1 (dd D_law_0 21 rfl) (by decide) (by decide) rfl rfl ?_
    exact case_8 G h1 h2 h3 h4 h5 h6 hP hD hS hR hc hl (fun x' y' H' l' c' s' q1 q2 q3 q4 q5 q6 => kk x' y' tt kt H' l' c' s' q1 q2 q3 q4 q5 q6)
  · refine lv_tableIn (off := 622) (tgt := 655) F.1 F.2.1 (dd D_law_0 21 rfl) (by decide) (by decide) rfl rfl ?_
    exact case_9 G h1 h2 h3 h4 h5 h6 hP hD hS hR hc hl (fun x' y' H' l' c' s' q1 q2 q3 q4 q5 q6 => kk x' y' tt kt H' l' c' s' q1 q2 q3 q4 q5 q6)
  · refine lv_tableIn (off := 665) (tgt := 698) F.1 F.2.1 (dd D_law_0 21 rfl) (by decide) (by decide) rfl rfl ?_
    exact case_10 G h1 h2 h3 h4 h5 h6 hP hD hS hR hc hl (fun x' y' H' l' c' s' q1 q2 q3 q4 q5 q6 => kk x' y' tt kt H' l' c' s' q1 q2 q3 q4 q5 q6)
  · refine lv_tableIn (off := 688) (tgt := 721) F.1 F.2.1 (dd D_law_0 21 rfl) (by decide) (by decide) rfl rfl ?_
    exact case_11 G h1 h2 h3 h4 h5 h6 hP hD hS hR hc hl (fun x' y' H' l' c' s' q1 q2 q3 q4 q5 q6 => kk x' y' tt kt H' l' c' s' q1 q2 q3 q4 q5 q6)
  · refine lv_tableIn (off := 711) (tgt := 744) F.1 F.2.1 (dd D_law_0 21 rfl) (by decide) (by decide) rfl rfl ?_
    exact case_12 G h1 h2 h3 h4 h5 h6 hP hD hS hR hc hl (fun x' y' H' l' c' s' q1 q2 q3 q4 q5 q6 => kk x' y' tt kt H' l' c' s' q1 q2 q3 q4 q5 q6)
  · refine lv_tableIn (off := 734) (tgt := 767) F.1 F.2.1 (dd D_law_0 21 rfl) (by decide) (by decide) rfl rfl ?_
    exact case_13 G h1 h2 h3 h4 h5 h6 hP hD hS hR hc hl (fun x' y' H' l' c' s' q1 q2 q3 q4 q5 q6 => kk x' y' tt kt H' l' c' s' q1 q2 q3 q4 q5 q6)
  · refine lv_tableIn (off := 757) (tgt := 790) F.1 F.2.1 (dd D_law_0 21 rfl) (by decide) (by decide) rfl rfl ?_
    exact case_14 G h1 h2 h3 h4 h5 h6 hP hD hS hR hc hl (fun x' y' H' l' c' s' q1 q2 q3 q4 q5 q6 => kk x' y' tt kt H' l' c' s' q1 q2 q3 q4 q5 q6)
  · refine lv_tableIn (off := 770) (tgt := 803) F.1 F.2.1 (dd D_law_0 21 rfl) (by decide) (by decide) rfl rfl ?_
    exact case_15 G hP hD hS hR hc hl (fun x' y' tt' H' l' c' s' q1 q2 q3 q4 q5 q6 => kk x' y' tt' kt H' l' c' s' q1 q2 q3 q4 q5 q6)
  · refine lv_tableIn (off := 783) (tgt := 816) F.1 F.2.1 (dd D_law_0 21 rfl) (by decide) (by decide) rfl rfl ?_
    exact case_16 G h1 h2 h3 h4 h5 h6 hP hD hS hR hc hl (fun x' y' H' l' c' s' q1 q2 q3 q4 q5 q6 => kk x' y' tt kt H' l' c' s' q1 q2 q3 q4 q5 q6)
  · refine lv_tableIn (off := 816) (tgt := 849) F.1 F.2.1 (dd D_law_0 21 rfl) (by decide) (by decide) rfl rfl ?_
    exact case_17 G h1 h2 h3 h4 h5 h6 hP hD hS hR hc hl (fun x' y' H' l' c' s' q1 q2 q3 q4 q5 q6 => kk x' y' tt kt H' l' c' s' q1 q2 q3 q4 q5 q6)
  · refine lv_tableIn (off := 839) (tgt := 872) F.1 F.2.1 (dd D_law_0 21 rfl) (by decide) (by decide) rfl rfl ?_
    exact case_18 G h1 h2 h3 h4 h5 h6 hP hD hS hR hc hl (fun x' y' H' l' c' s' q1 q2 q3 q4 q5 q6 => kk x' y' tt kt H' l' c' s' q1 q2 q3 q4 q5 q6)
  · refine lv_tableIn (off := 862) (tgt := 895) F.1 F.2.1 (dd D_law_0 21 rfl) (by decide) (by decide) rfl rfl ?_
    exact case_19 G h1 h2 h3 h4 h5 h6 hP hD hS hR hc hl (fun x' y' H' l' c' s' q1 q2 q3 q4 q5 q6 => kk x' y' tt kt H' l' c' s' q1 q2 q3 q4 q5 q6)
  · refine lv_tableIn (off := 895) (tgt := 928) F.1 F.2.1 (dd D_law_0 21 rfl) (by decide) (by decide) rfl rfl ?_
    exact case_20 G h1 h2 h3 h4 h5 h6 hP hD hS hR hc hl (fun x' y' H' l' c' s' q1 q2 q3 q4 q5 q6 => kk x' y' tt kt H' l' c' s' q1 q2 q3 q4 q5 q6)
  · refine lv_tableIn (off := 918) (tgt := 951) F.1 F.2.1 (dd D_law_0 21 rfl) (by decide) (by decide) rfl rfl ?_
    exact case_21 G h1 h2 h3 h4 h5 h6 hP hD hS hR hc hl (fun x' y' H' l' c' s' q1 q2 q3 q4 q5 q6 => kk x' y' tt kt H' l' c' s' q1 q2 q3 q4 q5 q6)
  · refine lv_tableIn (off := 941) (tgt := 974) F.1 F.2.1 (dd D_law_0 21 rfl) (by decide) (by decide) rfl rfl ?_
    exact case_22 G h1 h2 h3 h4 h5 h6 hP hD hS hR hc hl (fun x' y' H' l' c' s' q1 q2 q3 q4 q5 q6 => kk x' y' tt kt H' l' c' s' q1 q2 q3 q4 q5 q6)
  · refine lv_tableIn (off := 974) (tgt := 1007) F.1 F.2.1 (dd D_law_0 21 rfl) (by decide) (by decide) rfl rfl ?_
    exact case_23 G h1 h2 h3 h4 h5 h6 hP hD hS hR hc hl (fun x' y' H' l' c' s' q1 q2 q3 q4 q5 q6 => kk x' y' tt kt H' l' c' s' q1 q2 q3 q4 q5 q6)
  · refine lv_tableIn (off := 1017) (tgt := 1050) F.1 F.2.1 (dd D_law_0 21 rfl) (by decide) (by decide) rfl rfl ?_
    exact case_24 G h1 h2 h3 h4 h5 h6 hP hD hS hR hc hl (fun x' y' H' l' c' s' q1 q2 q3 q4 q5 q6 => kk x' y' tt kt H' l' c' s' q1 q2 q3 q4 q5 q6)
  · refine lv_tableIn (off := 1060) (tgt := 1093) F.1 F.2.1 (dd D_law_0 21 rfl) (by decide) (by decide) rfl rfl ?_
    exact case_25 G h1 h2 h3 h4 h5 h6 hP hD hS hR hc hl (fun x' y' H' l' c' s' q1 q2 q3 q4 q5 q6 => kk x' y' tt kt H' l' c' s' q1 q2 q3 q4 q5 q6)
  · refine lv_tableIn (off := 1093) (tgt := 1126) F.1 F.2.1 (dd D_law_0 21 rfl) (by decide) (by decide) rfl rfl ?_
    exact case_26 G h1 h2 h3 h4 h5 h6 hP hD hS hR hc hl (fun x' y' H' l' c' s' q1 q2 q3 q4 q5 q6 => kk x' y' tt kt H' l' c' s' q1 q2 q3 q4 q5 q6)
  · refine lv_tableIn (off := 1136) (tgt := 1169) F.1 F.2.1 (dd D_law_0 21 rfl) (by decide) (by decide) rfl rfl ?_
    exact case_27 G h1 h2 h3 h4 h5 h6 hP hD hS hR hc hl (fun x' y' H' l' c' s' q1 q2 q3 q4 q5 q6 => kk x' y' tt kt H' l' c' s' q1 q2 q3 q4 q5 q6)
  · refine lv_tableIn (off := 1199) (tgt := 1232) F.1 F.2.1 (dd D_law_0 21 rfl) (by decide) (by decide) rfl rfl ?_
    exact case_28 G h1 h2 h3 h4 h5 h6 hP hD hS hR hc hl (fun x' y' H' l' c' s' q1 q2 q3 q4 q5 q6 => kk x' y' tt kt H' l' c' s' q1 q2 q3 q4 q5 q6)
  · refine lv_tableIn (off := 1222) (tgt := 1255) F.1 F.2.1 (dd D_law_0 21 rfl) (by decide) (by decide) rfl rfl ?_
    exact case_29 G h1 h2 h3 h4 h5 h6 hP hD hS hR hc hl (fun x' y' H' l' c' s' q1 q2 q3 q4 q5 q6 => kk x' y' tt kt H' l' c' s' q1 q2 q3 q4 q5 q6)
  · refine lv_tableIn (off := 1255) (tgt := 1288) F.1 F.2.1 (dd D_law_0 21 rfl) (by decide) (by decide) rfl rfl ?_
    exact case_30 G h1 h2 h3 h4 h5 h6 hP hD hS hR hc hl (fun x' y' H' l' c' s' q1 q2 q3 q4 q5 q6 => kk x' y' tt kt H' l' c' s' q1 q2 q3 q4 q5 q6)
  · refine lv_tableIn (off := 1278) (tgt := 1311) F.1 F.2.1 (dd D_law_0 21 rfl) (by decide) (by decide) rfl rfl ?_
    exact case_31 G h1 h2 h3 h4 h5 h6 hP hD hS hR hc hl (fun x' y' H' l' c' s' q1 q2 q3 q4 q5 q6 => kk x' y' tt kt H' l' c' s' q1 q2 q3 q4 q5 q6)
  · refine lv_tableIn (off := 1331) (tgt := 1364) F.1 F.2.1 (dd D_law_0 21 rfl) (by decide) (by decide) rfl rfl ?_
    exact case_32 G h1 h2 h3 h4 h5 h6 hP hD hS hR hc hl (fun x' y' H' l' c' s' q1 q2 q3 q4 q5 q6 => kk x' y' tt kt H' l' c' s' q1 q2 q3 q4 q5 q6)
  · refine lv_tableIn (off := 1364) (tgt := 1397) F.1 F.2.1 (dd D_law_0 21 rfl) (by decide) (by decide) rfl rfl ?_
    exact case_33 G h1 h2 h3 h4 h5 h6 hP hD hS hR hc hl (fun x' y' H' l' c' s' q1 q2 q3 q4 q5 q6 => kk x' y' tt kt H' l' c' s' q1 q2 q3 q4 q5 q6)
  · refine lv_tableIn (off := 1397) (tgt := 1430) F.1 F.2.1 (dd D_law_0 21 rfl) (by decide) (by decide) rfl rfl ?_
    exact case_34 G h1 h2 h3 h4 h5 h6 hP hD hS hR hc hl (fun x' y' H' l' c' s' q1 q2 q3 q4 q5 q6 => kk x' y' tt kt H' l' c' s' q1 q2 q3 q4 q5 q6)
  · refine lv_tableIn (off := 1472) (tgt := 1505) F.1 F.2.1 (dd D_law_0 21 rfl) (by decide) (by decide) rfl rfl ?_
    exact case_35 G h1 h2 h3 h4 h5 h6 hP hD hS hR hc hl (fun x' y' H' l' c' s' q1 q2 q3 q4 q5 q6 => kk x' y' tt kt H' l' c' s' q1 q2 q3 q4 q5 q6)
  · refine lv_tableIn (off := 1525) (tgt := 1558) F.1 F.2.1 (dd D_law_0 21 rfl) (by decide) (by decide) rfl rfl ?_
    exact case_36 G h1 h2 h3 h4 h5 h6 hP hD hS hR hc hl (fun x' y' H' l' c' s' q1 q2 q3 q4 q5 q6 => kk x' y' tt kt H' l' c' s' q1 q2 q3 q4 q5 q6)
  · refine lv_tableIn (off := 1568) (tgt := 1601) F.1 F.2.1 (dd D_law_0 21 rfl) (by decide) (by decide) rfl rfl ?_
    exact case_37 G h1 h2 h3 h4 h5 h6 hP hD hS hR hc hl (fun x' y' H' l' c' s' q1 q2 q3 q4 q5 q6 => kk x' y' tt kt H' l' c' s' q1 q2 q3 q4 q5 q6)
  · refine lv_tableIn (off := 1591) (tgt := 1624) F.1 F.2.1 (dd D_law_0 21 rfl) (by decide) (by decide) rfl rfl ?_
    exact case_38 G h1 h2 h3 h4 h5 h6 hP hD hS hR hc hl (fun x' y' H' l' c' s' q1 q2 q3 q4 q5 q6 => kk x' y' tt kt H' l' c' s' q1 q2 q3 q4 q5 q6)
  · refine lv_tableIn (off := 1614) (tgt := 1647) F.1 F.2.1 (dd D_law_0 21 rfl) (by decide) (by decide) rfl rfl ?_
    exact case_39 G h1 h2 h3 h4 h5 h6 hP hD hS hR hc hl (fun x' y' H' l' c' s' q1 q2 q3 q4 q5 q6 => kk x' y' tt kt H' l' c' s' q1 q2 q3 q4 q5 q6)
  · refine lv_tableIn (off := 1637) (tgt := 1670) F.1 F.2.1 (dd D_law_0 21 rfl) (by decide) (by decide) rfl rfl ?_
    exact case_40 G h1 h2 h3 h4 h5 h6 hP hD hS hR hc hl (fun x' y' H' l' c' s' q1 q2 q3 q4 q5 q6 => kk x' y' tt kt H' l' c' s' q1 q2 q3 q4 q5 q6)
  · refine lv_tableIn (off := 1680) (tgt := 1713) F.1 F.2.1 (dd D_law_0 21 rfl) (by decide) (by decide) rfl rfl ?_
    exact case_41 G h1 h2 h3 h4 h5 h6 hP hD hS hR hc hl (fun x' y' H' l' c' s' q1 q2 q3 q4 q5 q6 => kk x' y' tt kt H' l' c' s' q1 q2 q3 q4 q5 q6)
  · refine lv_tableIn (off := 1723) (tgt := 1756) F.1 F.2.1 (dd D_law_0 21 rfl) (by decide) (by decide) rfl rfl ?_
    exact case_42 G h1 h2 h3 h4 h5 h6 hP hD hS hR hc hl (fun x' y' H' l' c' s' q1 q2 q3 q4 q5 q6 => kk x' y' tt kt H' l' c' s' q1 q2 q3 q4 q5 q6)
  · refine lv_tableIn (off := 1756) (tgt := 1789) F.1 F.2.1 (dd D_law_0 21 rfl) (by decide) (by decide) rfl rfl ?_
    exact case_43 G h1 h2 h3 h4 h5 h6 hP hD hS hR hc hl (fun x' y' H' l' c' s' q1 q2 q3 q4 q5 q6 => kk x' y' tt kt H' l' c' s' q1 q2 q3 q4 q5 q6)
  · refine lv_tableIn (off := 1789) (tgt := 1822) F.1 F.2.1 (dd D_law_0 21 rfl) (by decide) (by decide) rfl rfl ?_
    exact case_44 G h1 h2 h3 h4 h5 h6 hP hD hS hR hc hl (fun x' y' H' l' c' s' q1 q2 q3 q4 q5 q6 => kk x' y' tt kt H' l' c' s' q1 q2 q3 q4 q5 q6)
  · refine lv_tableIn (off := 1822) (tgt := 1855) F.1 F.2.1 (dd D_law_0 21 rfl) (by decide) (by decide) rfl rfl ?_
    exact case_45 G h1 h2 h3 h4 h5 h6 hP hD hS hR hc hl (fun x' y' H' l' c' s' q1 q2 q3 q4 q5 q6 => kk x' y' tt kt H' l' c' s' q1 q2 q3 q4 q5 q6)
  · refine lv_tableIn (off := 1855) (tgt := 1888) F.1 F.2.1 (dd D_law_0 21 rfl) (by decide) (by decide) rfl rfl ?_
    exact case_46 G h1 h2 h3 h4 h5 h6 hP hD hS hR hc hl (fun x' y' H' l' c' s' q1 q2 q3 q4 q5 q6 => kk x' y' tt kt H' l' c' s' q1 q2 q3 q4 q5 q6)
  · refine lv_tableIn (off := 1878) (tgt := 1911) F.1 F.2.1 (dd D_law_0 21 rfl) (by decide) (by decide) rfl rfl ?_
    exact case_47 G h1 h2 h3 h4 h5 h6 hP hD hS hR hc hl (fun x' y' H' l' c' s' q1 q2 q3 q4 q5 q6 => kk x' y' tt kt H' l' c' s' q1 q2 q3 q4 q5 q6)
  · refine lv_tableIn (off := 1921) (tgt := 1954) F.1 F.2.1 (dd D_law_0 21 rfl) (by decide) (by decide) rfl rfl ?_
    exact case_48 G h1 h2 h3 h4 h5 h6 hP hD hS hR hc hl (fun x' y' H' l' c' s' q1 q2 q3 q4 q5 q6 => kk x' y' tt kt H' l' c' s' q1 q2 q3 q4 q5 q6)
  · refine lv_tableIn (off := 1964) (tgt := 1997) F.1 F.2.1 (dd D_law_0 21 rfl) (by decide) (by decide) rfl rfl ?_
    exact case_49 G h1 h2 h3 h4 h5 h6 hP hD hS hR hc hl (fun x' y' H' l' c' s' q1 q2 q3 q4 q5 q6 => kk x' y' tt kt H' l' c' s' q1 q2 q3 q4 q5 q6)
  · refine lv_tableIn (off := 2007) (tgt := 2040) F.1 F.2.1 (dd D_law_0 21 rfl) (by decide) (by decide) rfl rfl ?_
    exact case_50 G h1 h2 h3 h4 h5 h6 hP hD hS hR hc hl (fun x' y' H' l' c' s' q1 q2 q3 q4 q5 q6 => kk x' y' tt kt H' l' c' s' q1 q2 q3 q4 q5 q6)
  · refine lv_tableIn (off := 2050) (tgt := 2083) F.1 F.2.1 (dd D_law_0 21 rfl) (by decide) (by decide) rfl rfl ?_
    exact case_51 G h1 h2 h3 h4 h5 h6 hP hD hS hR hc hl (fun x' y' H' l' c' s' q1 q2 q3 q4 q5 q6 => kk x' y' tt kt H' l' c' s' q1 q2 q3 q4 q5 q6)
  · refine lv_tableIn (off := 2093) (tgt := 2126) F.1 F.2.1 (dd D_law_0 21 rfl) (by decide) (by decide) rfl rfl ?_
    exact case_52 G h1 h2 h3 h4 h5 h6 hP hD hS hR hc hl (fun x' y' H' l' c' s' q1 q2 q3 q4 q5 q6 => kk x' y' tt kt H' l' c' s' q1 q2 q3 q4 q5 q6)
  · refine lv_tableIn (off := 2136) (tgt := 2169) F.1 F.2.1 (dd D_law_0 21 rfl) (by decide) (by decide) rfl rfl ?_
    exact case_53 G h1 h2 h3 h4 h5 h6 hP hD hS hR hc hl (fun x' y' H' l' c' s' q1 q2 q3 q4 q5 q6 => kk x' y' tt kt H' l' c' s' q1 q2 q3 q4 q5 q6)
  · refine lv_tableIn (off := 2169) (tgt := 2202) F.1 F.2.1 (dd D_law_0 21 rfl) (by decide) (by decide) rfl rfl ?_
    exact case_54 G h1 h2 h3 h4 h5 h6 hP hD hS hR hc hl (fun x' y' H' l' c' s' q1 q2 q3 q4 q5 q6 => kk x' y' tt kt H' l' c' s' q1 q2 q3 q4 q5 q6)
  · refine lv_tableIn (off := 2182) (tgt := 2215) F.1 F.2.1 (dd D_law_0 21 rfl) (by decide) (by decide) rfl rfl ?_
    exact case_55 G h1 h2 h3 h4 h5 h6 hP hD hS hR hc hl (fun x' y' H' l' c' s' q1 q2 q3 q4 q5 q6 => kk x' y' tt kt H' l' c' s' q1 q2 q3 q4 q5 q6)
  · refine lv_tableIn (off := 2205) (tgt := 2238) F.1 F.2.1 (dd D_law_0 21 rfl) (by decide) (by decide) rfl rfl ?_
    exact case_56 G h1 h2 h3 h4 h5 h6 hP hD hS hR hc hl (fun x' y' H' l' c' s' q1 q2 q3 q4 q5 q6 => kk x' y' tt kt H' l' c' s' q1 q2 q3 q4 q5 q6)
  · refine lv_tableIn (off := 2228) (tgt := 2261) F.1 F.2.1 (dd D_law_0 21 rfl) (by decide) (by decide) rfl rfl ?_
    exact case_57 G hP hD hS hR hc hl (fun x' y' kt' H' l' c' s' q1 q2 q3 q4 q5 q6 => kk x' y' tt kt' H' l' c' s' q1 q2 q3 q4 q5 q6)
  · refine lv_tableIn (off := 2241) (tgt := 2274) F.1 F.2.1 (dd D_law_0 21 rfl) (by decide) (by decide) rfl rfl ?_
    exact case_58 G hP hD hS hR hc hl (fun x' y' kt' H' l' c' s' q1 q2 q3 q4 q5 q6 => kk x' y' tt kt' H' l' c' s' q1 q2 q3 q4 q5 q6)
  · refine lv_tableIn (off := 2254) (tgt := 2287) F.1 F.2.1 (dd D_law_0 21 rfl) (by decide) (by decide) rfl rfl ?_
    exact case_59 G h1 h2 h3 h4 h5 h6 hP hD hS hR hc hl (fun x' y' H' l' c' s' q1 q2 q3 q4 q5 q6 => kk x' y' tt kt H' l' c' s' q1 q2 q3 q4 q5 q6)
  · refine lv_tableOut (tgt := 2310) F.1 F.2.1 (dd D_law_0 21 rfl) (Or.inr ?_) rfl ?_
    · rw [Int32.toInt_ofNat_of_lt (by omega)]
      omega
    · exact kk x y tt kt H locs cells slots hP hD hS hR (by omega) (by omega)
end LOOP
