theorem w_632 : (Jvm.Cond.selects "MoonOverTheHill" ({ cls := "MoonOverTheHill", name := "sky", desc := "()I" } : Jvm.MethodName) ({ cls := "MoonOverTheHill", name := "sky", desc := "()I" } : Jvm.MethodName)) ∈ ALL := inT_3 92 rfl rfl
theorem w_631 : (Jvm.Cond.instanceMethod ({ cls := "MoonOverTheHill", name := "sky", desc := "()I" } : Jvm.MethodName)) ∈ ALL := inT_3 91 rfl rfl
theorem w_630 : (Jvm.Cond.methodLink "MoonOverTheHillLaw" (82 : Nat) ({ cls := "MoonOverTheHill", name := "sky", desc := "()I" } : Jvm.MethodName)) ∈ ALL := inT_3 90 rfl rfl
theorem lk_L_82 : LkV RL 82 m_X8_sky 0 := ⟨(List.forall_mem_cons.mpr ⟨w_630, (List.forall_mem_cons.mpr ⟨w_631, (List.forall_mem_cons.mpr ⟨w_632, (List.forall_mem_cons.mpr ⟨w_61, (List.forall_mem_nil _)⟩)⟩)⟩)⟩), gy_X8_sky⟩
theorem w_1371 : (Jvm.Cond.selects "MoonOverTheHillModel" ({ cls := "MoonOverTheHillModel", name := "sky", desc := "()I" } : Jvm.MethodName) ({ cls := "MoonOverTheHillModel", name := "sky", desc := "()I" } : Jvm.MethodName)) ∈ ALL := inT_6 111 rfl rfl
theorem w_1370 : (Jvm.Cond.instanceMethod ({ cls := "MoonOverTheHillModel", name := "sky", desc := "()I" } : Jvm.MethodName)) ∈ ALL := inT_6 110 rfl rfl
theorem w_1369 : (Jvm.Cond.methodLink "MoonOverTheHillLaw" (85 : Nat) ({ cls := "MoonOverTheHillModel", name := "sky", desc := "()I" } : Jvm.MethodName)) ∈ ALL := inT_6 109 rfl rfl
theorem lk_L_85 : LkV RL 85 m_X9_sky 0 := ⟨(List.forall_mem_cons.mpr ⟨w_1369, (List.forall_mem_cons.mpr ⟨w_1370, (List.forall_mem_cons.mpr ⟨w_1371, (List.forall_mem_cons.mpr ⟨w_70, (List.forall_mem_nil _)⟩)⟩)⟩)⟩), gy_X9_sky⟩
theorem w_1105 : (Jvm.Cond.selects "MoonOverTheHill" ({ cls := "MoonOverTheHill", name := "image", desc := "()I" } : Jvm.MethodName) ({ cls := "MoonOverTheHill", name := "image", desc := "()I" } : Jvm.MethodName)) ∈ ALL := inT_5 85 rfl rfl
theorem w_1104 : (Jvm.Cond.instanceMethod ({ cls := "MoonOverTheHill", name := "image", desc := "()I" } : Jvm.MethodName)) ∈ ALL := inT_5 84 rfl rfl
theorem w_1103 : (Jvm.Cond.methodLink "MoonOverTheHillLaw" (252 : Nat) ({ cls := "MoonOverTheHill", name := "image", desc := "()I" } : Jvm.MethodName)) ∈ ALL := inT_5 83 rfl rfl
theorem lk_L_252 : LkV RL 252 m_X8_image 0 := ⟨(List.forall_mem_cons.mpr ⟨w_1103, (List.forall_mem_cons.mpr ⟨w_1104, (List.forall_mem_cons.mpr ⟨w_1105, (List.forall_mem_cons.mpr ⟨w_61, (List.forall_mem_nil _)⟩)⟩)⟩)⟩), gy_X8_image⟩
theorem w_1685 : (Jvm.Cond.selects "MoonOverTheHillModel" ({ cls := "MoonOverTheHillModel", name := "image", desc := "()I" } : Jvm.MethodName) ({ cls := "MoonOverTheHillModel", name := "image", desc := "()I" } : Jvm.MethodName)) ∈ ALL := inT_7 185 rfl rfl
theorem w_1684 : (Jvm.Cond.instanceMethod ({ cls := "MoonOverTheHillModel", name := "image", desc := "()I" } : Jvm.MethodName)) ∈ ALL := inT_7 184 rfl rfl
theorem w_1683 : (Jvm.Cond.methodLink "MoonOverTheHillLaw" (255 : Nat) ({ cls := "MoonOverTheHillModel", name := "image", desc := "()I" } : Jvm.MethodName)) ∈ ALL := inT_7 183 rfl rfl
theorem lk_L_255 : LkV RL 255 m_X9_image 0 := ⟨(List.forall_mem_cons.mpr ⟨w_1683, (List.forall_mem_cons.mpr ⟨w_1684, (List.forall_mem_cons.mpr ⟨w_1685, (List.forall_mem_cons.mpr ⟨w_70, (List.forall_mem_nil _)⟩)⟩)⟩)⟩), gy_X9_image⟩
theorem w_1109 : (Jvm.Cond.selects "MoonOverTheHill" ({ cls := "MoonOverTheHill", name := "back", desc := "()I" } : Jvm.MethodName) ({ cls := "MoonOverTheHill", name := "back", desc := "()I" } : Jvm.MethodName)) ∈ ALL := inT_5 89 rfl rfl
theorem w_1108 : (Jvm.Cond.instanceMethod ({ cls := "MoonOverTheHill", name := "back", desc := "()I" } : Jvm.MethodName)) ∈ ALL := inT_5 88 rfl rfl
theorem w_1107 : (Jvm.Cond.methodLink "MoonOverTheHillLaw" (256 : Nat) ({ cls := "MoonOverTheHill", name := "back", desc := "()I" } : Jvm.MethodName)) ∈ ALL := inT_5 87 rfl rfl
theorem lk_L_256 : LkV RL 256 m_X8_back 0 := ⟨(List.forall_mem_cons.mpr ⟨w_1107, (List.forall_mem_cons.mpr ⟨w_1108, (List.forall_mem_cons.mpr ⟨w_1109, (List.forall_mem_cons.mpr ⟨w_61, (List.forall_mem_nil _)⟩)⟩)⟩)⟩), gy_X8_back⟩
theorem w_1689 : (Jvm.Cond.selects "MoonOverTheHillModel" ({ cls := "MoonOverTheHillModel", name := "back", desc := "()I" } : Jvm.MethodName) ({ cls := "MoonOverTheHillModel", name := "back", desc := "()I" } : Jvm.MethodName)) ∈ ALL := inT_7 189 rfl rfl
theorem w_1688 : (Jvm.Cond.instanceMethod ({ cls := "MoonOverTheHillModel", name := "back", desc := "()I" } : Jvm.MethodName)) ∈ ALL := inT_7 188 rfl rfl
theorem w_1687 : (Jvm.Cond.methodLink "MoonOverTheHillLaw" (259 : Nat) ({ cls := "MoonOverTheHillModel", name := "back", desc := "()I" } : Jvm.MethodName)) ∈ ALL := inT_7 187 rfl rfl
theorem lk_L_259 : LkV RL 259 m_X9_back 0 := ⟨(List.forall_mem_cons.mpr ⟨w_1687, (List.forall_mem_cons.mpr ⟨w_1688, (List.forall_mem_cons.mpr ⟨w_1689, (List.forall_mem_cons.mpr ⟨w_70, (List.forall_mem_nil _)⟩)⟩)⟩)⟩), gy_X9_back⟩
theorem w_79 : (Jvm.Cond.classLink "MoonOverTheHillLaw" (7 : Nat) "MoonOverTheHill") ∈ ALL := inT_1 19 rfl rfl
theorem w_80 : (Jvm.Cond.instantiable "MoonOverTheHill" (9 : Nat)) ∈ ALL := inT_1 20 rfl rfl
theorem w_1123 : (Jvm.Cond.classLink "MoonOverTheHillLaw" (10 : Nat) "MoonOverTheHillModel") ∈ ALL := inT_5 103 rfl rfl
theorem w_82 : (Jvm.Cond.instanceMethod ({ cls := "MoonOverTheHill", name := "<init>", desc := "()V" } : Jvm.MethodName)) ∈ ALL := inT_1 22 rfl rfl
theorem w_81 : (Jvm.Cond.methodLink "MoonOverTheHillLaw" (9 : Nat) ({ cls := "MoonOverTheHill", name := "<init>", desc := "()V" } : Jvm.MethodName)) ∈ ALL := inT_1 21 rfl rfl
theorem lk_L_9 : LkI RL 9 m_X8_init 0 := ⟨(List.forall_mem_cons.mpr ⟨w_81, (List.forall_mem_cons.mpr ⟨w_82, (List.forall_mem_cons.mpr ⟨w_61, (List.forall_mem_nil _)⟩)⟩)⟩), gy_X8_init, rfl, rfl⟩
theorem w_1125 : (Jvm.Cond.methodLink "MoonOverTheHillLaw" (12 : Nat) ({ cls := "MoonOverTheHillModel", name := "<init>", desc := "()V" } : Jvm.MethodName)) ∈ ALL := inT_5 105 rfl rfl
theorem lk_L_12 : LkI RL 12 m_X9_init 0 := ⟨(List.forall_mem_cons.mpr ⟨w_1125, (List.forall_mem_cons.mpr ⟨w_1126, (List.forall_mem_cons.mpr ⟨w_70, (List.forall_mem_nil _)⟩)⟩)⟩), gy_X9_init, rfl, rfl⟩
/-! ===== the law: sky, image, back ===== -/
def oW (cA : Nat → ClassId) : Option ((Nat → Nat) × MS) → va_W
  | none => []
  | some (bm, t) => mW cA bm t
section KEEP
variable {p : Program} {l : Launch} {e : Env} {s : State} {m : MethodId} {below : List Frame} {meth : Method} {c : Code} {H : Heap} {locs : List Loc} {cells slots : Nat} {Q : State → Prop} {ls : Array Slot} {D : va_G} {cA : Nat → ClassId} {b L : Nat} {xs : Nat → Int32} {ax am : Nat → Nat} {x : XS} {y : MS} {KT : va_W} {ka ta : Option Nat} {mk : Option MS} {i : Int32}
theorem P_sw {X Y T K : va_W} (hP : va_P D vwCl (X ++ (Y ++ (T ++ K))) H) : va_P D vwCl (X ++ (Y ++ (K ++ T))) H := va_P_perm hP fun q h => by
  simp only [List.mem_append] at h ⊢
  rcases h with h | h | h | h
  · exact Or.inl h
  · exact Or.inr (Or.inl h)
  · exact Or.inr (Or.inr (Or.inr h))
  · exact Or.inr (Or.inr (Or.inl h))
theorem D_sw {A : Nat → Prop} {X Y T K : va_W} (hD : va_D A (X ++ (Y ++ (T ++ K)))) : va_D A (X ++ (Y ++ (K ++ T))) := by
  obtain ⟨h1, h2⟩ := va_D_iff.mp hD
  refine va_D_iff.mpr ⟨?_, fun q h => h2 q ?_⟩
  · exact (((List.perm_append_comm.append_left Y).append_left X).map _).nodup h1
  · simp only [List.mem_append] at h ⊢
    rcases h with h | h | h | h
    · exact Or.inl h
    · exact Or.inr (Or.inl h)
    · exact Or.inr (Or.inr (Or.inr h))
    · exact Or.inr (Or.inr (Or.inl h))
theorem sky_ex (h : Rel x y ka ta mk) : ∃ r x', F_X8_sky 20000 x = some (r, x') ∧ ∀ (a : Nat) (t : MS), ∃ m' t', F_X9_sky 20000 a y t = some (r, m', t') ∧ Rel x' m' ka (some a) mk := by
  obtain ⟨r, x', m', t', e1, -, -⟩ := ok_sky h (Nat.le_refl 20000) 0 y
  refine ⟨r, x', e1, fun a t => ?_⟩
  obtain ⟨r2, x2, m2, t2, f1, f2, f3⟩ := ok_sky h (Nat.le_refl 20000) a t
  rw [e1] at f1
  obtain ⟨rfl, rfl⟩ := Prod.mk.inj (Option.some.inj f1)
  exact ⟨m2, t2, f2, f3⟩
theorem image_ex (h : Rel x y ka ta mk) : ∃ x', F_X8_image 20000 x = some (1, x') ∧ ∀ (a : Nat) (t : MS), ∃ k', F_X9_image 20000 a y t = some (1, m_set_kept y (some a), k') ∧ Rel x' (m_set_kept y (some a)) (some a) ta (some k') := by
  obtain ⟨x', r, e1, -, -, -, -⟩ := ok_imageK h (Nat.le_refl 20000) y 0
  refine ⟨x', e1, fun a t => ?_⟩
  obtain ⟨x2, r2, f1, f2, f3, f4, f5⟩ := ok_imageK h (Nat.le_refl 20000) t a
  rw [e1] at f1
  obtain ⟨-, rfl⟩ := Prod.mk.inj (Option.some.inj f1)
  obtain ⟨r0, r1, r3⟩ := r2
  subst f3
  subst f4
  exact ⟨r3, f2, f5⟩
set_option maxHeartbeats 4000000 in
set_option maxRecDepth 100000 in
theorem case_15 {tt : Option ((Nat → Nat) × MS)} (G : LG p m c s b L xs D cA) (hP : va_P D vwCl (xW cA ax x ++ (mW cA am y ++ (oW cA tt ++ KT))) H) (hD : va_D (AL s) (xW cA ax x ++ (mW cA am y ++ (oW cA tt ++ KT)))) (hS : va_S (AL s) s.heap H locs) (hR : Rel x y ka (tt.map fun q => q.1 0) mk) (hc : cells + 40 ≤ 600000 ∧ slots + 800 ≤ 7302250) (hl : lv_has ls 4 [(3, .int i), (2, .ref (am 0)), (1, .ref (ax 0)), (0, .ref b)])
    (kk : ∀ (x' : XS) (y' : MS) (tt' : Option ((Nat → Nat) × MS)) (H' : Heap) (locs' : List Loc) (cells' slots' : Nat), va_P D vwCl (xW cA ax x' ++ (mW cA am y' ++ (oW cA tt' ++ KT))) H' → va_D (AL s) (xW cA ax x' ++ (mW cA am y' ++ (oW cA tt' ++ KT))) → va_S (AL s) s.heap H' locs' → Rel x' y' ka (tt'.map fun q => q.1 0) mk → cells' ≤ cells + 40 → slots' ≤ slots + 800 → W p l e room_1 s m #[Value.ref b] below meth c H' locs' cells' slots' Q (F0 m 2310 ls [])) : W p l e room_1 s m #[Value.ref b] below meth c H locs cells slots Q (F0 m 803 ls []) := by
  obtain ⟨F, hK, hE, hX, hbl, e9⟩ := G
  obtain ⟨hc1, hc2⟩ := hc
  have hA : ∀ q, s.heap.size ≤ q → AL s q := fun _ h => h
  have hAb : ∀ q, AL s q → cA 9 ≤ q := fun q h => by rw [e9]; exact h
  obtain ⟨r, x', e1, hk⟩ := sky_ex hR
  refine lv_aload_n F.1 F.2.1 (dd D_law_11 1 rfl) rfl (lv_at hl 2 rfl) ?_
  refine lawW0 (rest := []) F hK hA hAb (c_X8_sky D cA ax x 20000 _ e1) lk_L_82 (Nat.le_of_ble_eq_true rfl) (rcv_8 hK hP (q0 := 0) (gL (xp_0 cA ax x))) rfl hl rfl (Nat.le_of_ble_eq_true rfl) (dd D_law_11 2 rfl) ⟨by omega, by omega⟩ hP hD hS (fun H locs hP hD hS => ?_)
  refine lv_pop F.1 F.2.1 (dd D_law_11 3 rfl) rfl ?_
  refine lv_aload_n F.1 F.2.1 (dd D_law_11 4 rfl) rfl (lv_at hl 1 rfl) ?_
  have hv := rcv_9 hK hP (q0 := 63 + (0)) (gR (xp_len cA ax x') (gL (mp_0 cA am y)))
  cases tt with
  | none =>
    have ey : y = m_set_tried y none := set_tried_eta hR.2.2.2.2.2.2
    have hP1 : va_P D vwCl (xW cA ax x' ++ (mW cA am (m_set_tried y none) ++ KT)) H := by rw [← ey]; exact hP
    have hD1 : va_D (AL s) (xW cA ax x' ++ (mW cA am (m_set_tried y none) ++ KT)) := by rw [← ey]; exact hD
    refine rw_seg (L1 := xW cA ax x') (S := mW cA am (m_set_tried y none)) (L2 := KT) hP1 hD1 hA hS (rVL (rest := []) F (c_X9_sky_n D cA am y 20000 (fun q => by obtain ⟨m', t', e3, hR'⟩ := hk q MSZ; exact ⟨_, e3⟩) l H.size) lk_L_85 (Nat.le_of_ble_eq_true rfl) (preRWE hK hE hS hAb (segP hP1) (segD hD1)) hv rfl hl rfl (Nat.le_of_ble_eq_true rfl) (dd D_law_11 5 rfl) ⟨by omega, by omega⟩) (fun v S1 H locs h0 hP hD hS => ?_)
    obtain ⟨bm, r1, e2, rfl, rfl⟩ := h0
    obtain ⟨m', t', e3, hR'⟩ := hk (bm 0) MSZ
    rw [e3] at e2
    obtain rfl := Option.some.inj e2
    replace hP : va_P D vwCl (xW cA ax x' ++ ((mW cA am m' ++ mW cA bm t') ++ KT)) H := hP
    replace hD : va_D (AL s) (xW cA ax x' ++ ((mW cA am m' ++ mW cA bm t') ++ KT)) := hD
    rw [List.append_assoc (mW cA am m')] at hP hD
    refine lv_pop F.1 F.2.1 (dd D_law_11 6 rfl) rfl ?_
    refine lv_goto (tgt := 2310) F.1 F.2.1 (dd D_law_11 7 rfl) rfl ?_
    exact kk x' m' (some (bm, t')) H locs _ _ hP hD hS hR' (by omega) (by omega)
  | some q =>
    obtain ⟨bm, t⟩ := q
    have ey : y = m_set_tried y (some (bm 0)) := set_tried_eta hR.2.2.2.2.2.2
    obtain ⟨m', t', e3, hR'⟩ := hk (bm 0) t
    have hP1 : va_P D vwCl (xW cA ax x' ++ ((mW cA am (m_set_tried y (some (bm 0))) ++ mW cA bm t) ++ KT)) H := by rw [← ey, List.append_assoc (mW cA am y)]; exact hP
    have hD1 : va_D (AL s) (xW cA ax x' ++ ((mW cA am (m_set_tried y (some (bm 0))) ++ mW cA bm t) ++ KT)) := by rw [← ey, List.append_assoc (mW cA am y)]; exact hD
    refine lawW (L1 := xW cA ax x') (L2 := KT) (rest := []) F hK hA hAb (c_X9_sky_r D cA am bm y t 20000 _ e3) lk_L_85 (Nat.le_of_ble_eq_true rfl) hv rfl hl rfl (Nat.le_of_ble_eq_true rfl) (dd D_law_11 5 rfl) ⟨by omega, by omega⟩ hP1 hD1 hS (fun H locs hP hD hS => ?_)
    replace hP : va_P D vwCl (xW cA ax x' ++ ((mW cA am m' ++ mW cA bm t') ++ KT)) H := hP
    replace hD : va_D (AL s) (xW cA ax x' ++ ((mW cA am m' ++ mW cA bm t') ++ KT)) := hD
    rw [List.append_assoc (mW cA am m')] at hP hD
    refine lv_pop F.1 F.2.1 (dd D_law_11 6 rfl) rfl ?_
    refine lv_goto (tgt := 2310) F.1 F.2.1 (dd D_law_11 7 rfl) rfl ?_
    exact kk x' m' (some (bm, t')) H locs _ _ hP hD hS hR' (by omega) (by omega)
set_option maxHeartbeats 4000000 in
set_option maxRecDepth 100000 in
theorem case_57 {tt : Option ((Nat → Nat) × MS)} (G : LG p m c s b L xs D cA) (hP : va_P D vwCl (xW cA ax x ++ (mW cA am y ++ (KT ++ oW cA tt))) H) (hD : va_D (AL s) (xW cA ax x ++ (mW cA am y ++ (KT ++ oW cA tt)))) (hS : va_S (AL s) s.heap H locs) (hR : Rel x y (tt.map fun q => q.1 0) ta (tt.map fun q => q.2)) (hc : cells + 40 ≤ 600000 ∧ slots + 800 ≤ 7302250) (hl : lv_has ls 4 [(3, .int i), (2, .ref (am 0)), (1, .ref (ax 0)), (0, .ref b)])
    (kk : ∀ (x' : XS) (y' : MS) (tt' : Option ((Nat → Nat) × MS)) (H' : Heap) (locs' : List Loc) (cells' slots' : Nat), va_P D vwCl (xW cA ax x' ++ (mW cA am y' ++ (KT ++ oW cA tt'))) H' → va_D (AL s) (xW cA ax x' ++ (mW cA am y' ++ (KT ++ oW cA tt'))) → va_S (AL s) s.heap H' locs' → Rel x' y' (tt'.map fun q => q.1 0) ta (tt'.map fun q => q.2) → cells' ≤ cells + 40 → slots' ≤ slots + 800 → W p l e room_1 s m #[Value.ref b] below meth c H' locs' cells' slots' Q (F0 m 2310 ls [])) : W p l e room_1 s m #[Value.ref b] below meth c H locs cells slots Q (F0 m 2261 ls []) := by
  obtain ⟨F, hK, hE, hX, hbl, e9⟩ := G
  obtain ⟨hc1, hc2⟩ := hc
  have hA : ∀ q, s.heap.size ≤ q → AL s q := fun _ h => h
  have hAb : ∀ q, AL s q → cA 9 ≤ q := fun q h => by rw [e9]; exact h
  obtain ⟨x', e1, hk⟩ := image_ex hR
  refine lv_aload_n F.1 F.2.1 (dd D_law_41 5 rfl) rfl (lv_at hl 2 rfl) ?_
  refine lawW0 (rest := []) F hK hA hAb (c_X8_image D cA ax x 20000 _ e1) lk_L_252 (Nat.le_of_ble_eq_true rfl) (rcv_8 hK hP (q0 := 0) (gL (xp_0 cA ax x))) rfl hl rfl (Nat.le_of_ble_eq_true rfl) (dd D_law_41 6 rfl) ⟨by omega, by omega⟩ hP hD hS (fun H locs hP hD hS => ?_)
  refine lv_pop F.1 F.2.1 (dd D_law_41 7 rfl) rfl ?_
  refine lv_aload_n F.1 F.2.1 (dd D_law_41 8 rfl) rfl (lv_at hl 1 rfl) ?_
  have hv := rcv_9 hK hP (q0 := 63 + (0)) (gR (xp_len cA ax x') (gL (mp_0 cA am y)))
  replace hP := P_sw hP
  replace hD := D_sw hD
  cases tt with
  | none =>
    have ey : y = m_set_kept y none := set_kept_eta hR.2.2.2.2.2.1
    have hP1 : va_P D vwCl (xW cA ax x' ++ (mW cA am (m_set_kept y none) ++ KT)) H := by rw [← ey]; exact hP
    have hD1 : va_D (AL s) (xW cA ax x' ++ (mW cA am (m_set_kept y none) ++ KT)) := by rw [← ey]; exact hD
    refine rw_seg (L1 := xW cA ax x') (S := mW cA am (m_set_kept y none)) (L2 := KT) hP1 hD1 hA hS (rVL (rest := []) F (c_X9_image_n D cA am y 20000 (fun q => by obtain ⟨t', e3, hR'⟩ := hk q MSZ; exact ⟨_, e3⟩) l H.size) lk_L_255 (Nat.le_of_ble_eq_true rfl) (preRWE hK hE hS hAb (segP hP1) (segD hD1)) hv rfl hl rfl (Nat.le_of_ble_eq_true rfl) (dd D_law_41 9 rfl) ⟨by omega, by omega⟩) (fun v S1 H locs h0 hP hD hS => ?_)
    obtain ⟨bm, r1, e2, rfl, rfl⟩ := h0
    obtain ⟨t', e3, hR'⟩ := hk (bm 0) MSZ
    rw [e3] at e2
    obtain rfl := Option.some.inj e2
    replace hP : va_P D vwCl (xW cA ax x' ++ ((mW cA am (m_set_kept y (some (bm 0))) ++ mW cA bm t') ++ KT)) H := hP
    replace hD : va_D (AL s) (xW cA ax x' ++ ((mW cA am (m_set_kept y (some (bm 0))) ++ mW cA bm t') ++ KT)) := hD
    rw [List.append_assoc (mW cA am (m_set_kept y (some (bm 0))))] at hP hD
    refine lv_pop F.1 F.2.1 (dd D_law_41 10 rfl) rfl ?_
    refine lv_goto (tgt := 2310) F.1 F.2.1 (dd D_law_41 11 rfl) rfl ?_
    exact kk x' (m_set_kept y (some (bm 0))) (some (bm, t')) H locs _ _ (P_sw hP) (D_sw hD) hS hR' (by omega) (by omega)
  | some q =>
    obtain ⟨bm, t⟩ := q
    have ey : y = m_set_kept y (some (bm 0)) := set_kept_eta hR.2.2.2.2.2.1
    obtain ⟨t', e3, hR'⟩ := hk (bm 0) t
    have hP1 : va_P D vwCl (xW cA ax x' ++ ((mW cA am (m_set_kept y (some (bm 0))) ++ mW cA bm t) ++ KT)) H := by rw [← ey, List.append_assoc (mW cA am y)]; exact hP
    have hD1 : va_D (AL s) (xW cA ax x' ++ ((mW cA am (m_set_kept y (some (bm 0))) ++ mW cA bm t) ++ KT)) := by rw [← ey, List.append_assoc (mW cA am y)]; exact hD
    refine lawW (L1 := xW cA ax x') (L2 := KT) (rest := []) F hK hA hAb (c_X9_image_r D cA am bm y t 20000 _ e3) lk_L_255 (Nat.le_of_ble_eq_true rfl) hv rfl hl rfl (Nat.le_of_ble_eq_true rfl) (dd D_law_41 9 rfl) ⟨by omega, by omega⟩ hP1 hD1 hS (fun H locs hP hD hS => ?_)
    replace hP : va_P D vwCl (xW cA ax x' ++ ((mW cA am (m_set_kept y (some (bm 0))) ++ mW cA bm t') ++ KT)) H := hP
    replace hD : va_D (AL s) (xW cA ax x' ++ ((mW cA am (m_set_kept y (some (bm 0))) ++ mW cA bm t') ++ KT)) := hD
    rw [List.append_assoc (mW cA am (m_set_kept y (some (bm 0))))] at hP hD
    refine lv_pop F.1 F.2.1 (dd D_law_41 10 rfl) rfl ?_
    refine lv_goto (tgt := 2310) F.1 F.2.1 (dd D_law_41 11 rfl) rfl ?_
    exact kk x' (m_set_kept y (some (bm 0))) (some (bm, t')) H locs _ _ (P_sw hP) (D_sw hD) hS hR' (by omega) (by omega)
set_option maxHeartbeats 4000000 in
set_option maxRecDepth 100000 in
theorem case_58 {tt : Option ((Nat → Nat) × MS)} (G : LG p m c s b L xs D cA) (hP : va_P D vwCl (xW cA ax x ++ (mW cA am y ++ (KT ++ oW cA tt))) H) (hD : va_D (AL s) (xW cA ax x ++ (mW cA am y ++ (KT ++ oW cA tt)))) (hS : va_S (AL s) s.heap H locs) (hR : Rel x y (tt.map fun q => q.1 0) ta (tt.map fun q => q.2)) (hc : cells + 40 ≤ 600000 ∧ slots + 800 ≤ 7302250) (hl : lv_has ls 4 [(3, .int i), (2, .ref (am 0)), (1, .ref (ax 0)), (0, .ref b)])
    (kk : ∀ (x' : XS) (y' : MS) (tt' : Option ((Nat → Nat) × MS)) (H' : Heap) (locs' : List Loc) (cells' slots' : Nat), va_P D vwCl (xW cA ax x' ++ (mW cA am y' ++ (KT ++ oW cA tt'))) H' → va_D (AL s) (xW cA ax x' ++ (mW cA am y' ++ (KT ++ oW cA tt'))) → va_S (AL s) s.heap H' locs' → Rel x' y' (tt'.map fun q => q.1 0) ta (tt'.map fun q => q.2) → cells' ≤ cells + 40 → slots' ≤ slots + 800 → W p l e room_1 s m #[Value.ref b] below meth c H' locs' cells' slots' Q (F0 m 2310 ls [])) : W p l e room_1 s m #[Value.ref b] below meth c H locs cells slots Q (F0 m 2274 ls []) := by
  obtain ⟨F, hK, hE, hX, hbl, e9⟩ := G
  obtain ⟨hc1, hc2⟩ := hc
  have hA : ∀ q, s.heap.size ≤ q → AL s q := fun _ h => h
  have hAb : ∀ q, AL s q → cA 9 ≤ q := fun q h => by rw [e9]; exact h
  cases tt with
  | none =>
    obtain ⟨r, x', m', e1, e2, hR'⟩ := ok_back_none (n := 20000) hR
    have ey : y = m_set_kept y none := set_kept_eta hR.2.2.2.2.2.1
    have e3 : F_X9_refuse 20000 (m_set_kept y none) (-5) = some (r, m') := by rw [← ey]; exact e2
    refine lv_aload_n F.1 F.2.1 (dd D_law_41 12 rfl) rfl (lv_at hl 2 rfl) ?_
    refine lawW0 (rest := []) F hK hA hAb (c_X8_back D cA ax x 20000 _ e1) lk_L_256 (Nat.le_of_ble_eq_true rfl) (rcv_8 hK hP (q0 := 0) (gL (xp_0 cA ax x))) rfl hl rfl (Nat.le_of_ble_eq_true rfl) (dd D_law_41 13 rfl) ⟨by omega, by omega⟩ hP hD hS (fun H locs hP hD hS => ?_)
    refine lv_pop F.1 F.2.1 (dd D_law_41 14 rfl) rfl ?_
    refine lv_aload_n F.1 F.2.1 (dd D_law_41 15 rfl) rfl (lv_at hl 1 rfl) ?_
    have hv := rcv_9 hK hP (q0 := 63 + (0)) (gR (xp_len cA ax x') (gL (mp_0 cA am y)))
    have hP1 : va_P D vwCl (xW cA ax x' ++ (mW cA am (m_set_kept y none) ++ (KT ++ oW cA none))) H := by rw [← ey]; exact hP
    have hD1 : va_D (AL s) (xW cA ax x' ++ (mW cA am (m_set_kept y none) ++ (KT ++ oW cA none))) := by rw [← ey]; exact hD
    refine lawW (L1 := xW cA ax x') (L2 := KT ++ oW cA none) (rest := []) F hK hA hAb (c_X9_back_n D cA am y 20000 _ e3) lk_L_259 (Nat.le_of_ble_eq_true rfl) hv rfl hl rfl (Nat.le_of_ble_eq_true rfl) (dd D_law_41 16 rfl) ⟨by omega, by omega⟩ hP1 hD1 hS (fun H locs hP hD hS => ?_)
    refine lv_pop F.1 F.2.1 (dd D_law_41 17 rfl) rfl ?_
    refine lv_goto (tgt := 2310) F.1 F.2.1 (dd D_law_41 18 rfl) rfl ?_
    exact kk x' m' none H locs _ _ hP hD hS hR' (by omega) (by omega)
  | some q =>
    obtain ⟨bm, t⟩ := q
    obtain ⟨x', m', e1, e3, hR'⟩ := ok_backK (n := 20000) (a := bm 0) (k := t) hR (Nat.le_refl _)
    have ey : y = m_set_kept y (some (bm 0)) := set_kept_eta hR.2.2.2.2.2.1
    refine lv_aload_n F.1 F.2.1 (dd D_law_41 12 rfl) rfl (lv_at hl 2 rfl) ?_
    refine lawW0 (rest := []) F hK hA hAb (c_X8_back D cA ax x 20000 _ e1) lk_L_256 (Nat.le_of_ble_eq_true rfl) (rcv_8 hK hP (q0 := 0) (gL (xp_0 cA ax x))) rfl hl rfl (Nat.le_of_ble_eq_true rfl) (dd D_law_41 13 rfl) ⟨by omega, by omega⟩ hP hD hS (fun H locs hP hD hS => ?_)
    refine lv_pop F.1 F.2.1 (dd D_law_41 14 rfl) rfl ?_
    refine lv_aload_n F.1 F.2.1 (dd D_law_41 15 rfl) rfl (lv_at hl 1 rfl) ?_
    have hv := rcv_9 hK hP (q0 := 63 + (0)) (gR (xp_len cA ax x') (gL (mp_0 cA am y)))
    replace hP := P_sw hP
    replace hD := D_sw hD
    have hP1 : va_P D vwCl (xW cA ax x' ++ ((mW cA am (m_set_kept y (some (bm 0))) ++ mW cA bm t) ++ KT)) H := by rw [← ey, List.append_assoc (mW cA am y)]; exact hP
    have hD1 : va_D (AL s) (xW cA ax x' ++ ((mW cA am (m_set_kept y (some (bm 0))) ++ mW cA bm t) ++ KT)) := by rw [← ey, List.append_assoc (mW cA am y)]; exact hD
    refine lawW (L1 := xW cA ax x') (L2 := KT) (rest := []) F hK hA hAb (c_X9_back_r D cA am bm y t 20000 _ e3) lk_L_259 (Nat.le_of_ble_eq_true rfl) hv rfl hl rfl (Nat.le_of_ble_eq_true rfl) (dd D_law_41 16 rfl) ⟨by omega, by omega⟩ hP1 hD1 hS (fun H locs hP hD hS => ?_)
    replace hP : va_P D vwCl (xW cA ax x' ++ ((mW cA am m' ++ mW cA bm t) ++ KT)) H := hP
    replace hD : va_D (AL s) (xW cA ax x' ++ ((mW cA am m' ++ mW cA bm t) ++ KT)) := hD
    rw [List.append_assoc (mW cA am m')] at hP hD
    refine lv_pop F.1 F.2.1 (dd D_law_41 17 rfl) rfl ?_
    refine lv_goto (tgt := 2310) F.1 F.2.1 (dd D_law_41 18 rfl) rfl ?_
    exact kk x' m' (some (bm, t)) H locs _ _ (P_sw hP) (D_sw hD) hS hR' (by omega) (by omega)
end KEEP
