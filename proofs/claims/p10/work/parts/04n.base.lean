section XN
variable {p : Program} {l : Launch} {e : Env} {R : Room} {s : State} {m : MethodId} {args : Array Value} {below : List Frame} {meth : Method} {c : Code} {H : Heap} {locs : List Loc} {cells slots : Nat} {Q : State → Prop}
variable {cc : ByteArray} {pc nL : Nat} {ls : Array Slot} {rest : List Value} {own : String} {α : Type} {D : va_G} {cA : Nat → ClassId} {A : Nat → Prop} {ws : va_W} {a idx : Nat} {H0 : Heap} {lv : List (Nat × Value)}
theorem acopyI {a0 n0 n1 : Nat} {f g : Nat → Int32} {sp dp n : Int32} {r : α} {K : Option α} (F : CallFix p m c cc nL s args ALL own) (hK : KK D cA s) (hP : va_P D vwCl ws H) (hD : va_D A ws) (hS : va_S A H0 H locs) (G : LkA own idx) (hls : lv_has ls nL lv) (q0 q1 : Nat) (ha0 : ws[q0]? = some (a0, .inl (cA 0, n0, .inl f))) (ha1 : ws[q1]? = some (a, .inl (cA 0, n1, .inl g))) (h : gd (acok sp dp n n0 n1) K = some r) {ws' : va_W} (hw : ws.set q1 (a, .inl (cA 0, n1, .inl (va_cpy f g sp.toNatClampNeg dp.toNatClampNeg n.toNatClampNeg))) = ws')
    (hframes : 1 ≤ R.frames) (hlocals : (rest.map fun v => v.category).sum + (nativeFrameWords "java/lang/System" "arraycopy" 5 + 11) ≤ R.locals) (hdg : decode cc pc = .ok (.invokestatic idx, 3))
    (kk : K = some r → ∀ (H1 : Heap) (locs1 : List Loc), va_P D vwCl ws' H1 → va_D A ws' → va_S A H0 H1 locs1 → W p l e R s m args below meth c H1 locs1 cells slots Q (F0 m (pc + 3) ls rest)) : W p l e R s m args below meth c H locs cells slots Q (F0 m pc ls (.int n :: .int dp :: .ref a :: .int sp :: .ref a0 :: rest)) := by
  obtain ⟨hg, h⟩ := gd_some h
  obtain ⟨h1, h2, h3, h4, h5⟩ := acok_of hg
  subst hw
  exact va_copyi F.1 F.2.1 (F.2.2.1.trans hls.1.symm) F.2.2.2.1 (F.2.2.2.2 _ G.1) (F.2.2.2.2 _ G.2.1) (F.2.2.2.2 _ G.2.2.1) (F.2.2.2.2 _ G.2.2.2) hK.1 hP hD hS q0 q1 0 0 (ty := .int) ha0 ha1 rfl rfl rfl h1 h2 h3 h4 h5 (fun _ _ => rfl) hframes hlocals hdg (kk h)
theorem acopyL {a0 n0 n1 : Nat} {f g : Nat → Int64} {sp dp n : Int32} {r : α} {K : Option α} (F : CallFix p m c cc nL s args ALL own) (hK : KK D cA s) (hP : va_P D vwCl ws H) (hD : va_D A ws) (hS : va_S A H0 H locs) (G : LkA own idx) (hls : lv_has ls nL lv) (q0 q1 : Nat) (ha0 : ws[q0]? = some (a0, .inl (cA 1, n0, .inr (.inl f)))) (ha1 : ws[q1]? = some (a, .inl (cA 1, n1, .inr (.inl g)))) (h : gd (acok sp dp n n0 n1) K = some r) {ws' : va_W} (hw : ws.set q1 (a, .inl (cA 1, n1, .inr (.inl (va_cpy f g sp.toNatClampNeg dp.toNatClampNeg n.toNatClampNeg)))) = ws')
    (hframes : 1 ≤ R.frames) (hlocals : (rest.map fun v => v.category).sum + (nativeFrameWords "java/lang/System" "arraycopy" 5 + 11) ≤ R.locals) (hdg : decode cc pc = .ok (.invokestatic idx, 3))
    (kk : K = some r → ∀ (H1 : Heap) (locs1 : List Loc), va_P D vwCl ws' H1 → va_D A ws' → va_S A H0 H1 locs1 → W p l e R s m args below meth c H1 locs1 cells slots Q (F0 m (pc + 3) ls rest)) : W p l e R s m args below meth c H locs cells slots Q (F0 m pc ls (.int n :: .int dp :: .ref a :: .int sp :: .ref a0 :: rest)) := by
  obtain ⟨hg, h⟩ := gd_some h
  obtain ⟨h1, h2, h3, h4, h5⟩ := acok_of hg
  subst hw
  exact va_copyl F.1 F.2.1 (F.2.2.1.trans hls.1.symm) F.2.2.2.1 (F.2.2.2.2 _ G.1) (F.2.2.2.2 _ G.2.1) (F.2.2.2.2 _ G.2.2.1) (F.2.2.2.2 _ G.2.2.2) hK.1 hP hD hS q0 q1 1 1 (ty := .long) ha0 ha1 rfl rfl rfl h1 h2 h3 h4 h5 (fun _ _ => rfl) hframes hlocals hdg (kk h)
theorem newO {ci n : Nat} {fs : List Value} (F : CallFix p m c cc nL s args ALL own) (hK : KK D cA s) (hP : va_P D vwCl ws H) (hD : va_D A ws) (hS : va_S A H0 H locs) (hA : ∀ q, H0.size ≤ q → A q) (G : LkN own idx ci n fs) (hcells : cells + 1 ≤ R.cells) (hslots : slots + n ≤ R.slots) (hdg : decode cc pc = .ok (.new idx, 3))
    (kk : ∀ (q : Nat) (H1 : Heap), va_P D vwCl (ws ++ [(q, .inr (ci, fs))]) H1 → va_D A (ws ++ [(q, .inr (ci, fs))]) → va_S A H0 H1 locs → W p l e R s m args below meth c H1 locs (cells + 1) (slots + n) Q (F0 m (pc + 3) ls (.ref q :: rest))) : W p l e R s m args below meth c H locs cells slots Q (F0 m pc ls rest) := by
  obtain ⟨C, T, t0, h1, h2, h3, h4, h5, h6, h7⟩ := G
  exact va_new F.1 F.2.1 F.2.2.2.2 h2 t0 h3 F.2.2.2.1 (F.2.2.2.2 _ h4) (F.2.2.2.2 _ h5) (F.2.2.2.2 _ h6) hK.1 hP hD hS hA h1 h7 hcells hslots hdg kk
theorem oinit (F : CallFix p m c cc nL s args ALL own) (G : LkO own idx) (hls : lv_has ls nL lv) (hframes : 1 ≤ R.frames) (hlocals : (rest.map fun v => v.category).sum + 12 ≤ R.locals) (hdg : decode cc pc = .ok (.invokespecial idx, 3))
    (kk : W p l e R s m args below meth c H locs cells slots Q (F0 m (pc + 3) ls rest)) : W p l e R s m args below meth c H locs cells slots Q (F0 m pc ls (.ref a :: rest)) :=
  W.objInit F.1 F.2.1 F.2.2.2.1 (F.2.2.2.2 _ G.1) (F.2.2.2.2 _ G.2.1) (F.2.2.2.2 _ G.2.2) rfl (hls.1.trans F.2.2.1.symm) rfl hdg hframes (by show 2 * 0 + _ + 12 ≤ _; omega) kk
/-- a new array of a known kind -/
theorem newA {atype : ArrayType} {ty : FieldType} {t0 : Nat} {N' : Nat} {n : Int32} {a0 : (Nat → Int32) ⊕ (Nat → Int64) ⊕ (Nat → UInt32) ⊕ (Nat → UInt64) ⊕ (Nat → Option Nat)} (F : CallFix p m c cc nL s args ALL own) (hK : KK D cA s) (hP : va_P D vwCl ws H) (hD : va_D A ws) (hS : va_S A H0 H locs) (hA : ∀ q, H0.size ≤ q → A q) (harr : Cond.arrayClass (newarray.typeOf atype) ∈ ALL) (hty : newarray.typeOf atype = ty) (ht : (tyL cA)[t0]? = some (cA t0, ty)) (hob : ∀ U c1 c2, va_RA U c1 ty → va_RA U c2 ty → c1 = c2)
    (ha : ∀ cB : ClassId, vp_cell cB (N', a0) = arrV cB N' (fun _ => defaultValue ty)) (hn : ¬ n < 0) (hN : n.toNatClampNeg = N') (hbytes : N' * componentBytes ty ≤ 536870912) (hcells : cells + 1 ≤ R.cells) (hslots : slots + N' ≤ R.slots) (hdg : decode cc pc = .ok (.newarray atype, 2))
    (kk : ∀ (q : Nat) (H1 : Heap), va_P D vwCl (ws ++ [(q, .inl (cA t0, N', a0))]) H1 → va_D A (ws ++ [(q, .inl (cA t0, N', a0))]) → va_S A H0 H1 locs → W p l e R s m args below meth c H1 locs (cells + 1) (slots + N') Q (F0 m (pc + 2) ls (.ref q :: rest))) : W p l e R s m args below meth c H locs cells slots Q (F0 m pc ls (.int n :: rest)) := by
  refine va_newa F.1 F.2.1 (F.2.2.2.2 _ harr) hty hK.1 hP hD hS hA (a0 := (N', a0)) ha hn hN hbytes hcells hslots hdg (fun q cB H1 hK1 hP1 hD1 hS1 => ?_)
  have e1 : cB = cA t0 := hob s cB (cA t0) (hK1.2 6 (cB, ty) (by show (tyL cA ++ [(cB, ty)])[6]? = _; rfl)).2 (hK.1.2 t0 _ ht).2
  subst e1
  exact kk q H1 hP1 hD1 hS1
end XN
