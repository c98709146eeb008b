theorem jc_last {L : va_W} {n : Nat} {x : Nat × va_E} (hl : L.length = n) : [n].map (fun i => (L ++ [x])[i]?) = [x].map some := by subst hl; simp
theorem js_last {L : va_W} {n : Nat} {x y : Nat × va_E} (hl : L.length = n) : putAll (L ++ [x]) [n] [y] = L ++ [y] := by subst hl; simp [putAll]
/-! ===== methods that read beside the worlds: constant texts ===== -/
def ROX (mi : MI) (d : Nat) (D : va_G) (cA : Nat → ClassId) (av : List Value) (ws : va_W) (E : State → Prop) (v : Option Value) : Prop := ∀ l : Launch, Met l mi.1 (wk mi) (rmOf d 0 0) (va_Pc av (fun U => va_P D vwCl ws U.heap ∧ KK D cA U ∧ E U)) (roQ v) 0 0 (fun _ => False)
theorem ROX.ofW {mi : MI} {d : Nat} {D : va_G} {cA : Nat → ClassId} {av : List Value} {ws : va_W} {E : State → Prop} {v : Option Value} (hy : plainFor mi.1 = true) (hn : (lg_sl av).length ≤ mi.2.2.1)
    (body : ∀ (l : Launch) (p : Program) (e : Env) (s : State) (m : MethodId) (below : List Frame) (meth : Method) (c : Code), CallFix p m c mi.2.1 mi.2.2.1 s av.toArray ALL mi.1.cls → meth.sig.returnType = mi.2.2.2 → meth.locks = false → KK D cA s → va_P D vwCl ws s.heap → va_S (fun _ => False) s.heap s.heap [] → (∀ q : Nat, False → cA 9 ≤ q) → E s → ∀ ls, lv_has ls mi.2.2.1 (lv_args 0 av) → W p l e (rmOf d 0 0) s m av.toArray below meth c s.heap [] 0 0 (MQ below (roQ v) av.toArray s 0 0 (fun _ => False)) (F0 m 0 ls [])) : ROX mi d D cA av ws E v := by
  intro l
  refine va_MetF (cc := mi.2.1) (maxL := mi.2.2.1) (ret := mi.2.2.2) hy rfl ?_
  intro p e s m args' below meth c s₁ B hml hv
  obtain ⟨rfl, hP, hK, hE⟩ := hv
  have hts := atoms_spec (ws := wk mi) B.pre
  rw [lg_entry_eq]
  exact body l p e s m below meth c ⟨B.exec, B.bytes, hml, findClass_of_methodNamed B.named, fun w hw => hts w (List.mem_cons_of_mem _ hw)⟩ B.returns B.notSynchronized hK hP va_S.rf (fun _ h => h.elim) hE _ (lv_entry av hn)
abbrev isStr (cA : Nat → ClassId) (a : Nat) (w : List Int32) (U : State) : Prop := StrOK (fun z => cA 9 ≤ z) U U.heap a w
abbrev isByt (cA : Nat → ClassId) (v : Nat) (w : List Int32) (U : State) : Prop := va_T .byte v w.length (fun j => .int (w.getD j 0)) (fun z => cA 9 ≤ z) U U.heap
section XS2
variable {p : Program} {l : Launch} {e : Env} {R : Room} {s : State} {m : MethodId} {args : Array Value} {below : List Frame} {meth : Method} {c : Code} {H : Heap} {locs : List Loc} {cells slots : Nat} {Q : State → Prop}
variable {cc : ByteArray} {pc nL : Nat} {ls : Array Slot} {rest : List Value} {own : String} {D : va_G} {cA : Nat → ClassId} {A : Nat → Prop} {ws wc : va_W} {a idx : Nat} {av : List Value} {w : List Int32}
theorem preStr (hK : KK D cA s) (hS : va_S A s.heap H locs) (hAb : ∀ q, A q → cA 9 ≤ q) (hP : va_P D vwCl wc H) (hE : isStr cA a w s) : PreC s H (va_Pc av (fun U => va_P D vwCl wc U.heap ∧ KK D cA U ∧ isStr cA a w U)) av :=
  ⟨fun a U g mk q => by obtain ⟨q0, qP, qK, qE⟩ := q; exact ⟨q0, qP, qK.call, StrOK.moved (u := U) (U := U.calling g mk a) (Vm.Alike.refl U.vm) qE⟩, fun U hU hW => ⟨rfl, by rw [hU]; exact hP, hK.at hS hAb hU hW, by unfold isStr; rw [hU]; exact (hE.kept (keptB hS hAb)).moved hW.alike⟩⟩
theorem preByt (hK : KK D cA s) (hS : va_S A s.heap H locs) (hAb : ∀ q, A q → cA 9 ≤ q) (hP : va_P D vwCl wc H) (hE : isByt cA a w s) : PreC s H (va_Pc av (fun U => va_P D vwCl wc U.heap ∧ KK D cA U ∧ isByt cA a w U)) av :=
  ⟨fun a U g mk q => by obtain ⟨q0, qP, qK, qE⟩ := q; exact ⟨q0, qP, qK.call, va_T.moved (u := U) (U := U.calling g mk a) (Vm.Alike.refl U.vm) qE⟩, fun U hU hW => ⟨rfl, by rw [hU]; exact hP, hK.at hS hAb hU hW, by unfold isByt; rw [hU]; exact va_T.moved hW.alike (hE.kept (keptB hS hAb))⟩⟩
theorem rcvStr (hS : va_S A s.heap H locs) (hAb : ∀ q, A q → cA 9 ≤ q) (hE : isStr cA a w s) : Rcv s H cN a := by
  obtain ⟨cell, h1, h2, h3, -⟩ := hE.1.kept (keptB hS hAb)
  exact ⟨cell, h1, h2, h3⟩
theorem ldcStr {tx : String} (F : CallFix p m c cc nL s args ALL own) (hK : KK D cA s) (hs : (own, idx, tx, w) ∈ sites) (hdg : decode cc pc = .ok (.ldc idx, 2))
    (kk : ∀ q : Nat, isStr cA q w s → W p l e R s m args below meth c H locs cells slots Q (F0 m (pc + 2) ls (.ref q :: rest))) : W p l e R s m args below meth c H locs cells slots Q (F0 m pc ls rest) := by
  obtain ⟨a, h1, h2⟩ := hK.2.2.1.1 _ hs
  exact va_ldcS F.1 F.2.1 F.2.2.2.1 h1 hdg (kk a h2)
theorem ro_gen {R : Room} {x : Int32} {ty : FieldType} {v : Option Value} (F : CallFix p m c cc nL s args ALL own) (hr : meth.sig.returnType = some ty) (hn : narrow ty (.int x) = .int x) (hlk : meth.locks = false) (hv : some (Value.int x) = v) (hdg : decode cc pc = .ok (.ireturn, 1)) : W p l e R s m args below meth c s.heap [] 0 0 (MQ below (roQ v) args s 0 0 (fun _ => False)) (F0 m pc ls [.int x]) := W.zret F.1 F.2.1 hr hn (fun t ht _ => ⟨by rw [hv], ht⟩) (fun _ h => by cases h) hdg hlk
theorem ro_v {R : Room} (F : CallFix p m c cc nL s args ALL own) (hr : meth.sig.returnType = none) (hlk : meth.locks = false) (hdg : decode cc pc = .ok (.return_, 1)) : W p l e R s m args below meth c s.heap [] 0 0 (MQ below (roQ none) args s 0 0 (fun _ => False)) (F0 m pc ls []) := W.vret F.1 F.2.1 hr (fun t ht _ => ⟨rfl, ht⟩) (fun _ h => by cases h) hdg hlk
end XS2
def strch (w : List Int32) (i : Int32) : Int32 := ((w.getD i.toNatClampNeg 0 &&& 255).toUInt32 % 65536).toInt32
theorem strch_nar (w : List Int32) (i : Int32) : narrow .char (.int (strch w i)) = .int (strch w i) := by
  unfold strch
  rw [sc_c2]
  exact sc_nar _
theorem inb_lt2 {i : Int32} {n : Nat} (h : inb i n = true) (hn : n < 2 ^ 31) : ¬ i < 0 ∧ i < nI n := by
  have h1 := inb_in h
  obtain ⟨j, hj, rfl⟩ := vp_in_of h1 hn
  exact ⟨nI_pos (by omega), nI_lt hj hn⟩
/-! receivers by their class: a literal name (a projection costs the unifier a third of a second a call) -/
theorem rcv_0 {D : va_G} {cA : Nat → ClassId} {s : State} {H : Heap} {ws : va_W} {b : Addr} {q0 : Nat} {fs : List Value} (hK : KK D cA s) (hP : va_P D vwCl ws H) (he : ws[q0]? = some (b, .inr (0, fs))) : Rcv s H "MoonOverTheHill$Few" b := rcv hK hP he rfl
theorem rcv_1 {D : va_G} {cA : Nat → ClassId} {s : State} {H : Heap} {ws : va_W} {b : Addr} {q0 : Nat} {fs : List Value} (hK : KK D cA s) (hP : va_P D vwCl ws H) (he : ws[q0]? = some (b, .inr (1, fs))) : Rcv s H "MoonOverTheHill$Hill" b := rcv hK hP he rfl
theorem rcv_2 {D : va_G} {cA : Nat → ClassId} {s : State} {H : Heap} {ws : va_W} {b : Addr} {q0 : Nat} {fs : List Value} (hK : KK D cA s) (hP : va_P D vwCl ws H) (he : ws[q0]? = some (b, .inr (2, fs))) : Rcv s H "MoonOverTheHill$Moon" b := rcv hK hP he rfl
theorem rcv_3 {D : va_G} {cA : Nat → ClassId} {s : State} {H : Heap} {ws : va_W} {b : Addr} {q0 : Nat} {fs : List Value} (hK : KK D cA s) (hP : va_P D vwCl ws H) (he : ws[q0]? = some (b, .inr (3, fs))) : Rcv s H "MoonOverTheHill$Places" b := rcv hK hP he rfl
theorem rcv_4 {D : va_G} {cA : Nat → ClassId} {s : State} {H : Heap} {ws : va_W} {b : Addr} {q0 : Nat} {fs : List Value} (hK : KK D cA s) (hP : va_P D vwCl ws H) (he : ws[q0]? = some (b, .inr (4, fs))) : Rcv s H "MoonOverTheHill$Question" b := rcv hK hP he rfl
theorem rcv_5 {D : va_G} {cA : Nat → ClassId} {s : State} {H : Heap} {ws : va_W} {b : Addr} {q0 : Nat} {fs : List Value} (hK : KK D cA s) (hP : va_P D vwCl ws H) (he : ws[q0]? = some (b, .inr (5, fs))) : Rcv s H "MoonOverTheHill$Shelf" b := rcv hK hP he rfl
theorem rcv_6 {D : va_G} {cA : Nat → ClassId} {s : State} {H : Heap} {ws : va_W} {b : Addr} {q0 : Nat} {fs : List Value} (hK : KK D cA s) (hP : va_P D vwCl ws H) (he : ws[q0]? = some (b, .inr (6, fs))) : Rcv s H "MoonOverTheHill$State" b := rcv hK hP he rfl
theorem rcv_7 {D : va_G} {cA : Nat → ClassId} {s : State} {H : Heap} {ws : va_W} {b : Addr} {q0 : Nat} {fs : List Value} (hK : KK D cA s) (hP : va_P D vwCl ws H) (he : ws[q0]? = some (b, .inr (7, fs))) : Rcv s H "MoonOverTheHill$Tape" b := rcv hK hP he rfl
theorem rcv_8 {D : va_G} {cA : Nat → ClassId} {s : State} {H : Heap} {ws : va_W} {b : Addr} {q0 : Nat} {fs : List Value} (hK : KK D cA s) (hP : va_P D vwCl ws H) (he : ws[q0]? = some (b, .inr (8, fs))) : Rcv s H "MoonOverTheHill" b := rcv hK hP he rfl
theorem rcv_9 {D : va_G} {cA : Nat → ClassId} {s : State} {H : Heap} {ws : va_W} {b : Addr} {q0 : Nat} {fs : List Value} (hK : KK D cA s) (hP : va_P D vwCl ws H) (he : ws[q0]? = some (b, .inr (9, fs))) : Rcv s H "MoonOverTheHillModel" b := rcv hK hP he rfl

