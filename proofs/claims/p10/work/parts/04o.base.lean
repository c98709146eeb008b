section XN
variable {p : Program} {l : Launch} {e : Env} {R : Room} {s : State} {m : MethodId} {args : Array Value} {below : List Frame} {meth : Method} {c : Code} {H : Heap} {locs : List Loc} {cells slots : Nat} {Q : State → Prop}
variable {cc : ByteArray} {pc nL : Nat} {ls : Array Slot} {rest : List Value} {own : String} {α : Type} {D : va_G} {cA : Nat → ClassId} {A : Nat → Prop} {ws : va_W} {a idx : Nat} {H0 : Heap} {lv : List (Nat × Value)}
theorem ra_int (U : State) (c1 c2 : ClassId) (h1 : va_RA U c1 .int) (h2 : va_RA U c2 .int) : c1 = c2 := Option.some.inj ((show U.vm.findClass _ = some c1 from h1).symm.trans h2)
theorem ra_long (U : State) (c1 c2 : ClassId) (h1 : va_RA U c1 .long) (h2 : va_RA U c2 .long) : c1 = c2 := Option.some.inj ((show U.vm.findClass _ = some c1 from h1).symm.trans h2)
theorem ra_bool (U : State) (c1 c2 : ClassId) (h1 : va_RA U c1 .boolean) (h2 : va_RA U c2 .boolean) : c1 = c2 := Option.some.inj ((show U.vm.findClass _ = some c1 from h1).symm.trans h2)
theorem vc_int (N' : Nat) (cB : ClassId) : vp_cell cB (N', .inl (fun _ => (0 : Int32))) = arrV cB N' (fun _ => defaultValue .int) := by rw [vp_cell_i]; rfl
theorem vc_bool (N' : Nat) (cB : ClassId) : vp_cell cB (N', .inl (fun _ => (0 : Int32))) = arrV cB N' (fun _ => defaultValue .boolean) := by rw [vp_cell_i]; rfl
theorem vc_long (N' : Nat) (cB : ClassId) : vp_cell cB (N', .inr (.inl (fun _ => (0 : Int64)))) = arrV cB N' (fun _ => defaultValue .long) := by rw [vp_cell_l]; rfl
end XN
theorem jc_last {L : va_W} {n : Nat} {x : Nat × va_E} (hl : L.length = n) : [n].map (fun i => (L ++ [x])[i]?) = [x].map some := by subst hl; simp
theorem js_last {L : va_W} {n : Nat} {x y : Nat × va_E} (hl : L.length = n) : putAll (L ++ [x]) [n] [y] = L ++ [y] := by subst hl; simp [putAll]
/-! ===== methods that read beside the worlds: constant texts ===== -/
def ROX (mi : MI) (d : Nat) (D : va_G) (cA : Nat → ClassId) (av : List Value) (ws : va_W) (E : State → Prop) (v : Option Value) : Prop := ∀ l : Launch, Met l mi.1 (wk mi) (rmOf d 0 0) (va_Pc av (fun U => va_P D vwCl ws U.heap ∧ KK D cA U ∧ E U)) (roQ v) 0 0 (fun _ => False)
theorem ROX.ofW {mi : MI} {d : Nat} {D : va_G} {cA : Nat → ClassId} {av : List Value} {ws : va_W} {E : State → Prop} {v : Option Value} (hy : plainFor mi.1 = true) (hn : (lg_sl av).length ≤ mi.2.2.1)
    (body : ∀ (l : Launch) (p : Program) (e : Env) (s : State) (m : MethodId) (below : List Frame) (meth : Method) (c : Code), CallFix p m c mi.2.1 mi.2.2.1 s av.toArray ALL mi.1.cls → meth.sig.returnType = mi.2.2.2 → meth.locks = false → KK D cA s → va_P D vwCl ws s.heap → va_S (fun _ => False) s.heap s.heap [] → (∀ q : Nat, False → cA 9 ≤ q) → E s → ∀ ls, lv_has ls mi.2.2.1 (lv_args 0 av) → W p l e (rmOf d 0 0) s m av.toArray below meth c s.heap [] 0 0 (MQ below (roQ v) av.toArray s 0 0 (fun _ => False)) (F0 m 0 ls [])) : ROX mi d D cA av ws E v := by
  intro l
  refine va_MetF (cc := mi.2.1) (maxL := mi.2.2.1) (ret := mi.2.2.2) hy rfl ?_
  intro p e s m args' below meth c s₁ B hml hv
  obtain ⟨rfl, hP, hK, hE⟩ := hv
  have hts := atoms_spec (ws := wk mi) B.pre
  rw [lg_entry_eq]
  exact body l p e s m below meth c ⟨B.exec, B.bytes, hml, findClass_of_methodNamed B.named, fun w hw => hts w (List.mem_cons_of_mem _ hw)⟩ B.returns B.notSynchronized hK hP va_S.rf (fun _ h => h.elim) hE _ (lv_entry av hn)
abbrev isStr (cA : Nat → ClassId) (a : Nat) (w : List Int32) (U : State) : Prop := StrOK (fun z => cA 9 ≤ z) U U.heap a w
abbrev isByt (cA : Nat → ClassId) (v : Nat) (w : List Int32) (U : State) : Prop := va_T .byte v w.length (fun j => .int (w.getD j 0)) (fun z => cA 9 ≤ z) U U.heap
section XS2
variable {p : Program} {l : Launch} {e : Env} {R : Room} {s : State} {m : MethodId} {args : Array Value} {below : List Frame} {meth : Method} {c : Code} {H : Heap} {locs : List Loc} {cells slots : Nat} {Q : State → Prop}
variable {cc : ByteArray} {pc nL : Nat} {ls : Array Slot} {rest : List Value} {own : String} {D : va_G} {cA : Nat → ClassId} {A : Nat → Prop} {ws wc : va_W} {a idx : Nat} {av : List Value} {w : List Int32}
theorem preStr (hK : KK D cA s) (hS : va_S A s.heap H locs) (hAb : ∀ q, A q → cA 9 ≤ q) (hP : va_P D vwCl wc H) (hE : isStr cA a w s) : PreC s H (va_Pc av (fun U => va_P D vwCl wc U.heap ∧ KK D cA U ∧ isStr cA a w U)) av :=
  ⟨fun a U g mk q => by obtain ⟨q0, qP, qK, qE⟩ := q; exact ⟨q0, qP, qK.call, StrOK.moved (u := U) (U := U.calling g mk a) (Vm.Alike.refl U.vm) qE⟩, fun U hU hW => ⟨rfl, by rw [hU]; exact hP, hK.at hS hAb hU hW, by unfold isStr; rw [hU]; exact (hE.kept (keptB hS hAb)).moved hW.alike⟩⟩
theorem preByt (hK : KK D cA s) (hS : va_S A s.heap H locs) (hAb : ∀ q, A q → cA 9 ≤ q) (hP : va_P D vwCl wc H) (hE : isByt cA a w s) : PreC s H (va_Pc av (fun U => va_P D vwCl wc U.heap ∧ KK D cA U ∧ isByt cA a w U)) av :=
  ⟨fun a U g mk q => by obtain ⟨q0, qP, qK, qE⟩ := q; exact ⟨q0, qP, qK.call, va_T.moved (u := U) (U := U.calling g mk a) (Vm.Alike.refl U.vm) qE⟩, fun U hU hW => ⟨rfl, by rw [hU]; exact hP, hK.at hS hAb hU hW, by unfold isByt; rw [hU]; exact va_T.moved hW.alike (hE.kept (keptB hS hAb))⟩⟩
theorem rcvStr (hS : va_S A s.heap H locs) (hAb : ∀ q, A q → cA 9 ≤ q) (hE : isStr cA a w s) : Rcv s H cN a := by
  obtain ⟨cell, h1, h2, h3, -⟩ := hE.1.kept (keptB hS hAb)
  exact ⟨cell, h1, h2, h3⟩
theorem ldcStr {tx : String} (F : CallFix p m c cc nL s args ALL own) (hK : KK D cA s) (hs : (own, idx, tx, w) ∈ sites) (hdg : decode cc pc = .ok (.ldc idx, 2))
    (kk : ∀ q : Nat, isStr cA q w s → W p l e R s m args below meth c H locs cells slots Q (F0 m (pc + 2) ls (.ref q :: rest))) : W p l e R s m args below meth c H locs cells slots Q (F0 m pc ls rest) := by
  obtain ⟨a, h1, h2⟩ := hK.2.2.1.1 _ hs
  exact va_ldcS F.1 F.2.1 F.2.2.2.1 h1 hdg (kk a h2)
end XS2
