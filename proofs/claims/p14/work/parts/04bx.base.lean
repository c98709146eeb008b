theorem jc_last {L : va_W} {n : Nat} {x : Nat × va_E} (hl : L.length = n) : [n].map (fun i => (L ++ [x])[i]?) = [x].map some := by subst hl; simp
theorem js_last {L : va_W} {n : Nat} {x y : Nat × va_E} (hl : L.length = n) : putAll (L ++ [x]) [n] [y] = L ++ [y] := by subst hl; simp [putAll]
/-! ===== methods that read beside the worlds: constant texts ===== -/
def ROX (mi : MI) (d : Nat) (D : va_G) (cA : Nat → ClassId) (av : List Value) (ws : va_W) (E : State → Prop) (v : Option Value) : Prop := ∀ l : Launch, Met l mi.1 (wk mi) (rmOf d 0 0) (va_Pc av (fun U => va_P D vwCl ws U.heap ∧ KK D cA U ∧ E U)) (roQ v) 0 0 (fun _ => False)
theorem ROX.ofW {mi : MI} {d : Nat} {D : va_G} {cA : Nat → ClassId} {av : List Value} {ws : va_W} {E : State → Prop} {v : Option Value} (hy : plainFor mi.1 = true) (hn : (lg_sl av).length ≤ mi.2.2.1)
    (body : ∀ (l : Launch) (p : Program) (e : Env) (s : State) (m : MethodId) (below : List Frame) (meth : Method) (c : Code), CallFix p m c mi.2.1 mi.2.2.1 s av.toArray ALL mi.1.cls → meth.sig.returnType = mi.2.2.2 → meth.locks = false → KK D cA s → va_P D vwCl ws s.heap → va_S (fun _ => False) s.heap s.heap [] → (∀ q : Nat, False → cA 9 ≤ q) → E s → ∀ ls, lv_has ls mi.2.2.1 (lv_args 0 av) → W p l e (rmOf d 0 0) s m av.toArray below meth c s.heap [] 0 0 (MQ below (roQ v) av.toArray s 0 0 (fun _ => False)) (F0 m 0 ls [])) : ROX mi d D cA av ws E v := by
  intro l
  refine va_MetF (cc := mi.2.1) (maxL := mi.2.2.1) (ret := mi.2.2.2) hy rfl ?_
  intro p e s m args' below meth c s₁ B hml hv
  obtain ⟨rfl, hP, hK, hE⟩ := hv
  have hts := atoms_spec (ws := wk mi) B.pre
  rw [lg_entry_eq]
  exact body l p e s m below meth c ⟨B.exec, B.bytes, hml, findClass_of_methodNamed B.named, fun w hw => hts w (List.mem_cons_of_mem _ hw)⟩ B.returns B.notSynchronized hK hP va_S.rf (fun _ h => h.elim) hE _ (lv_entry av hn)
