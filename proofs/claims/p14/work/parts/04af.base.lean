theorem RO.ofW {mi : MI} {d : Nat} {D : va_G} {cA : Nat → ClassId} {av : List Value} {ws : va_W} {v : Option Value} (hy : plainFor mi.1 = true) (hn : (lg_sl av).length ≤ mi.2.2.1)
    (body : ∀ (l : Launch) (p : Program) (e : Env) (s : State) (m : MethodId) (below : List Frame) (meth : Method) (c : Code), CallFix p m c mi.2.1 mi.2.2.1 s av.toArray ALL mi.1.cls → meth.sig.returnType = mi.2.2.2 → meth.locks = false → KK D cA s → va_P D vwCl ws s.heap → va_S (fun _ => False) s.heap s.heap [] → (∀ q : Nat, False → cA 9 ≤ q) → ∀ ls, lv_has ls mi.2.2.1 (lv_args 0 av) → W p l e (rmOf d 0 0) s m av.toArray below meth c s.heap [] 0 0 (MQ below (roQ v) av.toArray s 0 0 (fun _ => False)) (F0 m 0 ls [])) : RO mi d D cA av ws v := by
  intro l
  refine va_MetF (cc := mi.2.1) (maxL := mi.2.2.1) (ret := mi.2.2.2) hy rfl ?_
  intro p e s m args' below meth c s₁ B hml hv
  obtain ⟨rfl, hP, hK⟩ := hv
  have hts := atoms_spec (ws := wk mi) B.pre
  rw [lg_entry_eq]
  exact body l p e s m below meth c ⟨B.exec, B.bytes, hml, findClass_of_methodNamed B.named, fun w hw => hts w (List.mem_cons_of_mem _ hw)⟩ B.returns B.notSynchronized hK hP va_S.rf (fun _ h => h.elim) _ (lv_entry av hn)
theorem RW.ofW {mi : MI} {d mc ms : Nat} {D : va_G} {cA : Nat → ClassId} {av : List Value} {ws : va_W} {post : Option Value → va_W → Prop} (hy : plainFor mi.1 = true) (hn : (lg_sl av).length ≤ mi.2.2.1)
    (body : ∀ (l : Launch) (p : Program) (e : Env) (s : State) (m : MethodId) (below : List Frame) (meth : Method) (c : Code) (A : Nat → Prop) (H : Heap) (locs : List Loc), CallFix p m c mi.2.1 mi.2.2.1 s av.toArray ALL mi.1.cls → meth.sig.returnType = mi.2.2.2 → meth.locks = false → meth.name = mi.1.name → KK D cA s → va_P D vwCl ws H → va_D A ws → va_S A s.heap H locs → (∀ q, s.heap.size ≤ q → A q) → (∀ q, A q → cA 9 ≤ q) → ∀ ls, lv_has ls mi.2.2.1 (lv_args 0 av) → W p l e (rmOf d mc ms) s m av.toArray below meth c H locs 0 0 (MQ below (rwQ D A post) av.toArray s mc ms A) (F0 m 0 ls [])) : RW mi d mc ms D cA av ws post := by
  intro l sz
  refine va_MetF (cc := mi.2.1) (maxL := mi.2.2.1) (ret := mi.2.2.2) hy rfl ?_
  intro p e s m args' below meth c s₁ B hml hv
  obtain ⟨rfl, hsz, hP, hK, hD0⟩ := hv
  have hts := atoms_spec (ws := wk mi) B.pre
  have hnm : meth.name = mi.1.name := (name_of_methodNamed B.named B.method).1
  subst hsz
  have hD := hD0.self (sz := s.heap.size)
  rw [lg_entry_eq]
  have hF : CallFix p m c mi.2.1 mi.2.2.1 s av.toArray ALL mi.1.cls := ⟨B.exec, B.bytes, hml, findClass_of_methodNamed B.named, fun w hw => hts w (List.mem_cons_of_mem _ hw)⟩
  have hA : ∀ q, s.heap.size ≤ q → va_A ws s.heap.size q := fun q h => Or.inr h
  have hAb : ∀ q, va_A ws s.heap.size q → cA 9 ≤ q := by
    rintro q (⟨k, e, h⟩ | h)
    · exact hD0.2 k _ h
    · exact Nat.le_trans hK.2.2.2 h
  have hl := lv_entry av hn
  generalize (lg_sl av ++ List.replicate (mi.2.2.1 - (lg_sl av).length) Slot.unset).toArray = ls at hl ⊢
  have hr := B.returns
  have hs := B.notSynchronized
  clear B hts hn hy hml
  generalize va_A ws s.heap.size = A at hA hAb hD ⊢
  exact body l p e s m below meth c A s.heap [] hF hr hs hnm hK hP hD va_S.rf hA hAb ls hl
