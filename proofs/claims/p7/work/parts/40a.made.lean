/-! ===== made worlds: constructors that make cells ===== -/
def nvW (P : va_W → Prop) : Option Value → va_W → Prop := fun v w => v = none ∧ P w
abbrev aoW : List Cond := [.arrayOver (.object "MoonOverTheHill$Shelf"), .arrayOver (.array .int), .arrayOver (.array .long)]
/-- the tables' words of arrays of references -/
def AOs (U : State) : Prop := va_AO "MoonOverTheHill$Shelf" U ∧ (Cond.arrayOver (.array .int)).before #[] U = true ∧ (Cond.arrayOver (.array .long)).before #[] U = true
theorem AOs.moved {u U : State} (hvm : u.vm.Alike U.vm) (h : AOs u) : AOs U := ⟨h.1.moved hvm, arrayOver_alikeB hvm h.2.1, arrayOver_alikeB hvm h.2.2⟩
def RWE (mi : MI) (d mc ms : Nat) (D : va_G) (cA : Nat → ClassId) (av : List Value) (ws : va_W) (post : Option Value → va_W → Prop) : Prop := ∀ (l : Launch) (sz : Nat), Met l mi.1 (wk mi) (rmOf d mc ms) (va_Pc av (fun U => U.heap.size = sz ∧ va_P D vwCl ws U.heap ∧ KK D cA U ∧ va_D (fun q => cA 9 ≤ q) ws ∧ AOs U)) (rwQ D (va_A ws sz) post) mc ms (va_A ws sz)
theorem RWE.ofW {mi : MI} {d mc ms : Nat} {D : va_G} {cA : Nat → ClassId} {av : List Value} {ws : va_W} {post : Option Value → va_W → Prop} (hy : plainFor mi.1 = true) (hn : (lg_sl av).length ≤ mi.2.2.1)
    (body : ∀ (l : Launch) (p : Program) (e : Env) (s : State) (m : MethodId) (below : List Frame) (meth : Method) (c : Code) (A : Nat → Prop) (H : Heap) (locs : List Loc), CallFix p m c mi.2.1 mi.2.2.1 s av.toArray ALL mi.1.cls → meth.sig.returnType = mi.2.2.2 → meth.locks = false → meth.name = mi.1.name → KK D cA s → AOs s → va_P D vwCl ws H → va_D A ws → va_S A s.heap H locs → (∀ q, s.heap.size ≤ q → A q) → (∀ q, A q → cA 9 ≤ q) → ∀ ls, lv_has ls mi.2.2.1 (lv_args 0 av) → W p l e (rmOf d mc ms) s m av.toArray below meth c H locs 0 0 (MQ below (rwQ D A post) av.toArray s mc ms A) (F0 m 0 ls [])) : RWE mi d mc ms D cA av ws post := by
  intro l sz
  refine va_MetF (cc := mi.2.1) (maxL := mi.2.2.1) (ret := mi.2.2.2) hy rfl ?_
  intro p e s m args' below meth c s₁ B hml hv
  obtain ⟨rfl, hsz, hP, hK, hD0, hE⟩ := hv
  have hts := atoms_spec (ws := wk mi) B.pre
  have hnm : meth.name = mi.1.name := (name_of_methodNamed B.named B.method).1
  subst hsz
  have hD := hD0.self (sz := s.heap.size)
  rw [lg_entry_eq]
  have hF : CallFix p m c mi.2.1 mi.2.2.1 s av.toArray ALL mi.1.cls := ⟨B.exec, B.bytes, hml, findClass_of_methodNamed B.named, fun w hw => hts w (List.mem_cons_of_mem _ hw)⟩
  have hA : ∀ q, s.heap.size ≤ q → va_A ws s.heap.size q := fun q h => Or.inr h
  have hAb : ∀ q, va_A ws s.heap.size q → cA 9 ≤ q := by
    rintro q (⟨k, e, h⟩ | h)
    · exact hD0.2 k _ h
    · exact Nat.le_trans hK.2.2.2 h
  have hl := lv_entry av hn
  generalize (lg_sl av ++ List.replicate (mi.2.2.1 - (lg_sl av).length) Slot.unset).toArray = ls at hl ⊢
  have hr := B.returns
  have hs := B.notSynchronized
  clear B hts hn hy hml
  generalize va_A ws s.heap.size = A at hA hAb hD ⊢
  exact body l p e s m below meth c A s.heap [] hF hr hs hnm hK hE hP hD va_S.rf hA hAb ls hl
theorem va_P.permA {D : va_G} {cl : List vw_C} {w1 w2 : va_W} {H : Heap} (hp : w1.Perm w2) (h : va_P D cl w1 H) : va_P D cl w2 H := va_P_perm h fun _ hq => hp.symm.subset hq
theorem va_D.permA {A : Nat → Prop} {w1 w2 : va_W} (hp : w1.Perm w2) (h : va_D A w1) : va_D A w2 := by
  obtain ⟨h1, h2⟩ := va_D_iff.mp h
  exact va_D_iff.mpr ⟨(hp.map (·.1)).nodup_iff.mp h1, fun q hq => h2 q (hp.symm.subset hq)⟩
/-- an array of references, its content said otherwise -/
theorem cell_q {c : ClassId} {n : Nat} {f g : Nat → Option Nat} (h : ∀ j, j < n → f j = g j) : vp_cell c (n, .inr (.inr (.inr (.inr f)))) = vp_cell c (n, .inr (.inr (.inr (.inr g)))) := by
  rw [vp_cell_q, vp_cell_q]
  unfold arrV
  congr 1
  congr 1
  funext j
  show va_rf (f j.1) = va_rf (g j.1)
  rw [h j.1 j.2]
theorem P_fn {D : va_G} {cl : List vw_C} {ws : va_W} {H : Heap} {p a n : Nat} {c : ClassId} {f g : Nat → Option Nat} (hP : va_P D cl ws H) (hp : ws[p]? = some (a, .inl (c, n, .inr (.inr (.inr (.inr f)))))) (h : ∀ j, j < n → f j = g j) : va_P D cl (ws.set p (a, .inl (c, n, .inr (.inr (.inr (.inr g)))))) H := by
  intro k q hk
  rw [List.getElem?_set] at hk
  by_cases e : p = k
  · subst e
    rw [if_pos rfl] at hk
    by_cases hl : p < ws.length
    · rw [if_pos hl] at hk
      cases hk
      have h1 : H[a]? = some (vp_cell c (n, .inr (.inr (.inr (.inr f))))) := hP p _ hp
      show H[a]? = some (vp_cell c (n, .inr (.inr (.inr (.inr g)))))
      rw [h1, cell_q h]
    · rw [if_neg hl] at hk
      cases hk
  · rw [if_neg e] at hk
    exact hP k q hk
theorem D_fn {A : Nat → Prop} {ws : va_W} {p a : Nat} {e0 : va_E} (e : va_E) (hD : va_D A ws) (hp : ws[p]? = some (a, e0)) : va_D A (ws.set p (a, e)) := va_D.set hD hp
def pickA : List Nat → Nat → Nat
  | [], _ => 0
  | a :: _, 0 => a
  | _ :: l, n + 1 => pickA l n
theorem ra_shelf (U : State) (c1 c2 : ClassId) (h1 : va_RA U c1 (.object "MoonOverTheHill$Shelf")) (h2 : va_RA U c2 (.object "MoonOverTheHill$Shelf")) : c1 = c2 := by
  obtain ⟨_, _, -, -, -, h1⟩ := h1
  obtain ⟨_, _, -, -, -, h2⟩ := h2
  exact Option.some.inj (h1.symm.trans h2)
theorem sufD {A : Nat → Prop} {L M : va_W} (hD : va_D A (L ++ M)) : va_D A M := by
  obtain ⟨h1, h2⟩ := va_D_iff.mp hD
  rw [List.map_append] at h1
  exact va_D_iff.mpr ⟨(List.nodup_append.mp h1).2.1, fun q hq => h2 q (List.mem_append_right _ hq)⟩
theorem perm3 (a b c : va_W) : (a ++ (b ++ c)).Perm (a ++ (c ++ b)) := List.Perm.append_left a List.perm_append_comm
section XM
variable {p : Program} {l : Launch} {e : Env} {R : Room} {s : State} {m : MethodId} {args : Array Value} {below : List Frame} {meth : Method} {c : Code} {H : Heap} {locs : List Loc} {cells slots : Nat} {Q : State → Prop}
variable {cc : ByteArray} {pc nL : Nat} {ls : Array Slot} {rest st : List Value} {own : String} {α : Type} {D : va_G} {cA : Nat → ClassId} {A : Nat → Prop} {ws : va_W} {a idx mc ms : Nat} {H0 : Heap} {lv : List (Nat × Value)} {av : List Value} {wc : va_W}
theorem preRWE (hK : KK D cA s) (hE : AOs s) (hS : va_S A s.heap H locs) (hAb : ∀ q, A q → cA 9 ≤ q) (hP : va_P D vwCl wc H) (hD : va_D A wc) : PreC s H (va_Pc av (fun U => U.heap.size = H.size ∧ va_P D vwCl wc U.heap ∧ KK D cA U ∧ va_D (fun q => cA 9 ≤ q) wc ∧ AOs U)) av :=
  ⟨fun a U g mk q => by obtain ⟨q0, qz, qP, qK, qD, qE⟩ := q; exact ⟨q0, qz, qP, qK.call, qD, AOs.moved (u := U) (U := U.calling g mk a) (Vm.Alike.refl U.vm) qE⟩, fun U hU hW => ⟨rfl, by rw [hU], by rw [hU]; exact hP, hK.at hS hAb hU hW, hD.weaken (fun _ _ _ h => hAb _ h), hE.moved hW.alike⟩⟩
/-- a call of a constructor over the newest cell -/
theorem rw_last {R : Room} {a : Array Value} {P : va_W → Prop} {L : va_W} {x : Nat × va_E} (hP : va_P D vwCl (L ++ [x]) H) (hD : va_D A (L ++ [x])) (hA : ∀ q, H0.size ≤ q → A q) (hS : va_S A H0 H locs) (run : va_Run p l e R s m args below meth c H locs cells slots mc ms (F0 m pc ls st) rest (rwQ D (va_A [x] H.size) (nvW P) a) (va_A [x] H.size))
    (kk : ∀ (S' : va_W) (H1 : Heap) (locs1 : List Loc), P S' → va_P D vwCl (L ++ S') H1 → va_D A (L ++ S') → va_S A H0 H1 locs1 → W p l e R s m args below meth c H1 locs1 (cells + mc) (slots + ms) Q (F0 m (pc + 3) ls rest)) : W p l e R s m args below meth c H locs cells slots Q (F0 m pc ls st) :=
  rw_seg (L1 := L) (S := [x]) (L2 := []) hP hD hA hS run (fun v S' H1 locs1 h1 h2 h3 h4 => by
    obtain ⟨rfl, h1⟩ := h1
    rw [List.append_nil] at h2 h3
    exact kk S' H1 locs1 h1 h2 h3 h4)
theorem newQ {N' : Nat} {n : Int32} (F : CallFix p m c cc nL s args ALL own) (hK : KK D cA s) (hE : AOs s) (hP : va_P D vwCl ws H) (hD : va_D A ws) (hS : va_S A H0 H locs) (hA : ∀ q, H0.size ≤ q → A q) (hcl : Cond.classLink own idx "MoonOverTheHill$Shelf" ∈ ALL) (hn : ¬ n < 0) (hN : n.toNatClampNeg = N') (hbytes : N' * 4 ≤ 536870912) (hcells : cells + 1 ≤ R.cells) (hslots : slots + N' ≤ R.slots) (hdg : decode cc pc = .ok (.anewarray idx, 3))
    (kk : ∀ (q : Nat) (H1 : Heap), va_P D vwCl (ws ++ [(q, .inl (cA 3, N', .inr (.inr (.inr (.inr (fun _ => none))))))]) H1 → va_D A (ws ++ [(q, .inl (cA 3, N', .inr (.inr (.inr (.inr (fun _ => none))))))]) → va_S A H0 H1 locs → W p l e R s m args below meth c H1 locs (cells + 1) (slots + N') Q (F0 m (pc + 3) ls (.ref q :: rest))) : W p l e R s m args below meth c H locs cells slots Q (F0 m pc ls (.int n :: rest)) := by
  refine va_newq F.1 F.2.1 F.2.2.2.1 (F.2.2.2.2 _ hcl) hE.1 hK.1 hP hD hS hA hn hN hbytes hcells hslots hdg (fun q cB H1 hK1 hP1 hD1 hS1 => ?_)
  have e1 : cB = cA 3 := ra_shelf s cB (cA 3) (hK1.2 6 (cB, _) (by show (tyL cA ++ [(cB, _)])[6]? = _; rfl)).2 (hK.1.2 3 _ rfl).2
  subst e1
  exact kk q H1 hP1 hD1 hS1
/-- eight rows of one length -/
theorem newM {k : Int32} {K' t0 t1 : Nat} {ty : FieldType} {z : (Nat → Int32) ⊕ (Nat → Int64) ⊕ (Nat → UInt32) ⊕ (Nat → UInt64) ⊕ (Nat → Option Nat)} (F : CallFix p m c cc nL s args ALL own) (hK : KK D cA s) (hover : (Cond.arrayOver (.array ty)).before #[] s = true) (hP : va_P D vwCl ws H) (hD : va_D A ws) (hS : va_S A H0 H locs) (hA : ∀ q, H0.size ≤ q → A q) (hcl : Cond.classLink own idx ("[" ++ (FieldType.array ty).toString) ∈ ALL) (hac : Cond.arrayClass ty ∈ ALL)
    (ht0 : (tyL cA)[t0]? = some (cA t0, .array ty)) (ht1 : (tyL cA)[t1]? = some (cA t1, ty)) (hty : (∃ C, ty = .object C) → False) (hk : ¬ k < 0) (hM : k.toNatClampNeg = K') (hb2 : K' * componentBytes ty ≤ 536870912) (hb3 : K' ≤ 536870912) (hdf : fits ty (defaultValue ty) = true) (hdd : (defaultValue ty).isDefault = true) (hcells : cells + (1 + 8) ≤ R.cells) (hslots : slots + (8 + 8 * K') ≤ R.slots) (hz : ∀ cB : ClassId, vp_cell cB (K', z) = arrV cB K' (fun _ => defaultValue ty)) (hdg : decode cc pc = .ok (.multianewarray idx 2, 4))
    (kk : ∀ (q : Nat) (H1 : Heap), va_P D vwCl (ws ++ ((q, .inl (cA t0, 8, .inr (.inr (.inr (.inr (fun j => some (q + 1 + j))))))) :: (List.range 8).map (fun j => (q + 1 + j, .inl (cA t1, K', z))))) H1 → va_D A (ws ++ ((q, .inl (cA t0, 8, .inr (.inr (.inr (.inr (fun j => some (q + 1 + j))))))) :: (List.range 8).map (fun j => (q + 1 + j, .inl (cA t1, K', z))))) → va_S A H0 H1 locs → W p l e R s m args below meth c H1 locs (cells + 1 + 8) (slots + 8 + 8 * K') Q (F0 m (pc + 4) ls (.ref q :: rest))) : W p l e R s m args below meth c H locs cells slots Q (F0 m pc ls (.int k :: .int (8 : Int32) :: rest)) := by
  have n8 : (8 : Int32).toNatClampNeg = 8 := by decide
  subst hM
  intro T hT Xs
  obtain ⟨vm₁, cQ, comp, hW, fA, fC, hO, -, X', step⟩ := Xs.multianewarray2F F.1 F.2.2.2.1 (F.2.2.2.2 _ hcl) hover (F.2.2.2.2 _ hac) (g := F0 m pc ls (.int k :: .int (8 : Int32) :: rest)) rfl (by rw [F.2.1]; exact hdg) rfl (by decide) hk (by decide) hb2 hb3 hdf hdd (by rw [n8]; exact hcells) (by rw [n8]; exact hslots)
  rw [n8] at X' step
  have e0 : cQ = cA t0 := Option.some.inj (fA.symm.trans (hK.1.2 t0 _ ht0).2)
  have e1 : comp = cA t1 := by
    have h1 := (hK.1.2 t1 _ ht1).2
    have h2 : s.vm.findClass ("[" ++ ty.toString) = some (cA t1) := by
      cases ty with
      | object C => exact absurd ⟨C, rfl⟩ hty
      | _ => exact h1
    exact Option.some.inj (fC.symm.trans h2)
  subst e0
  subst e1
  obtain ⟨f1, f2, -, -⟩ := Jvm.Free.Multi.fill_facts (T.setVm vm₁) (cA t0) (cA t1) 8 k.toNatClampNeg (defaultValue ty) 8
  have fo0 := fun (a : Addr) (ha : a < (T.setVm vm₁).heap.size) => Jvm.Free.Multi.fill_old (T.setVm vm₁) (cA t0) (cA t1) 8 k.toNatClampNeg (defaultValue ty) (a := a) ha 8
  have fi := fun (j : Nat) (hj : j < 8) => Jvm.Free.Multi.fill_inner (T.setVm vm₁) (cA t0) (cA t1) 8 k.toNatClampNeg (defaultValue ty) 8 j hj
  generalize Jvm.Free.Multi.fill (T.setVm vm₁) (cA t0) (cA t1) 8 k.toNatClampNeg (defaultValue ty) 8 = G at X' step f1 f2 fo0 fi
  have hTh : T.heap = H := hT
  have hTh2 : (T.setVm vm₁).heap = H := hT
  rw [hTh2] at f1 f2 fi
  rw [hTh] at step
  have fo : ∀ a : Nat, a < H.size → G.heap[a]? = H[a]? := fun a ha => by
    have h := fo0 a (by rw [hTh2]; exact ha)
    rw [hTh2] at h
    exact h
  have q0 : ∀ (k : Nat) (x : Nat × va_E), ws[k]? = some x → x.1 < H.size := fun k x hx => (hP k x hx).lt
  have hP1 : va_P D vwCl (ws ++ ((H.size, .inl (cA t0, 8, .inr (.inr (.inr (.inr (fun j => some (H.size + 1 + j))))))) :: (List.range 8).map (fun j => (H.size + 1 + j, .inl (cA t1, k.toNatClampNeg, z))))) G.heap := by
    refine va_P_iff.mpr fun x hx => ?_
    rcases List.mem_append.mp hx with h | h
    · obtain ⟨i, hi⟩ := List.getElem?_of_mem h
      exact (hP i x hi).kept (fo x.1 (q0 i x hi))
    · rcases List.mem_cons.mp h with h | h
      · subst h
        show G.heap[H.size]? = some (vp_cell _ _)
        rw [f2, vp_cell_q]
        refine congrArg some ?_
        rfl
      · obtain ⟨j, hj, rfl⟩ := List.mem_map.mp h
        show G.heap[H.size + 1 + j]? = some (vp_cell _ _)
        rw [fi j (List.mem_range.mp hj), hz, ← arrV_new]
        rfl
  have hD1 : va_D A (ws ++ ((H.size, .inl (cA t0, 8, .inr (.inr (.inr (.inr (fun j => some (H.size + 1 + j))))))) :: (List.range 8).map (fun j => (H.size + 1 + j, .inl (cA t1, k.toNatClampNeg, z))))) := by
    obtain ⟨d1, d2⟩ := va_D_iff.mp hD
    refine va_D_iff.mpr ⟨?_, fun x hx => ?_⟩
    · rw [List.map_append]
      refine List.nodup_append.mpr ⟨d1, ?_, fun x hx y hy => ?_⟩
      · show (H.size :: _).Nodup
        rw [List.map_map]
        refine List.nodup_cons.mpr ⟨fun h => ?_, ?_⟩
        · obtain ⟨j, -, h⟩ := List.mem_map.mp h
          have h' : H.size + 1 + j = H.size := h
          omega
        · refine List.Pairwise.map _ (fun i j (h : i ≠ j) => ?_) List.nodup_range
          show H.size + 1 + i ≠ H.size + 1 + j
          omega
      · obtain ⟨u, hu, rfl⟩ := List.mem_map.mp hx
        obtain ⟨i, hi⟩ := List.getElem?_of_mem hu
        have hlt := q0 i u hi
        rcases List.mem_cons.mp hy with h | h
        · rw [h]
          show u.1 ≠ H.size
          omega
        · rw [List.map_map] at h
          obtain ⟨j, -, h⟩ := List.mem_map.mp h
          have h' : H.size + 1 + j = y := h
          omega
    · rcases List.mem_append.mp hx with h | h
      · exact d2 x h
      · refine hA x.1 (Nat.le_trans hS.1 ?_)
        rcases List.mem_cons.mp h with h | h
        · rw [h]
          exact Nat.le_refl _
        · obtain ⟨j, -, rfl⟩ := List.mem_map.mp h
          show H.size ≤ H.size + 1 + j
          omega
  have hS1 : va_S A H0 G.heap locs := ⟨Nat.le_trans hS.1 (by rw [f1]; omega), fun x h1 h2 => by rw [fo x (Nat.lt_of_lt_of_le h1 hS.1)]; exact hS.2.1 x h1 h2, hS.2.2⟩
  obtain ⟨t, a1, b1⟩ := kk H.size G.heap hP1 hD1 hS1 G rfl X'
  exact ⟨t, step t a1, b1⟩
end XM
theorem w_104 : (Jvm.Cond.methodLink "MoonOverTheHill$Few" (3 : Nat) ({ cls := "java/lang/Object", name := "<init>", desc := "()V" } : Jvm.MethodName)) ∈ ALL := inT_1 44 rfl rfl
theorem lo_X0_3 : LkO RX0 3 := ⟨w_104, w_85, w_86⟩
theorem w_105 : (Jvm.Cond.methodLink "MoonOverTheHill$Few" (9 : Nat) ({ cls := "java/lang/Math", name := "max", desc := "(II)I" } : Jvm.MethodName)) ∈ ALL := inT_1 45 rfl rfl
theorem lk_X0_9 : LkS RX0 9 m_J9_max_7cf53 2 := ⟨(List.forall_mem_cons.mpr ⟨w_105, (List.forall_mem_cons.mpr ⟨w_106, (List.forall_mem_cons.mpr ⟨w_65, (List.forall_mem_nil _)⟩)⟩)⟩), gy_J9_max_7cf53⟩
theorem kmx_8 : (¬ F_J9_max_7cf53 (8 : Int32) (0 : Int32) < 0) ∧ Int32.toNatClampNeg (F_J9_max_7cf53 (8 : Int32) (0 : Int32)) = 8 := by decide
theorem lp_X0_15 : LkP RX0 15 0 0 true (.array .int) := ⟨RX0, TX0, 2, tyX0, rfl, wsin_X0, Nat.le_of_ble_eq_true rfl, w_108, tyX0_ok, nmX0, rfl, by decide +kernel, fun _ => rfl⟩
theorem kmx_6 : (¬ F_J9_max_7cf53 (6 : Int32) (0 : Int32) < 0) ∧ Int32.toNatClampNeg (F_J9_max_7cf53 (6 : Int32) (0 : Int32)) = 6 := by decide
theorem w_98 : (Jvm.Cond.methodLink "MoonOverTheHill$Hill" (3 : Nat) ({ cls := "java/lang/Object", name := "<init>", desc := "()V" } : Jvm.MethodName)) ∈ ALL := inT_1 38 rfl rfl
theorem lo_X1_3 : LkO RX1 3 := ⟨w_98, w_85, w_86⟩
theorem w_99 : (Jvm.Cond.classLink "MoonOverTheHill$Hill" (9 : Nat) "MoonOverTheHill$Few") ∈ ALL := inT_1 39 rfl rfl
theorem w_100 : (Jvm.Cond.instantiable "MoonOverTheHill$Few" (2 : Nat)) ∈ ALL := inT_1 40 rfl rfl
theorem ln_X1_9 : LkN RX1 9 0 2 [.null, .int 0] := ⟨RX0, TX0, tyX0, rfl, wsin_X0, tyX0_ok, w_99, w_100, w_64, by decide +kernel⟩
theorem w_102 : (Jvm.Cond.instanceMethod ({ cls := "MoonOverTheHill$Few", name := "<init>", desc := "(I)V" } : Jvm.MethodName)) ∈ ALL := inT_1 42 rfl rfl
theorem w_101 : (Jvm.Cond.methodLink "MoonOverTheHill$Hill" (13 : Nat) ({ cls := "MoonOverTheHill$Few", name := "<init>", desc := "(I)V" } : Jvm.MethodName)) ∈ ALL := inT_1 41 rfl rfl
theorem lk_X1_13 : LkI RX1 13 m_X0_init 1 := ⟨(List.forall_mem_cons.mpr ⟨w_101, (List.forall_mem_cons.mpr ⟨w_102, (List.forall_mem_cons.mpr ⟨w_64, (List.forall_mem_nil _)⟩)⟩)⟩), gy_X0_init, rfl, rfl⟩
theorem lp_X1_16 : LkP RX1 16 1 0 true (.object "MoonOverTheHill$Few") := ⟨RX1, TX1, 4, tyX1, rfl, wsin_X1, Nat.le_of_ble_eq_true rfl, w_116, tyX1_ok, nmX1, rfl, by decide +kernel, fun _ => rfl⟩
theorem lp_X1_20 : LkP RX1 20 1 1 true (.object "MoonOverTheHill$Few") := ⟨RX1, TX1, 4, tyX1, rfl, wsin_X1, Nat.le_of_ble_eq_true rfl, w_117, tyX1_ok, nmX1, rfl, by decide +kernel, fun _ => rfl⟩
theorem lp_X1_23 : LkP RX1 23 1 2 true (.object "MoonOverTheHill$Few") := ⟨RX1, TX1, 4, tyX1, rfl, wsin_X1, Nat.le_of_ble_eq_true rfl, w_118, tyX1_ok, nmX1, rfl, by decide +kernel, fun _ => rfl⟩
theorem lp_X1_26 : LkP RX1 26 1 3 true (.array .int) := ⟨RX1, TX1, 4, tyX1, rfl, wsin_X1, Nat.le_of_ble_eq_true rfl, w_119, tyX1_ok, nmX1, rfl, by decide +kernel, fun _ => rfl⟩
theorem w_183 : (Jvm.Cond.methodLink "MoonOverTheHill$Moon" (3 : Nat) ({ cls := "java/lang/Object", name := "<init>", desc := "()V" } : Jvm.MethodName)) ∈ ALL := inT_1 123 rfl rfl
theorem lo_X2_3 : LkO RX2 3 := ⟨w_183, w_85, w_86⟩
theorem lp_X2_9 : LkP RX2 9 2 0 true (.object "MoonOverTheHill$State") := ⟨RX2, TX2, 1, tyX2, rfl, wsin_X2, Nat.le_of_ble_eq_true rfl, w_184, tyX2_ok, nmX2, rfl, by decide +kernel, fun _ => rfl⟩
theorem w_218 : (Jvm.Cond.methodLink "MoonOverTheHill$Places" (3 : Nat) ({ cls := "java/lang/Object", name := "<init>", desc := "()V" } : Jvm.MethodName)) ∈ ALL := inT_1 158 rfl rfl
theorem lo_X3_3 : LkO RX3 3 := ⟨w_218, w_85, w_86⟩
theorem ks_181 : (Int16.ofInt (181)).toInt32 = (181 : Int32) := by decide
theorem knn_181 : (¬ (181 : Int32) < 0) ∧ Int32.toNatClampNeg (181 : Int32) = 181 := by decide
theorem lp_X3_9 : LkP RX3 9 3 0 true (.array .int) := ⟨RX3, TX3, 1, tyX3, rfl, wsin_X3, Nat.le_of_ble_eq_true rfl, w_219, tyX3_ok, nmX3, rfl, by decide +kernel, fun _ => rfl⟩
theorem w_229 : (Jvm.Cond.methodLink "MoonOverTheHill$Shelf" (3 : Nat) ({ cls := "java/lang/Object", name := "<init>", desc := "()V" } : Jvm.MethodName)) ∈ ALL := inT_1 169 rfl rfl
theorem lo_X5_3 : LkO RX5 3 := ⟨w_229, w_85, w_86⟩
theorem w_243 : (Jvm.Cond.arrayClass Jvm.ClassFile.FieldType.long) ∈ ALL := inT_1 183 rfl rfl
theorem aC_long : Cond.arrayClass (newarray.typeOf .long) ∈ ALL := w_243
theorem lp_X5_11 : LkP RX5 11 5 0 true (.array .long) := ⟨RX5, TX5, 4, tyX5, rfl, wsin_X5, Nat.le_of_ble_eq_true rfl, w_230, tyX5_ok, nmX5, rfl, by decide +kernel, fun _ => rfl⟩
theorem w_193 : (Jvm.Cond.methodLink "MoonOverTheHill$Tape" (3 : Nat) ({ cls := "java/lang/Object", name := "<init>", desc := "()V" } : Jvm.MethodName)) ∈ ALL := inT_1 133 rfl rfl
theorem lo_X7_3 : LkO RX7 3 := ⟨w_193, w_85, w_86⟩
theorem knn_250 : (¬ (250 : Int32) < 0) ∧ Int32.toNatClampNeg (250 : Int32) = 250 := by decide
theorem lp_X7_11 : LkP RX7 11 7 0 true (.array .int) := ⟨RX7, TX7, 6, tyX7, rfl, wsin_X7, Nat.le_of_ble_eq_true rfl, w_194, tyX7_ok, nmX7, rfl, by decide +kernel, fun _ => rfl⟩
theorem w_92 : (Jvm.Cond.methodLink "MoonOverTheHill$State" (3 : Nat) ({ cls := "java/lang/Object", name := "<init>", desc := "()V" } : Jvm.MethodName)) ∈ ALL := inT_1 32 rfl rfl
theorem lo_X6_3 : LkO RX6 3 := ⟨w_92, w_85, w_86⟩
theorem w_93 : (Jvm.Cond.classLink "MoonOverTheHill$State" (15 : Nat) "MoonOverTheHill$Hill") ∈ ALL := inT_1 33 rfl rfl
theorem w_94 : (Jvm.Cond.instantiable "MoonOverTheHill$Hill" (4 : Nat)) ∈ ALL := inT_1 34 rfl rfl
theorem ln_X6_15 : LkN RX6 15 1 4 [.null, .null, .null, .null] := ⟨RX1, TX1, tyX1, rfl, wsin_X1, tyX1_ok, w_93, w_94, w_63, by decide +kernel⟩
theorem w_96 : (Jvm.Cond.instanceMethod ({ cls := "MoonOverTheHill$Hill", name := "<init>", desc := "()V" } : Jvm.MethodName)) ∈ ALL := inT_1 36 rfl rfl
theorem lk_X6_17 : LkIN RX6 17 m_X1_init 0 "MoonOverTheHill" := ⟨⟨by decide +kernel, (List.forall_mem_cons.mpr ⟨w_96, (List.forall_mem_cons.mpr ⟨w_63, (List.forall_mem_nil _)⟩)⟩)⟩, gy_X1_init, rfl, rfl⟩
theorem lp_X6_18 : LkP RX6 18 6 4 true (.object "MoonOverTheHill$Hill") := ⟨RX6, TX6, 10, tyX6, rfl, wsin_X6, Nat.le_of_ble_eq_true rfl, w_140, tyX6_ok, nmX6, rfl, by decide +kernel, fun _ => rfl⟩
theorem w_129 : (Jvm.Cond.classLink "MoonOverTheHill$State" (22 : Nat) "MoonOverTheHill$Few") ∈ ALL := inT_1 69 rfl rfl
theorem ln_X6_22 : LkN RX6 22 0 2 [.null, .int 0] := ⟨RX0, TX0, tyX0, rfl, wsin_X0, tyX0_ok, w_129, w_100, w_64, by decide +kernel⟩
theorem w_130 : (Jvm.Cond.methodLink "MoonOverTheHill$State" (24 : Nat) ({ cls := "MoonOverTheHill$Few", name := "<init>", desc := "(I)V" } : Jvm.MethodName)) ∈ ALL := inT_1 70 rfl rfl
theorem lk_X6_24 : LkI RX6 24 m_X0_init 1 := ⟨(List.forall_mem_cons.mpr ⟨w_130, (List.forall_mem_cons.mpr ⟨w_102, (List.forall_mem_cons.mpr ⟨w_64, (List.forall_mem_nil _)⟩)⟩)⟩), gy_X0_init, rfl, rfl⟩
theorem lp_X6_27 : LkP RX6 27 6 5 true (.object "MoonOverTheHill$Few") := ⟨RX6, TX6, 10, tyX6, rfl, wsin_X6, Nat.le_of_ble_eq_true rfl, w_144, tyX6_ok, nmX6, rfl, by decide +kernel, fun _ => rfl⟩
theorem lp_X6_31 : LkP RX6 31 6 6 true (.object "MoonOverTheHill$Few") := ⟨RX6, TX6, 10, tyX6, rfl, wsin_X6, Nat.le_of_ble_eq_true rfl, w_147, tyX6_ok, nmX6, rfl, by decide +kernel, fun _ => rfl⟩
theorem w_84 : (Jvm.Cond.methodLink "MoonOverTheHill" (1 : Nat) ({ cls := "java/lang/Object", name := "<init>", desc := "()V" } : Jvm.MethodName)) ∈ ALL := inT_1 24 rfl rfl
theorem lo_X8_1 : LkO RX8 1 := ⟨w_84, w_85, w_86⟩
theorem w_87 : (Jvm.Cond.classLink "MoonOverTheHill" (7 : Nat) "MoonOverTheHill$State") ∈ ALL := inT_1 27 rfl rfl
theorem w_88 : (Jvm.Cond.instantiable "MoonOverTheHill$State" (10 : Nat)) ∈ ALL := inT_1 28 rfl rfl
theorem ln_X8_7 : LkN RX8 7 6 10 [.int 0, .int 0, .int 0, .int 0, .null, .null, .null, .int 0, .int 0, .int 0] := ⟨RX6, TX6, tyX6, rfl, wsin_X6, tyX6_ok, w_87, w_88, w_62, by decide +kernel⟩
theorem w_90 : (Jvm.Cond.instanceMethod ({ cls := "MoonOverTheHill$State", name := "<init>", desc := "()V" } : Jvm.MethodName)) ∈ ALL := inT_1 30 rfl rfl
theorem lk_X8_9 : LkIN RX8 9 m_X6_init 0 "MoonOverTheHill" := ⟨⟨by decide +kernel, (List.forall_mem_cons.mpr ⟨w_90, (List.forall_mem_cons.mpr ⟨w_62, (List.forall_mem_nil _)⟩)⟩)⟩, gy_X6_init, rfl, rfl⟩
theorem lp_X8_10 : LkP RX8 10 8 0 true (.object "MoonOverTheHill$State") := ⟨RX8, TX8, 9, tyX8, rfl, wsin_X8, Nat.le_of_ble_eq_true rfl, w_244, tyX8_ok, nmX8, rfl, by decide +kernel, fun _ => rfl⟩
theorem lp_X8_16 : LkP RX8 16 8 1 true (.object "MoonOverTheHill$State") := ⟨RX8, TX8, 9, tyX8, rfl, wsin_X8, Nat.le_of_ble_eq_true rfl, w_245, tyX8_ok, nmX8, rfl, by decide +kernel, fun _ => rfl⟩
theorem lp_X8_19 : LkP RX8 19 8 2 true (.object "MoonOverTheHill$State") := ⟨RX8, TX8, 9, tyX8, rfl, wsin_X8, Nat.le_of_ble_eq_true rfl, w_246, tyX8_ok, nmX8, rfl, by decide +kernel, fun _ => rfl⟩
theorem w_178 : (Jvm.Cond.classLink "MoonOverTheHill" (22 : Nat) "MoonOverTheHill$Moon") ∈ ALL := inT_1 118 rfl rfl
theorem w_179 : (Jvm.Cond.instantiable "MoonOverTheHill$Moon" (1 : Nat)) ∈ ALL := inT_1 119 rfl rfl
theorem ln_X8_22 : LkN RX8 22 2 1 [.null] := ⟨RX2, TX2, tyX2, rfl, wsin_X2, tyX2_ok, w_178, w_179, w_66, by decide +kernel⟩
theorem w_181 : (Jvm.Cond.instanceMethod ({ cls := "MoonOverTheHill$Moon", name := "<init>", desc := "(LMoonOverTheHill$State;)V" } : Jvm.MethodName)) ∈ ALL := inT_1 121 rfl rfl
theorem w_180 : (Jvm.Cond.methodLink "MoonOverTheHill" (24 : Nat) ({ cls := "MoonOverTheHill$Moon", name := "<init>", desc := "(LMoonOverTheHill$State;)V" } : Jvm.MethodName)) ∈ ALL := inT_1 120 rfl rfl
theorem lk_X8_24 : LkI RX8 24 m_X2_init 1 := ⟨(List.forall_mem_cons.mpr ⟨w_180, (List.forall_mem_cons.mpr ⟨w_181, (List.forall_mem_cons.mpr ⟨w_66, (List.forall_mem_nil _)⟩)⟩)⟩), gy_X2_init, rfl, rfl⟩
theorem lp_X8_27 : LkP RX8 27 8 3 true (.object "MoonOverTheHill$Moon") := ⟨RX8, TX8, 9, tyX8, rfl, wsin_X8, Nat.le_of_ble_eq_true rfl, w_247, tyX8_ok, nmX8, rfl, by decide +kernel, fun _ => rfl⟩
theorem w_188 : (Jvm.Cond.classLink "MoonOverTheHill" (31 : Nat) "MoonOverTheHill$Tape") ∈ ALL := inT_1 128 rfl rfl
theorem w_189 : (Jvm.Cond.instantiable "MoonOverTheHill$Tape" (6 : Nat)) ∈ ALL := inT_1 129 rfl rfl
theorem ln_X8_31 : LkN RX8 31 7 6 [.null, .int 0, .int 0, .int 0, .int 0, .int 0] := ⟨RX7, TX7, tyX7, rfl, wsin_X7, tyX7_ok, w_188, w_189, w_67, by decide +kernel⟩
theorem w_191 : (Jvm.Cond.instanceMethod ({ cls := "MoonOverTheHill$Tape", name := "<init>", desc := "()V" } : Jvm.MethodName)) ∈ ALL := inT_1 131 rfl rfl
theorem lk_X8_33 : LkIN RX8 33 m_X7_init 0 "MoonOverTheHill" := ⟨⟨by decide +kernel, (List.forall_mem_cons.mpr ⟨w_191, (List.forall_mem_cons.mpr ⟨w_67, (List.forall_mem_nil _)⟩)⟩)⟩, gy_X7_init, rfl, rfl⟩
theorem lp_X8_34 : LkP RX8 34 8 4 true (.object "MoonOverTheHill$Tape") := ⟨RX8, TX8, 9, tyX8, rfl, wsin_X8, Nat.le_of_ble_eq_true rfl, w_248, tyX8_ok, nmX8, rfl, by decide +kernel, fun _ => rfl⟩
theorem w_213 : (Jvm.Cond.classLink "MoonOverTheHill" (38 : Nat) "MoonOverTheHill$Places") ∈ ALL := inT_1 153 rfl rfl
theorem w_214 : (Jvm.Cond.instantiable "MoonOverTheHill$Places" (1 : Nat)) ∈ ALL := inT_1 154 rfl rfl
theorem ln_X8_38 : LkN RX8 38 3 1 [.null] := ⟨RX3, TX3, tyX3, rfl, wsin_X3, tyX3_ok, w_213, w_214, w_68, by decide +kernel⟩
theorem w_216 : (Jvm.Cond.instanceMethod ({ cls := "MoonOverTheHill$Places", name := "<init>", desc := "()V" } : Jvm.MethodName)) ∈ ALL := inT_1 156 rfl rfl
theorem lk_X8_40 : LkIN RX8 40 m_X3_init 0 "MoonOverTheHill" := ⟨⟨by decide +kernel, (List.forall_mem_cons.mpr ⟨w_216, (List.forall_mem_cons.mpr ⟨w_68, (List.forall_mem_nil _)⟩)⟩)⟩, gy_X3_init, rfl, rfl⟩
theorem lp_X8_41 : LkP RX8 41 8 5 true (.object "MoonOverTheHill$Places") := ⟨RX8, TX8, 9, tyX8, rfl, wsin_X8, Nat.le_of_ble_eq_true rfl, w_249, tyX8_ok, nmX8, rfl, by decide +kernel, fun _ => rfl⟩
theorem w_223 : (Jvm.Cond.classLink "MoonOverTheHill" (45 : Nat) "MoonOverTheHill$Shelf") ∈ ALL := inT_1 163 rfl rfl
theorem knn_8 : (¬ (8 : Int32) < 0) ∧ Int32.toNatClampNeg (8 : Int32) = 8 := by decide
theorem lp_X8_47 : LkP RX8 47 8 6 true (.array (.object "MoonOverTheHill$Shelf")) := ⟨RX8, TX8, 9, tyX8, rfl, wsin_X8, Nat.le_of_ble_eq_true rfl, w_250, tyX8_ok, nmX8, rfl, by decide +kernel, fun _ => rfl⟩
theorem knn_5 : (¬ (5 : Int32) < 0) ∧ Int32.toNatClampNeg (5 : Int32) = 5 := by decide
theorem lp_X8_51 : LkP RX8 51 8 7 true (.array .int) := ⟨RX8, TX8, 9, tyX8, rfl, wsin_X8, Nat.le_of_ble_eq_true rfl, w_251, tyX8_ok, nmX8, rfl, by decide +kernel, fun _ => rfl⟩
theorem w_225 : (Jvm.Cond.instantiable "MoonOverTheHill$Shelf" (4 : Nat)) ∈ ALL := inT_1 165 rfl rfl
theorem ln_X8_45 : LkN RX8 45 5 4 [.null, .int 0, .int 0, .int 0] := ⟨RX5, TX5, tyX5, rfl, wsin_X5, tyX5_ok, w_223, w_225, w_69, by decide +kernel⟩
theorem w_227 : (Jvm.Cond.instanceMethod ({ cls := "MoonOverTheHill$Shelf", name := "<init>", desc := "()V" } : Jvm.MethodName)) ∈ ALL := inT_1 167 rfl rfl
theorem lk_X8_55 : LkIN RX8 55 m_X5_init 0 "MoonOverTheHill" := ⟨⟨by decide +kernel, (List.forall_mem_cons.mpr ⟨w_227, (List.forall_mem_cons.mpr ⟨w_69, (List.forall_mem_nil _)⟩)⟩)⟩, gy_X5_init, rfl, rfl⟩
theorem w_1128 : (Jvm.Cond.methodLink "MoonOverTheHillModel" (1 : Nat) ({ cls := "java/lang/Object", name := "<init>", desc := "()V" } : Jvm.MethodName)) ∈ ALL := inT_5 108 rfl rfl
theorem lo_X9_1 : LkO RX9 1 := ⟨w_1128, w_85, w_86⟩
theorem lp_X9_7 : LkP RX9 7 9 0 true (.array .int) := ⟨RX9, TX9, 29, tyX9, rfl, wsin_X9, Nat.le_of_ble_eq_true rfl, w_1133, tyX9_ok, nmX9, rfl, by decide +kernel, fun _ => rfl⟩
theorem lp_X9_13 : LkP RX9 13 9 1 true (.array .int) := ⟨RX9, TX9, 29, tyX9, rfl, wsin_X9, Nat.le_of_ble_eq_true rfl, w_1134, tyX9_ok, nmX9, rfl, by decide +kernel, fun _ => rfl⟩
theorem lp_X9_16 : LkP RX9 16 9 2 true (.array .int) := ⟨RX9, TX9, 29, tyX9, rfl, wsin_X9, Nat.le_of_ble_eq_true rfl, w_1135, tyX9_ok, nmX9, rfl, by decide +kernel, fun _ => rfl⟩
theorem w_1129 : (Jvm.Cond.classLink "MoonOverTheHillModel" (19 : Nat) "[[J") ∈ ALL := inT_5 109 rfl rfl
theorem lp_X9_21 : LkP RX9 21 9 3 true (.array (.array .long)) := ⟨RX9, TX9, 29, tyX9, rfl, wsin_X9, Nat.le_of_ble_eq_true rfl, w_1136, tyX9_ok, nmX9, rfl, by decide +kernel, fun _ => rfl⟩
theorem lp_X9_24 : LkP RX9 24 9 4 true (.array .long) := ⟨RX9, TX9, 29, tyX9, rfl, wsin_X9, Nat.le_of_ble_eq_true rfl, w_1137, tyX9_ok, nmX9, rfl, by decide +kernel, fun _ => rfl⟩
theorem lp_X9_28 : LkP RX9 28 9 5 true (.array .int) := ⟨RX9, TX9, 29, tyX9, rfl, wsin_X9, Nat.le_of_ble_eq_true rfl, w_1138, tyX9_ok, nmX9, rfl, by decide +kernel, fun _ => rfl⟩
theorem lp_X9_31 : LkP RX9 31 9 6 true (.array .int) := ⟨RX9, TX9, 29, tyX9, rfl, wsin_X9, Nat.le_of_ble_eq_true rfl, w_1139, tyX9_ok, nmX9, rfl, by decide +kernel, fun _ => rfl⟩
theorem lp_X9_34 : LkP RX9 34 9 7 true (.array .int) := ⟨RX9, TX9, 29, tyX9, rfl, wsin_X9, Nat.le_of_ble_eq_true rfl, w_1140, tyX9_ok, nmX9, rfl, by decide +kernel, fun _ => rfl⟩
theorem lp_X9_37 : LkP RX9 37 9 9 true (.array .int) := ⟨RX9, TX9, 29, tyX9, rfl, wsin_X9, Nat.le_of_ble_eq_true rfl, w_1142, tyX9_ok, nmX9, rfl, by decide +kernel, fun _ => rfl⟩
theorem knn_4 : (¬ (4 : Int32) < 0) ∧ Int32.toNatClampNeg (4 : Int32) = 4 := by decide
theorem lp_X9_40 : LkP RX9 40 9 10 true (.array .int) := ⟨RX9, TX9, 29, tyX9, rfl, wsin_X9, Nat.le_of_ble_eq_true rfl, w_1143, tyX9_ok, nmX9, rfl, by decide +kernel, fun _ => rfl⟩
theorem w_1131 : (Jvm.Cond.classLink "MoonOverTheHillModel" (43 : Nat) "[[I") ∈ ALL := inT_5 111 rfl rfl
theorem knn_3 : (¬ (3 : Int32) < 0) ∧ Int32.toNatClampNeg (3 : Int32) = 3 := by decide
theorem lp_X9_45 : LkP RX9 45 9 12 true (.array (.array .int)) := ⟨RX9, TX9, 29, tyX9, rfl, wsin_X9, Nat.le_of_ble_eq_true rfl, w_1145, tyX9_ok, nmX9, rfl, by decide +kernel, fun _ => rfl⟩
theorem knn_6 : (¬ (6 : Int32) < 0) ∧ Int32.toNatClampNeg (6 : Int32) = 6 := by decide
theorem lp_X9_48 : LkP RX9 48 9 14 true (.array .int) := ⟨RX9, TX9, 29, tyX9, rfl, wsin_X9, Nat.le_of_ble_eq_true rfl, w_1147, tyX9_ok, nmX9, rfl, by decide +kernel, fun _ => rfl⟩
theorem lp_X9_51 : LkP RX9 51 9 16 true (.array .int) := ⟨RX9, TX9, 29, tyX9, rfl, wsin_X9, Nat.le_of_ble_eq_true rfl, w_1149, tyX9_ok, nmX9, rfl, by decide +kernel, fun _ => rfl⟩
theorem lp_X9_58 : LkP RX9 58 9 27 true (.array .int) := ⟨RX9, TX9, 29, tyX9, rfl, wsin_X9, Nat.le_of_ble_eq_true rfl, w_1160, tyX9_ok, nmX9, rfl, by decide +kernel, fun _ => rfl⟩
def FWZ : FW := (fun _ => 0, 0)
def HLZ : HL := (FWZ, FWZ, FWZ, fun _ => 0)
def STZ : ST := (0, 0, 0, 3, HLZ, FWZ, FWZ, 0, 0, 1)
def SHZ : SH := (fun _ => 0, -1, 0, 0)
def TPZ : TP := (fun _ => 0, 0, 0, 0, 0, 0)
def XSZ : XS := (STZ, STZ, STZ, TPZ, fun _ => 0, fun _ => SHZ, fun _ => 0, false)
def MSZ : MS := (fun _ => 0, fun _ => 0, fun _ => 0, fun _ _ => 0, fun _ => 0, fun _ => 0, fun _ => 0, fun _ => 0, 0, fun _ => 0, upd (fun _ => 0) (Int32.toNatClampNeg (3 : Int32)) (3 : Int32), 0, fun _ _ => 0, 0, fun _ => 0, 0, fun _ => 0, 0, 0, 1, none, none, 0, 0, 0, 0, 0, fun _ => 0, 0)
set_option maxHeartbeats 4000000 in
set_option maxRecDepth 100000 in
theorem c_X0_init_8 (D : va_G) (cA : Nat → ClassId) (q : Nat) : RW m_X0_init 1 1 8 D cA [.ref (q), .int (8 : Int32)] [(q, .inr (0, [.null, .int (0 : Int32)]))] (nvW (fun w => ∃ n0 : Nat, w = [(q, .inr (0, [.ref (n0), .int (0 : Int32)])), (n0, .inl (cA 0, 8, .inl (fun _ => 0)))])) := by
  refine RW.ofW gy_X0_init.2.2 (Nat.le_of_ble_eq_true rfl) ?_
  intro l p e sM m below meth c A H locs F hr hlk hnm hK hP hD hS hA hAb ls hl
  have hl : lv_has ls 2 [(0, .ref (q)), (1, .int (8 : Int32))] := hl
  refine lv_aload_n F.1 F.2.1 (dd D_X0_init 0 rfl) rfl (lv_at hl 0 rfl) ?_
  refine oinit F lo_X0_3 hl (Nat.le_of_ble_eq_true rfl) (Nat.le_of_ble_eq_true rfl) (dd D_X0_init 1 rfl) ?_
  refine lv_aload_n F.1 F.2.1 (dd D_X0_init 2 rfl) rfl (lv_at hl 0 rfl) ?_
  refine lv_iload_n F.1 F.2.1 (dd D_X0_init 3 rfl) rfl (lv_at hl 1 rfl) ?_
  refine lv_iconst (v := (0 : Int32)) F.1 F.2.1 (dd D_X0_init 4 rfl) ki_0 ?_
  refine ro_go (st' := [.int (F_J9_max_7cf53 (8 : Int32) (0 : Int32)), .ref (q)]) (rS (rest := [.ref (q)]) F (c_J9_max_7cf53 D cA (8 : Int32) (0 : Int32) l) lk_X0_9 (Nat.le_of_ble_eq_true rfl) (preRO hK hS hAb (emP)) rfl hl rfl (Nat.le_of_ble_eq_true rfl) (dd D_X0_init 5 rfl) ⟨Nat.le_of_ble_eq_true rfl, Nat.le_of_ble_eq_true rfl⟩) rfl ?_
  refine newA (t0 := 0) (ty := .int) F hK hP hD hS hA aC_int rfl rfl ra_int (vc_int _) kmx_8.1 kmx_8.2 (Nat.le_of_ble_eq_true rfl) (Nat.le_of_ble_eq_true rfl) (Nat.le_of_ble_eq_true rfl) (dd D_X0_init 6 rfl) (fun q1 H hP hD hS => ?_)
  refine putFF F hnm hK hP hD hS lp_X0_15 (0) rfl (Nat.le_of_ble_eq_true rfl) rfl rfl (ws' := [(q, .inr (0, [.ref (q1), .int (0 : Int32)])), (q1, .inl (cA 0, 8, .inl (fun _ => 0)))]) rfl (dd D_X0_init 7 rfl) (fun H locs hP hD hS => ?_)
  exact rw_v (R := rmOf 1 1 8) F hP hD hS hr hlk ⟨(Nat.le_of_ble_eq_true rfl), (Nat.le_of_ble_eq_true rfl)⟩ ⟨rfl, q1, rfl⟩ (dd D_X0_init 8 rfl)
set_option maxHeartbeats 4000000 in
set_option maxRecDepth 100000 in
theorem c_X0_init_6 (D : va_G) (cA : Nat → ClassId) (q : Nat) : RW m_X0_init 1 1 6 D cA [.ref (q), .int (6 : Int32)] [(q, .inr (0, [.null, .int (0 : Int32)]))] (nvW (fun w => ∃ n0 : Nat, w = [(q, .inr (0, [.ref (n0), .int (0 : Int32)])), (n0, .inl (cA 0, 6, .inl (fun _ => 0)))])) := by
  refine RW.ofW gy_X0_init.2.2 (Nat.le_of_ble_eq_true rfl) ?_
  intro l p e sM m below meth c A H locs F hr hlk hnm hK hP hD hS hA hAb ls hl
  have hl : lv_has ls 2 [(0, .ref (q)), (1, .int (6 : Int32))] := hl
  refine lv_aload_n F.1 F.2.1 (dd D_X0_init 0 rfl) rfl (lv_at hl 0 rfl) ?_
  refine oinit F lo_X0_3 hl (Nat.le_of_ble_eq_true rfl) (Nat.le_of_ble_eq_true rfl) (dd D_X0_init 1 rfl) ?_
  refine lv_aload_n F.1 F.2.1 (dd D_X0_init 2 rfl) rfl (lv_at hl 0 rfl) ?_
  refine lv_iload_n F.1 F.2.1 (dd D_X0_init 3 rfl) rfl (lv_at hl 1 rfl) ?_
  refine lv_iconst (v := (0 : Int32)) F.1 F.2.1 (dd D_X0_init 4 rfl) ki_0 ?_
  refine ro_go (st' := [.int (F_J9_max_7cf53 (6 : Int32) (0 : Int32)), .ref (q)]) (rS (rest := [.ref (q)]) F (c_J9_max_7cf53 D cA (6 : Int32) (0 : Int32) l) lk_X0_9 (Nat.le_of_ble_eq_true rfl) (preRO hK hS hAb (emP)) rfl hl rfl (Nat.le_of_ble_eq_true rfl) (dd D_X0_init 5 rfl) ⟨Nat.le_of_ble_eq_true rfl, Nat.le_of_ble_eq_true rfl⟩) rfl ?_
  refine newA (t0 := 0) (ty := .int) F hK hP hD hS hA aC_int rfl rfl ra_int (vc_int _) kmx_6.1 kmx_6.2 (Nat.le_of_ble_eq_true rfl) (Nat.le_of_ble_eq_true rfl) (Nat.le_of_ble_eq_true rfl) (dd D_X0_init 6 rfl) (fun q1 H hP hD hS => ?_)
  refine putFF F hnm hK hP hD hS lp_X0_15 (0) rfl (Nat.le_of_ble_eq_true rfl) rfl rfl (ws' := [(q, .inr (0, [.ref (q1), .int (0 : Int32)])), (q1, .inl (cA 0, 6, .inl (fun _ => 0)))]) rfl (dd D_X0_init 7 rfl) (fun H locs hP hD hS => ?_)
  exact rw_v (R := rmOf 1 1 6) F hP hD hS hr hlk ⟨(Nat.le_of_ble_eq_true rfl), (Nat.le_of_ble_eq_true rfl)⟩ ⟨rfl, q1, rfl⟩ (dd D_X0_init 8 rfl)
set_option maxHeartbeats 4000000 in
set_option maxRecDepth 100000 in
theorem c_X1_init (D : va_G) (cA : Nat → ClassId) (q : Nat) : RW m_X1_init 2 7 210 D cA [.ref (q)] [(q, .inr (1, [.null, .null, .null, .null]))] (nvW (fun w => ∃ n0 : Nat, ∃ n1 : Nat, ∃ n2 : Nat, ∃ n3 : Nat, ∃ n4 : Nat, ∃ n5 : Nat, ∃ n6 : Nat, w = [(q, .inr (1, [.ref (n0), .ref (n2), .ref (n4), .ref (n6)])), (n0, .inr (0, [.ref (n1), .int (0 : Int32)])), (n1, .inl (cA 0, 8, .inl (fun _ => 0))), (n2, .inr (0, [.ref (n3), .int (0 : Int32)])), (n3, .inl (cA 0, 8, .inl (fun _ => 0))), (n4, .inr (0, [.ref (n5), .int (0 : Int32)])), (n5, .inl (cA 0, 8, .inl (fun _ => 0))), (n6, .inl (cA 0, 180, .inl (fun _ => 0)))])) := by
  refine RW.ofW gy_X1_init.2.2 (Nat.le_of_ble_eq_true rfl) ?_
  intro l p e sM m below meth c A H locs F hr hlk hnm hK hP hD hS hA hAb ls hl
  have hl : lv_has ls 1 [(0, .ref (q))] := hl
  refine lv_aload_n F.1 F.2.1 (dd D_X1_init 0 rfl) rfl (lv_at hl 0 rfl) ?_
  refine oinit F lo_X1_3 hl (Nat.le_of_ble_eq_true rfl) (Nat.le_of_ble_eq_true rfl) (dd D_X1_init 1 rfl) ?_
  refine lv_aload_n F.1 F.2.1 (dd D_X1_init 2 rfl) rfl (lv_at hl 0 rfl) ?_
  refine newO F hK hP hD hS hA ln_X1_9 (Nat.le_of_ble_eq_true rfl) (Nat.le_of_ble_eq_true rfl) (dd D_X1_init 3 rfl) (fun q1 H hP hD hS => ?_)
  refine lv_dup F.1 F.2.1 (dd D_X1_init 4 rfl) rfl ?_
  refine lv_bipush (v := (8 : Int32)) F.1 F.2.1 (dd D_X1_init 5 rfl) kb_8 ?_
  refine rw_last hP hD hA hS (rI (rest := [.ref (q1), .ref (q)]) F (c_X0_init_8 D cA q1 l H.size) lk_X1_13 (Nat.le_of_ble_eq_true rfl) (preRW hK hS hAb (sufP hP) (sufD hD)) rfl hl rfl (Nat.le_of_ble_eq_true rfl) (dd D_X1_init 6 rfl) ⟨(Nat.le_of_ble_eq_true rfl), (Nat.le_of_ble_eq_true rfl)⟩) ?_
  rintro S3 H locs ⟨q2, rfl⟩ hP hD hS
  replace hP : va_P D vwCl [(q, .inr (1, [.null, .null, .null, .null])), (q1, .inr (0, [.ref (q2), .int (0 : Int32)])), (q2, .inl (cA 0, 8, .inl (fun _ => 0)))] H := hP
  replace hD : va_D A [(q, .inr (1, [.null, .null, .null, .null])), (q1, .inr (0, [.ref (q2), .int (0 : Int32)])), (q2, .inl (cA 0, 8, .inl (fun _ => 0)))] := hD
  refine putFF F hnm hK hP hD hS lp_X1_16 (0) rfl (Nat.le_of_ble_eq_true rfl) rfl rfl (ws' := [(q, .inr (1, [.ref (q1), .null, .null, .null])), (q1, .inr (0, [.ref (q2), .int (0 : Int32)])), (q2, .inl (cA 0, 8, .inl (fun _ => 0)))]) rfl (dd D_X1_init 7 rfl) (fun H locs hP hD hS => ?_)
  refine lv_aload_n F.1 F.2.1 (dd D_X1_init 8 rfl) rfl (lv_at hl 0 rfl) ?_
  refine newO F hK hP hD hS hA ln_X1_9 (Nat.le_of_ble_eq_true rfl) (Nat.le_of_ble_eq_true rfl) (dd D_X1_init 9 rfl) (fun q4 H hP hD hS => ?_)
  refine lv_dup F.1 F.2.1 (dd D_X1_init 10 rfl) rfl ?_
  refine lv_bipush (v := (8 : Int32)) F.1 F.2.1 (dd D_X1_init 11 rfl) kb_8 ?_
  refine rw_last hP hD hA hS (rI (rest := [.ref (q4), .ref (q)]) F (c_X0_init_8 D cA q4 l H.size) lk_X1_13 (Nat.le_of_ble_eq_true rfl) (preRW hK hS hAb (sufP hP) (sufD hD)) rfl hl rfl (Nat.le_of_ble_eq_true rfl) (dd D_X1_init 12 rfl) ⟨(Nat.le_of_ble_eq_true rfl), (Nat.le_of_ble_eq_true rfl)⟩) ?_
  rintro S6 H locs ⟨q5, rfl⟩ hP hD hS
  replace hP : va_P D vwCl [(q, .inr (1, [.ref (q1), .null, .null, .null])), (q1, .inr (0, [.ref (q2), .int (0 : Int32)])), (q2, .inl (cA 0, 8, .inl (fun _ => 0))), (q4, .inr (0, [.ref (q5), .int (0 : Int32)])), (q5, .inl (cA 0, 8, .inl (fun _ => 0)))] H := hP
  replace hD : va_D A [(q, .inr (1, [.ref (q1), .null, .null, .null])), (q1, .inr (0, [.ref (q2), .int (0 : Int32)])), (q2, .inl (cA 0, 8, .inl (fun _ => 0))), (q4, .inr (0, [.ref (q5), .int (0 : Int32)])), (q5, .inl (cA 0, 8, .inl (fun _ => 0)))] := hD
  refine putFF F hnm hK hP hD hS lp_X1_20 (0) rfl (Nat.le_of_ble_eq_true rfl) rfl rfl (ws' := [(q, .inr (1, [.ref (q1), .ref (q4), .null, .null])), (q1, .inr (0, [.ref (q2), .int (0 : Int32)])), (q2, .inl (cA 0, 8, .inl (fun _ => 0))), (q4, .inr (0, [.ref (q5), .int (0 : Int32)])), (q5, .inl (cA 0, 8, .inl (fun _ => 0)))]) rfl (dd D_X1_init 13 rfl) (fun H locs hP hD hS => ?_)
  refine lv_aload_n F.1 F.2.1 (dd D_X1_init 14 rfl) rfl (lv_at hl 0 rfl) ?_
  refine newO F hK hP hD hS hA ln_X1_9 (Nat.le_of_ble_eq_true rfl) (Nat.le_of_ble_eq_true rfl) (dd D_X1_init 15 rfl) (fun q7 H hP hD hS => ?_)
  refine lv_dup F.1 F.2.1 (dd D_X1_init 16 rfl) rfl ?_
  refine lv_bipush (v := (8 : Int32)) F.1 F.2.1 (dd D_X1_init 17 rfl) kb_8 ?_
  refine rw_last hP hD hA hS (rI (rest := [.ref (q7), .ref (q)]) F (c_X0_init_8 D cA q7 l H.size) lk_X1_13 (Nat.le_of_ble_eq_true rfl) (preRW hK hS hAb (sufP hP) (sufD hD)) rfl hl rfl (Nat.le_of_ble_eq_true rfl) (dd D_X1_init 18 rfl) ⟨(Nat.le_of_ble_eq_true rfl), (Nat.le_of_ble_eq_true rfl)⟩) ?_
  rintro S9 H locs ⟨q8, rfl⟩ hP hD hS
  replace hP : va_P D vwCl [(q, .inr (1, [.ref (q1), .ref (q4), .null, .null])), (q1, .inr (0, [.ref (q2), .int (0 : Int32)])), (q2, .inl (cA 0, 8, .inl (fun _ => 0))), (q4, .inr (0, [.ref (q5), .int (0 : Int32)])), (q5, .inl (cA 0, 8, .inl (fun _ => 0))), (q7, .inr (0, [.ref (q8), .int (0 : Int32)])), (q8, .inl (cA 0, 8, .inl (fun _ => 0)))] H := hP
  replace hD : va_D A [(q, .inr (1, [.ref (q1), .ref (q4), .null, .null])), (q1, .inr (0, [.ref (q2), .int (0 : Int32)])), (q2, .inl (cA 0, 8, .inl (fun _ => 0))), (q4, .inr (0, [.ref (q5), .int (0 : Int32)])), (q5, .inl (cA 0, 8, .inl (fun _ => 0))), (q7, .inr (0, [.ref (q8), .int (0 : Int32)])), (q8, .inl (cA 0, 8, .inl (fun _ => 0)))] := hD
  refine putFF F hnm hK hP hD hS lp_X1_23 (0) rfl (Nat.le_of_ble_eq_true rfl) rfl rfl (ws' := [(q, .inr (1, [.ref (q1), .ref (q4), .ref (q7), .null])), (q1, .inr (0, [.ref (q2), .int (0 : Int32)])), (q2, .inl (cA 0, 8, .inl (fun _ => 0))), (q4, .inr (0, [.ref (q5), .int (0 : Int32)])), (q5, .inl (cA 0, 8, .inl (fun _ => 0))), (q7, .inr (0, [.ref (q8), .int (0 : Int32)])), (q8, .inl (cA 0, 8, .inl (fun _ => 0)))]) rfl (dd D_X1_init 19 rfl) (fun H locs hP hD hS => ?_)
  refine lv_aload_n F.1 F.2.1 (dd D_X1_init 20 rfl) rfl (lv_at hl 0 rfl) ?_
  refine lv_sipush (v := (180 : Int32)) F.1 F.2.1 (dd D_X1_init 21 rfl) ks_180 ?_
  refine newA (t0 := 0) (ty := .int) F hK hP hD hS hA aC_int rfl rfl ra_int (vc_int _) knn_180.1 knn_180.2 (Nat.le_of_ble_eq_true rfl) (Nat.le_of_ble_eq_true rfl) (Nat.le_of_ble_eq_true rfl) (dd D_X1_init 22 rfl) (fun q10 H hP hD hS => ?_)
  refine putFF F hnm hK hP hD hS lp_X1_26 (0) rfl (Nat.le_of_ble_eq_true rfl) rfl rfl (ws' := [(q, .inr (1, [.ref (q1), .ref (q4), .ref (q7), .ref (q10)])), (q1, .inr (0, [.ref (q2), .int (0 : Int32)])), (q2, .inl (cA 0, 8, .inl (fun _ => 0))), (q4, .inr (0, [.ref (q5), .int (0 : Int32)])), (q5, .inl (cA 0, 8, .inl (fun _ => 0))), (q7, .inr (0, [.ref (q8), .int (0 : Int32)])), (q8, .inl (cA 0, 8, .inl (fun _ => 0))), (q10, .inl (cA 0, 180, .inl (fun _ => 0)))]) rfl (dd D_X1_init 23 rfl) (fun H locs hP hD hS => ?_)
  exact rw_v (R := rmOf 2 7 210) F hP hD hS hr hlk ⟨(Nat.le_of_ble_eq_true rfl), (Nat.le_of_ble_eq_true rfl)⟩ ⟨rfl, q1, q2, q4, q5, q7, q8, q10, rfl⟩ (dd D_X1_init 24 rfl)
