section XC
variable {p : Program} {l : Launch} {e : Env} {s : State} {m : MethodId} {args : Array Value} {below : List Frame} {meth : Method} {c : Code} {H : Heap} {locs : List Loc} {cells slots : Nat} {Q : State → Prop}
variable {cc : ByteArray} {pc nL : Nat} {ls : Array Slot} {rest st : List Value} {own : String} {D : va_G} {cA : Nat → ClassId} {A : Nat → Prop} {ws wc : va_W} {H0 : Heap}
variable {mi : MI} {d d' mc ms mcR msR n idx b : Nat} {As av : List Value} {v : Option Value} {Pc : Array Value → State → Prop} {Qc : Array Value → State → Outcome → State → Prop} {free : Addr → Prop} {lv : List (Nat × Value)}
def PreC (s : State) (H : Heap) (Pc : Array Value → State → Prop) (av : List Value) : Prop := FrameBlind Pc ∧ ∀ U : State, U.heap = H → s.WarmedH U.vm → Pc av.toArray U
theorem preRO (hK : KK D cA s) (hS : va_S A s.heap H locs) (hAb : ∀ q, A q → cA 9 ≤ q) (hP : va_P D vwCl wc H) : PreC s H (va_Pc av (fun U => va_P D vwCl wc U.heap ∧ KK D cA U)) av :=
  ⟨fun a U g mk q => by obtain ⟨q0, qP, qK⟩ := q; exact ⟨q0, qP, qK.call⟩, fun U hU hW => ⟨rfl, by rw [hU]; exact hP, hK.at hS hAb hU hW⟩⟩
theorem preRW (hK : KK D cA s) (hS : va_S A s.heap H locs) (hAb : ∀ q, A q → cA 9 ≤ q) (hP : va_P D vwCl wc H) (hD : va_D A wc) : PreC s H (va_Pc av (fun U => U.heap.size = H.size ∧ va_P D vwCl wc U.heap ∧ KK D cA U ∧ va_D (fun q => cA 9 ≤ q) wc)) av :=
  ⟨fun a U g mk q => by obtain ⟨q0, q1, qP, qK, qD⟩ := q; exact ⟨q0, q1, qP, qK.call, qD⟩, fun U hU hW => ⟨rfl, by rw [hU], by rw [hU]; exact hP, hK.at hS hAb hU hW, hD.weaken (fun _ q _ h => hAb q.1 h)⟩⟩
theorem room_ok {k : Nat} (hd : d' + 1 ≤ d) (hk : k ≤ 16) : (rmOf d' mc ms).frames + 1 ≤ (rmOf d mcR msR).frames ∧ 8 + (k + 11) + (rmOf d' mc ms).locals ≤ (rmOf d mcR msR).locals := ⟨hd, by show 8 + (k + 11) + 35 * d' ≤ 35 * d; omega⟩
theorem lkIn {ws : List Cond} (h : ∀ w ∈ ws, w ∈ ALL) (F : ∀ w ∈ ALL, w.before args s = true) {w : Cond} (hw : w ∈ ws) : w.before args s = true := F w (h w hw)
def Rcv (s : State) (H : Heap) (C : String) (b : Addr) : Prop := ∃ cellB : Cell, H[b]? = some cellB ∧ cellB.vm.isStatics = false ∧ s.vm.findClass C = some cellB.cls
theorem rcv {q0 ci : Nat} {fs : List Value} {r : vw_C} (hK : KK D cA s) (hP : va_P D vwCl ws H) (he : ws[q0]? = some (b, .inr (ci, fs))) (hc : vwCl[ci]? = some r) : Rcv s H r.1 b := va_recv hK.1 hP hc he
theorem rV (F : CallFix p m c cc nL s args ALL own) (hM : Met l mi.1 (wk mi) (rmOf d' mc ms) Pc Qc mc ms free) (lk : LkV own idx mi n) (hd : d' + 1 ≤ d) (hp : PreC s H Pc (.ref b :: As)) (hr : Rcv s H mi.1.cls b) (hn : As.length = n) (hls : lv_has ls nL lv) (hst : st = As.reverse ++ .ref b :: rest) (hcat : (rest.map fun v => v.category).sum ≤ 8) (hdg : decode cc pc = .ok (.invokevirtual idx, 3)) (hf : cells + mc ≤ mcR ∧ slots + ms ≤ msR) :
    va_Run p l e (rmOf d mcR msR) s m args below meth c H locs cells slots mc ms (F0 m pc ls st) rest (Qc (Value.ref b :: As).toArray) free := by
  obtain ⟨hl, h1, ⟨h2, h3, h4, h5⟩, -⟩ := lk
  have hG : GoodIn ALL (wsV own idx mi.1.cls mi.1 (wk mi)) := allGood (fun w hw => (List.mem_append.mp hw).elim (hl w) (wk_in h1 w))
  exact va_runV F hM (cwV (bytes := mi.2.1) (maxL := mi.2.2.1) (ret := mi.2.2.2) n F.2.2.2.2 hG rfl rfl rfl ⟨rfl, h2, h3, h4⟩ (room_ok hd h5)) ⟨hp.1, hr, hp.2⟩ rfl hn hls.1 hst (lv_room hcat) hdg hf
theorem rS (F : CallFix p m c cc nL s args ALL own) (hM : Met l mi.1 (wk mi) (rmOf d' mc ms) Pc Qc mc ms free) (lk : LkS own idx mi n) (hd : d' + 1 ≤ d) (hp : PreC s H Pc As) (hn : As.length = n) (hls : lv_has ls nL lv) (hst : st = As.reverse ++ rest) (hcat : (rest.map fun v => v.category).sum ≤ 8) (hdg : decode cc pc = .ok (.invokestatic idx, 3)) (hf : cells + mc ≤ mcR ∧ slots + ms ≤ msR) :
    va_Run p l e (rmOf d mcR msR) s m args below meth c H locs cells slots mc ms (F0 m pc ls st) rest (Qc As.toArray) free := by
  obtain ⟨hl, h1, ⟨h2, h3, h4, h5⟩, -⟩ := lk
  have hcb := callB_of (R := rmOf d mcR msR) (own := own) (index := idx) (y := mi.1) (bytes := mi.2.1) (maxL := mi.2.2.1) (ret := mi.2.2.2) (ws := wk mi) (ws' := ALL) (rm := rmOf d' mc ms) (mc := mc) (ms := ms) n F.2.2.2.2 (allGood (wk_in h1)) rfl rfl rfl (lkIn hl F.2.2.2.2 (by simp)) (lkIn hl F.2.2.2.2 (by simp)) ⟨h2, h3, h4⟩ (room_ok hd h5)
  exact va_runS F hM ⟨hcb, lkIn hl F.2.2.2.2 (by simp)⟩ ⟨hp.1, hp.2⟩ rfl hn hls.1 hst (lv_room hcat) hdg hf
theorem rSN {host : String} (hK : KK D cA s) (F : CallFix p m c cc nL s args ALL own) (hM : Met l mi.1 (wk mi) (rmOf d' mc ms) Pc Qc mc ms free) (lk : LkSN own idx mi n host) (hd : d' + 1 ≤ d) (hp : PreC s H Pc As) (hn : As.length = n) (hls : lv_has ls nL lv) (hst : st = As.reverse ++ rest) (hcat : (rest.map fun v => v.category).sum ≤ 8) (hdg : decode cc pc = .ok (.invokestatic idx, 3)) (hf : cells + mc ≤ mcR ∧ slots + ms ≤ msR) :
    va_Run p l e (rmOf d mcR msR) s m args below meth c H locs cells slots mc ms (F0 m pc ls st) rest (Qc As.toArray) free := by
  obtain ⟨hl, h1, ⟨h2, h3, h4, h5⟩, -⟩ := lk
  have hcb := va_cnB (R := rmOf d mcR msR) (own := own) (host := host) (index := idx) (y := mi.1) (bytes := mi.2.1) (maxL := mi.2.2.1) (ret := mi.2.2.2) (ws := wk mi) (ws' := ALL) (rm := rmOf d' mc ms) (mc := mc) (ms := ms) n F.2.2.2.2 (allGood (wk_in h1)) rfl rfl rfl (hK.2.1 _ hl.1) (lkIn hl.2 F.2.2.2.2 (by simp)) ⟨h2, h3, h4⟩ (room_ok hd h5)
  exact va_runSN F hM ⟨hcb, lkIn hl.2 F.2.2.2.2 (by simp), trivial⟩ ⟨hp.1, hp.2⟩ rfl hn hls.1 hst (lv_room hcat) hdg hf
theorem rI (F : CallFix p m c cc nL s args ALL own) (hM : Met l mi.1 (wk mi) (rmOf d' mc ms) Pc Qc mc ms free) (lk : LkI own idx mi n) (hd : d' + 1 ≤ d) (hp : PreC s H Pc (.ref b :: As)) (hn : As.length = n) (hls : lv_has ls nL lv) (hst : st = As.reverse ++ .ref b :: rest) (hcat : (rest.map fun v => v.category).sum ≤ 8) (hdg : decode cc pc = .ok (.invokespecial idx, 3)) (hf : cells + mc ≤ mcR ∧ slots + ms ≤ msR) :
    va_Run p l e (rmOf d mcR msR) s m args below meth c H locs cells slots mc ms (F0 m pc ls st) rest (Qc (Value.ref b :: As).toArray) free := by
  obtain ⟨hl, ⟨h1, ⟨h2, h3, h4, h5⟩, -⟩, h6, h7⟩ := lk
  have h1' : cdw mi ∈ ALL := h1
  have hcw : wk mi = Cond.code mi.1 mi.2.1 mi.2.2.1 none :: ALL := by unfold wk cdw; rw [h7]
  exact va_runI F hM (cwI n F.2.2.2.2 (allGood (wk_in h1)) hcw rfl rfl (lkIn hl F.2.2.2.2 (by simp)) (lkIn hl F.2.2.2.2 (by simp)) (lkIn hl F.2.2.2.2 (by simp)) h6 ⟨h2, h3, h4⟩ (room_ok hd h5)) ⟨hp.1, hp.2⟩ rfl hn hls.1 hst (lv_room hcat) hdg hf
theorem rIN {host : String} (hK : KK D cA s) (F : CallFix p m c cc nL s args ALL own) (hM : Met l mi.1 (wk mi) (rmOf d' mc ms) Pc Qc mc ms free) (lk : LkIN own idx mi n host) (hd : d' + 1 ≤ d) (hp : PreC s H Pc (.ref b :: As)) (hn : As.length = n) (hls : lv_has ls nL lv) (hst : st = As.reverse ++ .ref b :: rest) (hcat : (rest.map fun v => v.category).sum ≤ 8) (hdg : decode cc pc = .ok (.invokespecial idx, 3)) (hf : cells + mc ≤ mcR ∧ slots + ms ≤ msR) :
    va_Run p l e (rmOf d mcR msR) s m args below meth c H locs cells slots mc ms (F0 m pc ls st) rest (Qc (Value.ref b :: As).toArray) free := by
  obtain ⟨hl, ⟨h1, ⟨h2, h3, h4, h5⟩, -⟩, h6, h7⟩ := lk
  have hcw : wk mi = Cond.code mi.1 mi.2.1 mi.2.2.1 none :: ALL := by unfold wk cdw; rw [h7]
  have hcb := va_cnB (R := rmOf d mcR msR) (own := own) (host := host) (index := idx) (y := mi.1) (bytes := mi.2.1) (maxL := mi.2.2.1) (ret := none) (ws := wk mi) (ws' := ALL) (rm := rmOf d' mc ms) (mc := mc) (ms := ms) n F.2.2.2.2 (allGood (wk_in h1)) hcw rfl rfl (hK.2.1 _ hl.1) (lkIn hl.2 F.2.2.2.2 (by simp)) ⟨h2, h3, h4⟩ (room_ok hd h5)
  exact va_runIN F hM ⟨hcb, h6, lkIn hl.2 F.2.2.2.2 (by simp)⟩ ⟨hp.1, hp.2⟩ rfl hn hls.1 hst (lv_room hcat) hdg hf
theorem ro_go {R : Room} {a : Array Value} {st' : List Value} (run : va_Run p l e R s m args below meth c H locs cells slots 0 0 (F0 m pc ls st) rest (roQ v a) (fun _ => False)) (hst' : v.toList ++ rest = st') (kk : W p l e R s m args below meth c H locs cells slots Q (F0 m (pc + 3) ls st')) : W p l e R s m args below meth c H locs cells slots Q (F0 m pc ls st) := by
  intro T hT X
  obtain ⟨v', st₀, t, T', L, h0, X', hL, e1, e2, ⟨ho, hh⟩, go⟩ := run T hT X
  cases ho
  have hLn : L = [] := List.eq_nil_iff_forall_not_mem.mpr fun q hq => hL q hq
  subst hLn
  rw [List.append_nil] at X'
  subst hst'
  obtain ⟨t2, a1, b1⟩ := kk T' (e1.trans (hh.trans h0)) X'
  exact ⟨t2, go t2 a1, b1⟩
theorem rw_go {R : Room} {a : Array Value} {A1 : Nat → Prop} {post : Option Value → va_W → Prop} (run : va_Run p l e R s m args below meth c H locs cells slots mc ms (F0 m pc ls st) rest (rwQ D A1 post a) A1) (hS : va_S A H0 H locs) (hA : ∀ q, A1 q → A q)
    (kk : ∀ (v : Option Value) (ws' : va_W) (H1 : Heap) (locs1 : List Loc), post v ws' → va_P D vwCl ws' H1 → va_D A1 ws' → H.size ≤ H1.size → (∀ q : Nat, q < H.size → ¬ A1 q → H1[q]? = H[q]?) → va_S A H0 H1 locs1 → W p l e R s m args below meth c H1 locs1 (cells + mc) (slots + ms) Q (F0 m (pc + 3) ls (v.toList ++ rest))) : W p l e R s m args below meth c H locs cells slots Q (F0 m pc ls st) := by
  intro T hT X
  obtain ⟨v', st₀, t, T', L, h0, X', hL, e1, e2, ⟨⟨v, ws', ho, hpost, hP', hD'⟩, hz, hk⟩, go⟩ := run T hT X
  cases ho
  rw [h0] at hz hk
  obtain ⟨t2, a1, b1⟩ := kk v' ws' T'.heap (locs ++ L) hpost (by rw [e1]; exact hP') hD' (by rw [e1]; exact hz) (fun q h1 h2 => by rw [e1]; exact hk q h1 h2)
    ⟨Nat.le_trans hS.1 (by rw [e1]; exact hz), fun q h1 h2 => by rw [e1, hk q (Nat.lt_of_lt_of_le h1 hS.1) (fun z => h2 (hA q z))]; exact hS.2.1 q h1 h2, fun q hq => by
      rcases List.mem_append.mp hq with h | h
      · exact hS.2.2 q h
      · exact hA _ (hL q h)⟩ T' rfl X'
  exact ⟨t2, go t2 a1, b1⟩
theorem freeAll (hD : va_D A ws) (hS : va_S A H0 H locs) (hA : ∀ q, H0.size ≤ q → A q) : ∀ q, va_A ws H.size q → A q := by
  rintro q (⟨k, e, h⟩ | h)
  · exact hD.2 k (q, e) h
  · exact hA q (Nat.le_trans hS.1 h)
/-- a call over the whole world -/
theorem rw_all {R : Room} {a : Array Value} {post : Option Value → va_W → Prop} (hD : va_D A ws) (hA : ∀ q, H0.size ≤ q → A q) (hS : va_S A H0 H locs) (run : va_Run p l e R s m args below meth c H locs cells slots mc ms (F0 m pc ls st) rest (rwQ D (va_A ws H.size) post a) (va_A ws H.size))
    (kk : ∀ (v : Option Value) (ws' : va_W) (H1 : Heap) (locs1 : List Loc), post v ws' → va_P D vwCl ws' H1 → va_D A ws' → va_S A H0 H1 locs1 → W p l e R s m args below meth c H1 locs1 (cells + mc) (slots + ms) Q (F0 m (pc + 3) ls (v.toList ++ rest))) : W p l e R s m args below meth c H locs cells slots Q (F0 m pc ls st) :=
  rw_go run hS (freeAll hD hS hA) (fun v ws' H1 locs1 h1 h2 h3 _ _ h6 => kk v ws' H1 locs1 h1 h2 (h3.weaken (fun _ q _ hq => freeAll hD hS hA q.1 hq)) h6)
theorem va_P_iff {cl : List vw_C} : va_P D cl ws H ↔ ∀ q ∈ ws, va_at D cl q H := ⟨fun h q hq => by obtain ⟨i, hi⟩ := List.getElem?_of_mem hq; exact h i q hi, fun h k q hk => h q (List.mem_of_getElem? hk)⟩
theorem va_D_iff : va_D A ws ↔ (ws.map (·.1)).Nodup ∧ ∀ q ∈ ws, A q.1 := by
  constructor
  · intro h
    refine ⟨List.pairwise_iff_getElem.mpr fun i j hi hj hij he => ?_, fun q hq => by obtain ⟨i, hi⟩ := List.getElem?_of_mem hq; exact h.2 i q hi⟩
    rw [List.length_map] at hi hj
    rw [List.getElem_map, List.getElem_map] at he
    have := h.1 i j ws[i] ws[j] (List.getElem?_eq_getElem hi) (List.getElem?_eq_getElem hj) he
    omega
  · rintro ⟨h1, h2⟩
    refine ⟨fun i j x y hi hj hxy => ?_, fun k q hk => h2 q (List.mem_of_getElem? hk)⟩
    have key : ∀ (i j : Nat) (x y : Nat × va_E), ws[i]? = some x → ws[j]? = some y → x.1 = y.1 → ¬ i < j := by
      intro i j x y hi hj hxy hij
      obtain ⟨hil, hi⟩ := List.getElem?_eq_some_iff.mp hi
      obtain ⟨hjl, hj⟩ := List.getElem?_eq_some_iff.mp hj
      refine List.pairwise_iff_getElem.mp h1 i j (by rw [List.length_map]; exact hil) (by rw [List.length_map]; exact hjl) hij ?_
      rw [List.getElem_map, List.getElem_map, hi, hj]
      exact hxy
    have h3 := key i j x y hi hj hxy
    have h4 := key j i y x hj hi hxy.symm
    omega
theorem va_P_perm {cl : List vw_C} {w1 w2 : va_W} (h : va_P D cl w1 H) (hp : ∀ q ∈ w2, q ∈ w1) : va_P D cl w2 H := va_P_iff.mpr fun q hq => va_P_iff.mp h q (hp q hq)
/-- the middle of a world goes through a call -/
theorem segJoin {L1 S L2 S' : va_W} {H1 : Heap} (hP : va_P D vwCl (L1 ++ (S ++ L2)) H) (hD : va_D A (L1 ++ (S ++ L2))) (hF : ∀ q, va_A S H.size q → A q) (hk : ∀ q : Nat, q < H.size → ¬ va_A S H.size q → H1[q]? = H[q]?) (hP1 : va_P D vwCl S' H1) (hD1 : va_D (va_A S H.size) S') : va_P D vwCl (L1 ++ (S' ++ L2)) H1 ∧ va_D A (L1 ++ (S' ++ L2)) := by
  have hP' := va_P_iff.mp hP
  obtain ⟨hN, hA⟩ := va_D_iff.mp hD
  obtain ⟨hN1, hA1⟩ := va_D_iff.mp hD1
  have apart : ∀ q ∈ L1 ++ L2, q.1 < H.size ∧ ¬ va_A S H.size q.1 := by
    intro q hq
    have hq' : q ∈ L1 ++ (S ++ L2) := by
      rcases List.mem_append.mp hq with h | h
      · exact List.mem_append_left _ h
      · exact List.mem_append_right _ (List.mem_append_right _ h)
    have hlt := (hP' q hq').lt
    refine ⟨hlt, ?_⟩
    rintro (⟨k, e, h⟩ | h)
    · have hs : (q.1, e) ∈ S := List.mem_of_getElem? h
      rw [List.map_append, List.map_append] at hN
      rcases List.mem_append.mp hq with h | h
      · exact (List.nodup_append.mp hN).2.2 q.1 (List.mem_map_of_mem h) q.1 (List.mem_append_left _ (List.mem_map_of_mem (f := (·.1)) hs)) rfl
      · exact (List.nodup_append.mp (List.nodup_append.mp hN).2.1).2.2 q.1 (List.mem_map_of_mem (f := (·.1)) hs) q.1 (List.mem_map_of_mem h) rfl
    · omega
  refine ⟨va_P_iff.mpr fun q hq => ?_, va_D_iff.mpr ⟨?_, fun q hq => ?_⟩⟩
  · rcases List.mem_append.mp hq with h | h
    · have ha := apart q (List.mem_append_left _ h)
      exact (hP' q (List.mem_append_left _ h)).kept (hk q.1 ha.1 ha.2)
    · rcases List.mem_append.mp h with h | h
      · exact va_P_iff.mp hP1 q h
      · have ha := apart q (List.mem_append_right _ h)
        exact (hP' q (List.mem_append_right _ (List.mem_append_right _ h))).kept (hk q.1 ha.1 ha.2)
  · rw [List.map_append, List.map_append] at hN ⊢
    obtain ⟨n1, n2, n3⟩ := List.nodup_append.mp hN
    obtain ⟨n4, n5, n6⟩ := List.nodup_append.mp n2
    have ne : ∀ x ∈ (L1 ++ L2).map (·.1), ∀ y ∈ S'.map (·.1), x ≠ y := by
      intro x hx y hy hxy
      obtain ⟨q, hq, rfl⟩ := List.mem_map.mp hx
      obtain ⟨r, hr, rfl⟩ := List.mem_map.mp hy
      exact (apart q hq).2 (by rw [hxy]; exact hA1 r hr)
    refine List.nodup_append.mpr ⟨n1, List.nodup_append.mpr ⟨hN1, n5, fun x hx y hy hxy => ne y (by rw [List.map_append]; exact List.mem_append_right _ hy) x hx hxy.symm⟩, fun x hx y hy hxy => ?_⟩
    rcases List.mem_append.mp hy with h | h
    · exact ne x (by rw [List.map_append]; exact List.mem_append_left _ hx) y h hxy
    · exact n3 x hx y (List.mem_append_right _ h) hxy
  · rcases List.mem_append.mp hq with h | h
    · exact hA q (List.mem_append_left _ h)
    · rcases List.mem_append.mp h with h | h
      · exact hF q.1 (hA1 q h)
      · exact hA q (List.mem_append_right _ (List.mem_append_right _ h))
theorem segP {cl : List vw_C} {L1 S L2 : va_W} (hP : va_P D cl (L1 ++ (S ++ L2)) H) : va_P D cl S H := va_P_perm hP fun _ h => List.mem_append_right _ (List.mem_append_left _ h)
theorem segD {L1 S L2 : va_W} (hD : va_D A (L1 ++ (S ++ L2))) : va_D A S := by
  obtain ⟨h1, h2⟩ := va_D_iff.mp hD
  rw [List.map_append, List.map_append] at h1
  exact va_D_iff.mpr ⟨(List.nodup_append.mp (List.nodup_append.mp h1).2.1).1, fun q hq => h2 q (List.mem_append_right _ (List.mem_append_left _ hq))⟩
theorem rw_seg {R : Room} {a : Array Value} {post : Option Value → va_W → Prop} {L1 S L2 : va_W} (hP : va_P D vwCl (L1 ++ (S ++ L2)) H) (hD : va_D A (L1 ++ (S ++ L2))) (hA : ∀ q, H0.size ≤ q → A q) (hS : va_S A H0 H locs) (run : va_Run p l e R s m args below meth c H locs cells slots mc ms (F0 m pc ls st) rest (rwQ D (va_A S H.size) post a) (va_A S H.size))
    (kk : ∀ (v : Option Value) (S' : va_W) (H1 : Heap) (locs1 : List Loc), post v S' → va_P D vwCl (L1 ++ (S' ++ L2)) H1 → va_D A (L1 ++ (S' ++ L2)) → va_S A H0 H1 locs1 → W p l e R s m args below meth c H1 locs1 (cells + mc) (slots + ms) Q (F0 m (pc + 3) ls (v.toList ++ rest))) : W p l e R s m args below meth c H locs cells slots Q (F0 m pc ls st) :=
  rw_go run hS (freeAll (segD hD) hS hA) (fun v S' H1 locs1 h1 h2 h3 _ h5 h6 => by
    obtain ⟨a1, a2⟩ := segJoin hP hD (freeAll (segD hD) hS hA) h5 h2 h3
    exact kk v S' H1 locs1 h1 a1 a2 h6)
/-- ends -/
theorem ro_i {R : Room} {x : Int32} (F : CallFix p m c cc nL s args ALL own) (hr : meth.sig.returnType = some .int) (hlk : meth.locks = false) (hv : some (Value.int x) = v) (hdg : decode cc pc = .ok (.ireturn, 1)) : W p l e R s m args below meth c s.heap [] 0 0 (MQ below (roQ v) args s 0 0 (fun _ => False)) (F0 m pc ls [.int x]) := W.iret F.1 F.2.1 hr (fun t ht _ => ⟨by rw [hv], ht⟩) (fun _ h => by cases h) hdg hlk
theorem ro_z {R : Room} {x : Int32} (F : CallFix p m c cc nL s args ALL own) (hr : meth.sig.returnType = some .boolean) (hn : narrow .boolean (.int x) = .int x) (hlk : meth.locks = false) (hv : some (Value.int x) = v) (hdg : decode cc pc = .ok (.ireturn, 1)) : W p l e R s m args below meth c s.heap [] 0 0 (MQ below (roQ v) args s 0 0 (fun _ => False)) (F0 m pc ls [.int x]) := W.zret F.1 F.2.1 hr hn (fun t ht _ => ⟨by rw [hv], ht⟩) (fun _ h => by cases h) hdg hlk
theorem ro_l {R : Room} {x : Int64} (F : CallFix p m c cc nL s args ALL own) (hr : meth.sig.returnType = some .long) (hlk : meth.locks = false) (hv : some (Value.long x) = v) (hdg : decode cc pc = .ok (.lreturn, 1)) : W p l e R s m args below meth c s.heap [] 0 0 (MQ below (roQ v) args s 0 0 (fun _ => False)) (F0 m pc ls [.long x]) := W.lret F.1 F.2.1 hr (fun t ht _ => ⟨by rw [hv], ht⟩) (fun _ h => by cases h) hdg hlk
theorem ro_a {R : Room} {x : Value} {rt : FieldType} (F : CallFix p m c cc nL s args ALL own) (hr : meth.sig.returnType = some rt) (hrt : (∃ n, rt = .object n) ∨ ∃ t, rt = .array t) (hx : x = .null ∨ ∃ a, x = .ref a) (hlk : meth.locks = false) (hv : some x = v) (hdg : decode cc pc = .ok (.areturn, 1)) : W p l e R s m args below meth c s.heap [] 0 0 (MQ below (roQ v) args s 0 0 (fun _ => False)) (F0 m pc ls [x]) := W.aret F.1 F.2.1 hr hrt hx (fun t ht _ => ⟨by rw [hv], ht⟩) (fun _ h => by cases h) hdg hlk
theorem rw_i {R : Room} {x : Int32} {post : Option Value → va_W → Prop} (F : CallFix p m c cc nL s args ALL own) (hP : va_P D vwCl ws H) (hD : va_D A ws) (hS : va_S A s.heap H locs) (hr : meth.sig.returnType = some .int) (hlk : meth.locks = false) (hc : cells ≤ mc ∧ slots ≤ ms) (hv : post (some (.int x)) ws) (hdg : decode cc pc = .ok (.ireturn, 1)) : W p l e R s m args below meth c H locs cells slots (MQ below (rwQ D A post) args s mc ms A) (F0 m pc ls [.int x]) := W.widen hc.1 hc.2 (W.iret F.1 F.2.1 hr (fun t ht _ => ⟨⟨_, ws, rfl, hv, by rw [ht]; exact hP, hD⟩, hS.F ht⟩) hS.2.2 hdg hlk)
theorem rw_z {R : Room} {x : Int32} {post : Option Value → va_W → Prop} (F : CallFix p m c cc nL s args ALL own) (hP : va_P D vwCl ws H) (hD : va_D A ws) (hS : va_S A s.heap H locs) (hr : meth.sig.returnType = some .boolean) (hn : narrow .boolean (.int x) = .int x) (hlk : meth.locks = false) (hc : cells ≤ mc ∧ slots ≤ ms) (hv : post (some (.int x)) ws) (hdg : decode cc pc = .ok (.ireturn, 1)) : W p l e R s m args below meth c H locs cells slots (MQ below (rwQ D A post) args s mc ms A) (F0 m pc ls [.int x]) := W.widen hc.1 hc.2 (W.zret F.1 F.2.1 hr hn (fun t ht _ => ⟨⟨_, ws, rfl, hv, by rw [ht]; exact hP, hD⟩, hS.F ht⟩) hS.2.2 hdg hlk)
theorem rw_v {R : Room} {post : Option Value → va_W → Prop} (F : CallFix p m c cc nL s args ALL own) (hP : va_P D vwCl ws H) (hD : va_D A ws) (hS : va_S A s.heap H locs) (hr : meth.sig.returnType = none) (hlk : meth.locks = false) (hc : cells ≤ mc ∧ slots ≤ ms) (hv : post none ws) (hdg : decode cc pc = .ok (.return_, 1)) : W p l e R s m args below meth c H locs cells slots (MQ below (rwQ D A post) args s mc ms A) (F0 m pc ls []) := W.widen hc.1 hc.2 (W.vret F.1 F.2.1 hr (fun t ht _ => ⟨⟨_, ws, rfl, hv, by rw [ht]; exact hP, hD⟩, hS.F ht⟩) hS.2.2 hdg hlk)
end XC
