section XC
variable {p : Program} {l : Launch} {e : Env} {s : State} {m : MethodId} {args : Array Value} {below : List Frame} {meth : Method} {c : Code} {H : Heap} {locs : List Loc} {cells slots : Nat} {Q : State → Prop}
variable {cc : ByteArray} {pc nL : Nat} {ls : Array Slot} {rest st : List Value} {own : String} {D : va_G} {cA : Nat → ClassId} {A : Nat → Prop} {ws wc : va_W} {H0 : Heap}
variable {mi : MI} {d d' mc ms mcR msR n idx b : Nat} {As av : List Value} {v : Option Value} {Pc : Array Value → State → Prop} {Qc : Array Value → State → Outcome → State → Prop} {free : Addr → Prop} {lv : List (Nat × Value)}
theorem rIN {host : String} (hK : KK D cA s) (F : CallFix p m c cc nL s args ALL own) (hM : Met l mi.1 (wk mi) (rmOf d' mc ms) Pc Qc mc ms free) (lk : LkIN own idx mi n host) (hd : d' + 1 ≤ d) (hp : PreC s H Pc (.ref b :: As)) (hn : As.length = n) (hls : lv_has ls nL lv) (hst : st = As.reverse ++ .ref b :: rest) (hcat : (rest.map fun v => v.category).sum ≤ 8) (hdg : decode cc pc = .ok (.invokespecial idx, 3)) (hf : cells + mc ≤ mcR ∧ slots + ms ≤ msR) :
    va_Run p l e (rmOf d mcR msR) s m args below meth c H locs cells slots mc ms (F0 m pc ls st) rest (Qc (Value.ref b :: As).toArray) free := by
  obtain ⟨hl, ⟨h1, ⟨h2, h3, h4, h5⟩, -⟩, h6, h7⟩ := lk
  have hcw : wk mi = Cond.code mi.1 mi.2.1 mi.2.2.1 none :: ALL := by unfold wk cdw; rw [h7]
  have hcb := va_cnB (R := rmOf d mcR msR) (own := own) (host := host) (index := idx) (y := mi.1) (bytes := mi.2.1) (maxL := mi.2.2.1) (ret := none) (ws := wk mi) (ws' := ALL) (rm := rmOf d' mc ms) (mc := mc) (ms := ms) n F.2.2.2.2 (allGood (wk_in h1)) hcw rfl rfl (hK.2.1 _ hl.1) (lkIn hl.2 F.2.2.2.2 (by first | exact List.Mem.head _ | exact List.Mem.tail _ (List.Mem.head _) | exact List.Mem.tail _ (List.Mem.tail _ (List.Mem.head _)) | exact List.Mem.tail _ (List.Mem.tail _ (List.Mem.tail _ (List.Mem.head _))) | exact List.Mem.tail _ (List.Mem.tail _ (List.Mem.tail _ (List.Mem.tail _ (List.Mem.head _)))))) ⟨h2, h3, h4⟩ (room_ok hd h5)
  exact va_runIN F hM ⟨hcb, h6, lkIn hl.2 F.2.2.2.2 (by first | exact List.Mem.head _ | exact List.Mem.tail _ (List.Mem.head _) | exact List.Mem.tail _ (List.Mem.tail _ (List.Mem.head _)))⟩ ⟨hp.1, hp.2⟩ rfl hn hls.1 hst (lv_room hcat) hdg hf
theorem ro_go {R : Room} {a : Array Value} {st' : List Value} (run : va_Run p l e R s m args below meth c H locs cells slots 0 0 (F0 m pc ls st) rest (roQ v a) (fun _ => False)) (hst' : v.toList ++ rest = st') (kk : W p l e R s m args below meth c H locs cells slots Q (F0 m (pc + 3) ls st')) : W p l e R s m args below meth c H locs cells slots Q (F0 m pc ls st) := by
  intro T hT X
  obtain ⟨v', st₀, t, T', L, h0, X', hL, e1, e2, ⟨ho, hh⟩, go⟩ := run T hT X
  cases ho
  have hLn : L = [] := List.eq_nil_iff_forall_not_mem.mpr fun q hq => hL q hq
  subst hLn
  rw [List.append_nil] at X'
  subst hst'
  obtain ⟨t2, a1, b1⟩ := kk T' (e1.trans (hh.trans h0)) X'
  exact ⟨t2, go t2 a1, b1⟩
theorem rw_go {R : Room} {a : Array Value} {A1 : Nat → Prop} {post : Option Value → va_W → Prop} (run : va_Run p l e R s m args below meth c H locs cells slots mc ms (F0 m pc ls st) rest (rwQ D A1 post a) A1) (hS : va_S A H0 H locs) (hA : ∀ q, A1 q → A q)
    (kk : ∀ (v : Option Value) (ws' : va_W) (H1 : Heap) (locs1 : List Loc), post v ws' → va_P D vwCl ws' H1 → va_D A1 ws' → H.size ≤ H1.size → (∀ q : Nat, q < H.size → ¬ A1 q → H1[q]? = H[q]?) → va_S A H0 H1 locs1 → W p l e R s m args below meth c H1 locs1 (cells + mc) (slots + ms) Q (F0 m (pc + 3) ls (v.toList ++ rest))) : W p l e R s m args below meth c H locs cells slots Q (F0 m pc ls st) := by
  intro T hT X
  obtain ⟨v', st₀, t, T', L, h0, X', hL, e1, e2, ⟨⟨v, ws', ho, hpost, hP', hD'⟩, hz, hk⟩, go⟩ := run T hT X
  cases ho
  rw [h0] at hz hk
  obtain ⟨t2, a1, b1⟩ := kk v' ws' T'.heap (locs ++ L) hpost (by rw [e1]; exact hP') hD' (by rw [e1]; exact hz) (fun q h1 h2 => by rw [e1]; exact hk q h1 h2)
    ⟨Nat.le_trans hS.1 (by rw [e1]; exact hz), fun q h1 h2 => by rw [e1, hk q (Nat.lt_of_lt_of_le h1 hS.1) (fun z => h2 (hA q z))]; exact hS.2.1 q h1 h2, fun q hq => by
      rcases List.mem_append.mp hq with h | h
      · exact hS.2.2 q h
      · exact hA _ (hL q h)⟩ T' rfl X'
  exact ⟨t2, go t2 a1, b1⟩
theorem freeAll (hD : va_D A ws) (hS : va_S A H0 H locs) (hA : ∀ q, H0.size ≤ q → A q) : ∀ q, va_A ws H.size q → A q := by
  rintro q (⟨k, e, h⟩ | h)
  · exact hD.2 k (q, e) h
  · exact hA q (Nat.le_trans hS.1 h)
/-- a call over the whole world -/
theorem rw_all {R : Room} {a : Array Value} {post : Option Value → va_W → Prop} (hD : va_D A ws) (hA : ∀ q, H0.size ≤ q → A q) (hS : va_S A H0 H locs) (run : va_Run p l e R s m args below meth c H locs cells slots mc ms (F0 m pc ls st) rest (rwQ D (va_A ws H.size) post a) (va_A ws H.size))
    (kk : ∀ (v : Option Value) (ws' : va_W) (H1 : Heap) (locs1 : List Loc), post v ws' → va_P D vwCl ws' H1 → va_D A ws' → va_S A H0 H1 locs1 → W p l e R s m args below meth c H1 locs1 (cells + mc) (slots + ms) Q (F0 m (pc + 3) ls (v.toList ++ rest))) : W p l e R s m args below meth c H locs cells slots Q (F0 m pc ls st) :=
  rw_go run hS (freeAll hD hS hA) (fun v ws' H1 locs1 h1 h2 h3 _ _ h6 => kk v ws' H1 locs1 h1 h2 (h3.weaken (fun _ q _ hq => freeAll hD hS hA q.1 hq)) h6)
theorem va_P_iff {cl : List vw_C} : va_P D cl ws H ↔ ∀ q ∈ ws, va_at D cl q H := ⟨fun h q hq => by obtain ⟨i, hi⟩ := List.getElem?_of_mem hq; exact h i q hi, fun h k q hk => h q (List.mem_of_getElem? hk)⟩
end XC
