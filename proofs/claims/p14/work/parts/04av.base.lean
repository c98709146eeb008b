section XC
variable {p : Program} {l : Launch} {e : Env} {s : State} {m : MethodId} {args : Array Value} {below : List Frame} {meth : Method} {c : Code} {H : Heap} {locs : List Loc} {cells slots : Nat} {Q : State → Prop}
variable {cc : ByteArray} {pc nL : Nat} {ls : Array Slot} {rest st : List Value} {own : String} {D : va_G} {cA : Nat → ClassId} {A : Nat → Prop} {ws wc : va_W} {H0 : Heap}
variable {mi : MI} {d d' mc ms mcR msR n idx b : Nat} {As av : List Value} {v : Option Value} {Pc : Array Value → State → Prop} {Qc : Array Value → State → Outcome → State → Prop} {free : Addr → Prop} {lv : List (Nat × Value)}
theorem room_ok {k : Nat} (hd : d' + 1 ≤ d) (hk : k ≤ 16) : (rmOf d' mc ms).frames + 1 ≤ (rmOf d mcR msR).frames ∧ 8 + (k + 11) + (rmOf d' mc ms).locals ≤ (rmOf d mcR msR).locals := ⟨hd, by show 8 + (k + 11) + 35 * d' ≤ 35 * d; omega⟩
theorem lkIn {ws : List Cond} (h : ∀ w ∈ ws, w ∈ ALL) (F : ∀ w ∈ ALL, w.before args s = true) {w : Cond} (hw : w ∈ ws) : w.before args s = true := F w (h w hw)
def Rcv (s : State) (H : Heap) (C : String) (b : Addr) : Prop := ∃ cellB : Cell, H[b]? = some cellB ∧ cellB.vm.isStatics = false ∧ s.vm.findClass C = some cellB.cls
theorem rcv {q0 ci : Nat} {fs : List Value} {r : vw_C} (hK : KK D cA s) (hP : va_P D vwCl ws H) (he : ws[q0]? = some (b, .inr (ci, fs))) (hc : vwCl[ci]? = some r) : Rcv s H r.1 b := va_recv hK.1 hP hc he
theorem rV (F : CallFix p m c cc nL s args ALL own) (hM : Met l mi.1 (wk mi) (rmOf d' mc ms) Pc Qc mc ms free) (lk : LkV own idx mi n) (hd : d' + 1 ≤ d) (hp : PreC s H Pc (.ref b :: As)) (hr : Rcv s H mi.1.cls b) (hn : As.length = n) (hls : lv_has ls nL lv) (hst : st = As.reverse ++ .ref b :: rest) (hcat : (rest.map fun v => v.category).sum ≤ 8) (hdg : decode cc pc = .ok (.invokevirtual idx, 3)) (hf : cells + mc ≤ mcR ∧ slots + ms ≤ msR) :
    va_Run p l e (rmOf d mcR msR) s m args below meth c H locs cells slots mc ms (F0 m pc ls st) rest (Qc (Value.ref b :: As).toArray) free := by
  obtain ⟨hl, h1, ⟨h2, h3, h4, h5⟩, -⟩ := lk
  have hG : GoodIn ALL (wsV own idx mi.1.cls mi.1 (wk mi)) := allGood (fun w hw => (List.mem_append.mp hw).elim (hl w) (wk_in h1 w))
  exact va_runV F hM (cwV (bytes := mi.2.1) (maxL := mi.2.2.1) (ret := mi.2.2.2) n F.2.2.2.2 hG rfl rfl rfl ⟨rfl, h2, h3, h4⟩ (room_ok hd h5)) ⟨hp.1, hr, hp.2⟩ rfl hn hls.1 hst (lv_room hcat) hdg hf
end XC
