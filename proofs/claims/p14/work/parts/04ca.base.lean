section XS2
variable {p : Program} {l : Launch} {e : Env} {R : Room} {s : State} {m : MethodId} {args : Array Value} {below : List Frame} {meth : Method} {c : Code} {H : Heap} {locs : List Loc} {cells slots : Nat} {Q : State → Prop}
variable {cc : ByteArray} {pc nL : Nat} {ls : Array Slot} {rest : List Value} {own : String} {D : va_G} {cA : Nat → ClassId} {A : Nat → Prop} {ws wc : va_W} {a idx : Nat} {av : List Value} {w : List Int32}
theorem ro_v {R : Room} (F : CallFix p m c cc nL s args ALL own) (hr : meth.sig.returnType = none) (hlk : meth.locks = false) (hdg : decode cc pc = .ok (.return_, 1)) : W p l e R s m args below meth c s.heap [] 0 0 (MQ below (roQ none) args s 0 0 (fun _ => False)) (F0 m pc ls []) := W.vret F.1 F.2.1 hr (fun t ht _ => ⟨rfl, ht⟩) (fun _ h => by cases h) hdg hlk
end XS2
def strch (w : List Int32) (i : Int32) : Int32 := ((w.getD i.toNatClampNeg 0 &&& 255).toUInt32 % 65536).toInt32
theorem strch_nar (w : List Int32) (i : Int32) : narrow .char (.int (strch w i)) = .int (strch w i) := by
  unfold strch
  rw [sc_c2]
  exact sc_nar _
theorem inb_lt2 {i : Int32} {n : Nat} (h : inb i n = true) (hn : n < 2 ^ 31) : ¬ i < 0 ∧ i < nI n := by
  have h1 := inb_in h
  obtain ⟨j, hj, rfl⟩ := vp_in_of h1 hn
  exact ⟨nI_pos (by omega), nI_lt hj hn⟩
/-! receivers by their class: a literal name (a projection costs the unifier a third of a second a call) -/
theorem rcv_0 {D : va_G} {cA : Nat → ClassId} {s : State} {H : Heap} {ws : va_W} {b : Addr} {q0 : Nat} {fs : List Value} (hK : KK D cA s) (hP : va_P D vwCl ws H) (he : ws[q0]? = some (b, .inr (0, fs))) : Rcv s H "MoonOverTheHill$Few" b := rcv hK hP he rfl
