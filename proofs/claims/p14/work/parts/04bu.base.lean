section XN
variable {p : Program} {l : Launch} {e : Env} {R : Room} {s : State} {m : MethodId} {args : Array Value} {below : List Frame} {meth : Method} {c : Code} {H : Heap} {locs : List Loc} {cells slots : Nat} {Q : State → Prop}
variable {cc : ByteArray} {pc nL : Nat} {ls : Array Slot} {rest : List Value} {own : String} {α : Type} {D : va_G} {cA : Nat → ClassId} {A : Nat → Prop} {ws : va_W} {a idx : Nat} {H0 : Heap} {lv : List (Nat × Value)}
theorem newO {ci n : Nat} {fs : List Value} (F : CallFix p m c cc nL s args ALL own) (hK : KK D cA s) (hP : va_P D vwCl ws H) (hD : va_D A ws) (hS : va_S A H0 H locs) (hA : ∀ q, H0.size ≤ q → A q) (G : LkN own idx ci n fs) (hcells : cells + 1 ≤ R.cells) (hslots : slots + n ≤ R.slots) (hdg : decode cc pc = .ok (.new idx, 3))
    (kk : ∀ (q : Nat) (H1 : Heap), va_P D vwCl (ws ++ [(q, .inr (ci, fs))]) H1 → va_D A (ws ++ [(q, .inr (ci, fs))]) → va_S A H0 H1 locs → W p l e R s m args below meth c H1 locs (cells + 1) (slots + n) Q (F0 m (pc + 3) ls (.ref q :: rest))) : W p l e R s m args below meth c H locs cells slots Q (F0 m pc ls rest) := by
  obtain ⟨C, T, t0, h1, h2, h3, h4, h5, h6, h7⟩ := G
  exact va_new F.1 F.2.1 F.2.2.2.2 h2 t0 h3 F.2.2.2.1 (F.2.2.2.2 _ h4) (F.2.2.2.2 _ h5) (F.2.2.2.2 _ h6) hK.1 hP hD hS hA h1 h7 hcells hslots hdg kk
theorem oinit (F : CallFix p m c cc nL s args ALL own) (G : LkO own idx) (hls : lv_has ls nL lv) (hframes : 1 ≤ R.frames) (hlocals : (rest.map fun v => v.category).sum + 12 ≤ R.locals) (hdg : decode cc pc = .ok (.invokespecial idx, 3))
    (kk : W p l e R s m args below meth c H locs cells slots Q (F0 m (pc + 3) ls rest)) : W p l e R s m args below meth c H locs cells slots Q (F0 m pc ls (.ref a :: rest)) :=
  W.objInit F.1 F.2.1 F.2.2.2.1 (F.2.2.2.2 _ G.1) (F.2.2.2.2 _ G.2.1) (F.2.2.2.2 _ G.2.2) rfl (hls.1.trans F.2.2.1.symm) rfl hdg hframes (by show 2 * 0 + _ + 12 ≤ _; omega) kk
end XN
