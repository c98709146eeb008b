section XN
variable {p : Program} {l : Launch} {e : Env} {R : Room} {s : State} {m : MethodId} {args : Array Value} {below : List Frame} {meth : Method} {c : Code} {H : Heap} {locs : List Loc} {cells slots : Nat} {Q : State → Prop}
variable {cc : ByteArray} {pc nL : Nat} {ls : Array Slot} {rest : List Value} {own : String} {α : Type} {D : va_G} {cA : Nat → ClassId} {A : Nat → Prop} {ws : va_W} {a idx : Nat} {H0 : Heap} {lv : List (Nat × Value)}
theorem acopyL {a0 n0 n1 : Nat} {f g : Nat → Int64} {sp dp n : Int32} {r : α} {K : Option α} (F : CallFix p m c cc nL s args ALL own) (hK : KK D cA s) (hP : va_P D vwCl ws H) (hD : va_D A ws) (hS : va_S A H0 H locs) (G : LkA own idx) (hls : lv_has ls nL lv) (q0 q1 : Nat) (ha0 : ws[q0]? = some (a0, .inl (cA 1, n0, .inr (.inl f)))) (ha1 : ws[q1]? = some (a, .inl (cA 1, n1, .inr (.inl g)))) (h : gd (acok sp dp n n0 n1) K = some r) {ws' : va_W} (hw : ws.set q1 (a, .inl (cA 1, n1, .inr (.inl (va_cpy f g sp.toNatClampNeg dp.toNatClampNeg n.toNatClampNeg)))) = ws')
    (hframes : 1 ≤ R.frames) (hlocals : (rest.map fun v => v.category).sum + (nativeFrameWords "java/lang/System" "arraycopy" 5 + 11) ≤ R.locals) (hdg : decode cc pc = .ok (.invokestatic idx, 3))
    (kk : K = some r → ∀ (H1 : Heap) (locs1 : List Loc), va_P D vwCl ws' H1 → va_D A ws' → va_S A H0 H1 locs1 → W p l e R s m args below meth c H1 locs1 cells slots Q (F0 m (pc + 3) ls rest)) : W p l e R s m args below meth c H locs cells slots Q (F0 m pc ls (.int n :: .int dp :: .ref a :: .int sp :: .ref a0 :: rest)) := by
  obtain ⟨hg, h⟩ := gd_some h
  obtain ⟨h1, h2, h3, h4, h5⟩ := acok_of hg
  subst hw
  exact va_copyl F.1 F.2.1 (F.2.2.1.trans hls.1.symm) F.2.2.2.1 (F.2.2.2.2 _ G.1) (F.2.2.2.2 _ G.2.1) (F.2.2.2.2 _ G.2.2.1) (F.2.2.2.2 _ G.2.2.2) hK.1 hP hD hS q0 q1 1 1 (ty := .long) ha0 ha1 rfl rfl rfl h1 h2 h3 h4 h5 (fun _ _ => rfl) hframes hlocals hdg (kk h)
end XN
