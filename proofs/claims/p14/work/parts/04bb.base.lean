section XC
variable {p : Program} {l : Launch} {e : Env} {s : State} {m : MethodId} {args : Array Value} {below : List Frame} {meth : Method} {c : Code} {H : Heap} {locs : List Loc} {cells slots : Nat} {Q : State → Prop}
variable {cc : ByteArray} {pc nL : Nat} {ls : Array Slot} {rest st : List Value} {own : String} {D : va_G} {cA : Nat → ClassId} {A : Nat → Prop} {ws wc : va_W} {H0 : Heap}
variable {mi : MI} {d d' mc ms mcR msR n idx b : Nat} {As av : List Value} {v : Option Value} {Pc : Array Value → State → Prop} {Qc : Array Value → State → Outcome → State → Prop} {free : Addr → Prop} {lv : List (Nat × Value)}
theorem freeAll (hD : va_D A ws) (hS : va_S A H0 H locs) (hA : ∀ q, H0.size ≤ q → A q) : ∀ q, va_A ws H.size q → A q := by
  rintro q (⟨k, e, h⟩ | h)
  · exact hD.2 k (q, e) h
  · exact hA q (Nat.le_trans hS.1 h)
/-- a call over the whole world -/
theorem rw_all {R : Room} {a : Array Value} {post : Option Value → va_W → Prop} (hD : va_D A ws) (hA : ∀ q, H0.size ≤ q → A q) (hS : va_S A H0 H locs) (run : va_Run p l e R s m args below meth c H locs cells slots mc ms (F0 m pc ls st) rest (rwQ D (va_A ws H.size) post a) (va_A ws H.size))
    (kk : ∀ (v : Option Value) (ws' : va_W) (H1 : Heap) (locs1 : List Loc), post v ws' → va_P D vwCl ws' H1 → va_D A ws' → va_S A H0 H1 locs1 → W p l e R s m args below meth c H1 locs1 (cells + mc) (slots + ms) Q (F0 m (pc + 3) ls (v.toList ++ rest))) : W p l e R s m args below meth c H locs cells slots Q (F0 m pc ls st) :=
  rw_go run hS (freeAll hD hS hA) (fun v ws' H1 locs1 h1 h2 h3 _ _ h6 => kk v ws' H1 locs1 h1 h2 (h3.weaken (fun _ q _ hq => freeAll hD hS hA q.1 hq)) h6)
end XC
