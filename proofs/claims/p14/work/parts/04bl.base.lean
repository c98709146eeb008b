section XD
variable {p : Program} {l : Launch} {e : Env} {s : State} {m : MethodId} {args : Array Value} {below : List Frame} {meth : Method} {c : Code} {H : Heap} {locs : List Loc} {cells slots : Nat} {Q : State → Prop} {R : Room}
variable {cc : ByteArray} {pc nL : Nat} {ls : Array Slot} {rest st : List Value} {own : String} {D : va_G} {cA : Nat → ClassId} {A : Nat → Prop} {ws wc : va_W} {H0 : Heap} {mc ms idx : Nat} {α : Type}
theorem selD {is : List Nat} (hD : va_D A ws) (hn : va_nd is = true) (hC : is.map (fun i => ws[i]?) = wc.map some) : va_D A wc := hD.sub is hn hC
theorem selF {is : List Nat} (hD : va_D A ws) (hC : is.map (fun i => ws[i]?) = wc.map some) (hA : ∀ q, H0.size ≤ q → A q) (hS : va_S A H0 H locs) : ∀ q, va_A wc H.size q → A q := by
  rintro q (⟨k, e, h⟩ | h)
  · obtain ⟨i, -, h2⟩ := sel_at hC h
    exact hD.2 i (q, e) h2
  · exact hA q (Nat.le_trans hS.1 h)
theorem rwe {V : Option Value} {wc' W' : va_W} {a : Array Value} {st' : List Value} (hP : va_P D vwCl ws H) (hD : va_D A ws) (hS : va_S A H0 H locs) (hA : ∀ q, H0.size ≤ q → A q) (is : List Nat) (hC : is.map (fun i => ws[i]?) = wc.map some) (hn : va_nd is = true) (hfst : wc'.map (·.1) = wc.map (·.1)) (run : va_Run p l e R s m args below meth c H locs cells slots mc ms (F0 m pc ls st) rest (rwQ D (va_A wc H.size) (exq V wc') a) (va_A wc H.size)) (hW : putAll ws is wc' = W') (hst : V.toList ++ rest = st')
    (kk : ∀ (H1 : Heap) (locs1 : List Loc), va_P D vwCl W' H1 → va_D A W' → va_S A H0 H1 locs1 → W p l e R s m args below meth c H1 locs1 (cells + mc) (slots + ms) Q (F0 m (pc + 3) ls st')) : W p l e R s m args below meth c H locs cells slots Q (F0 m pc ls st) :=
  rw_go run hS (selF hD hC hA hS) (fun v ws' H1 locs1 h1 h2 h3 _ h5 h6 => by
    obtain ⟨rfl, rfl⟩ := h1
    obtain ⟨a1, a2⟩ := reJoin hP hD hC hn h5 h2 hfst
    subst hW
    subst hst
    exact kk H1 locs1 a1 a2 h6)
end XD
