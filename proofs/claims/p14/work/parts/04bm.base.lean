section XD
variable {p : Program} {l : Launch} {e : Env} {s : State} {m : MethodId} {args : Array Value} {below : List Frame} {meth : Method} {c : Code} {H : Heap} {locs : List Loc} {cells slots : Nat} {Q : State → Prop} {R : Room}
variable {cc : ByteArray} {pc nL : Nat} {ls : Array Slot} {rest st : List Value} {own : String} {D : va_G} {cA : Nat → ClassId} {A : Nat → Prop} {ws wc : va_W} {H0 : Heap} {mc ms idx : Nat} {α : Type}
theorem rwe_all {V : Option Value} {W' : va_W} {a : Array Value} {st' : List Value} (hD : va_D A ws) (hS : va_S A H0 H locs) (hA : ∀ q, H0.size ≤ q → A q) (run : va_Run p l e R s m args below meth c H locs cells slots mc ms (F0 m pc ls st) rest (rwQ D (va_A ws H.size) (exq V W') a) (va_A ws H.size)) (hst : V.toList ++ rest = st')
    (kk : ∀ (H1 : Heap) (locs1 : List Loc), va_P D vwCl W' H1 → va_D A W' → va_S A H0 H1 locs1 → W p l e R s m args below meth c H1 locs1 (cells + mc) (slots + ms) Q (F0 m (pc + 3) ls st')) : W p l e R s m args below meth c H locs cells slots Q (F0 m pc ls st) :=
  rw_all hD hA hS run (fun v ws' H1 locs1 h1 h2 h3 h4 => by
    obtain ⟨rfl, rfl⟩ := h1
    subst hst
    exact kk H1 locs1 h2 h3 h4)
theorem gL {L M : va_W} {i : Nat} {v : Nat × va_E} (h : L[i]? = some v) : (L ++ M)[i]? = some v := by rw [List.getElem?_append_left (List.getElem?_eq_some_iff.mp h).1]; exact h
theorem gR {L M : va_W} {n i : Nat} {v : Nat × va_E} (hl : L.length = n) (h : M[i]? = some v) : (L ++ M)[n + i]? = some v := by rw [List.getElem?_append_right (by omega), hl, Nat.add_sub_cancel_left]; exact h
end XD
