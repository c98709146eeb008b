section XC
variable {p : Program} {l : Launch} {e : Env} {s : State} {m : MethodId} {args : Array Value} {below : List Frame} {meth : Method} {c : Code} {H : Heap} {locs : List Loc} {cells slots : Nat} {Q : State → Prop}
variable {cc : ByteArray} {pc nL : Nat} {ls : Array Slot} {rest st : List Value} {own : String} {D : va_G} {cA : Nat → ClassId} {A : Nat → Prop} {ws wc : va_W} {H0 : Heap}
variable {mi : MI} {d d' mc ms mcR msR n idx b : Nat} {As av : List Value} {v : Option Value} {Pc : Array Value → State → Prop} {Qc : Array Value → State → Outcome → State → Prop} {free : Addr → Prop} {lv : List (Nat × Value)}
theorem segP {cl : List vw_C} {L1 S L2 : va_W} (hP : va_P D cl (L1 ++ (S ++ L2)) H) : va_P D cl S H := va_P_perm hP fun _ h => List.mem_append_right _ (List.mem_append_left _ h)
theorem segD {L1 S L2 : va_W} (hD : va_D A (L1 ++ (S ++ L2))) : va_D A S := by
  obtain ⟨h1, h2⟩ := va_D_iff.mp hD
  rw [List.map_append, List.map_append] at h1
  exact va_D_iff.mpr ⟨(List.nodup_append.mp (List.nodup_append.mp h1).2.1).1, fun q hq => h2 q (List.mem_append_right _ (List.mem_append_left _ hq))⟩
theorem rw_seg {R : Room} {a : Array Value} {post : Option Value → va_W → Prop} {L1 S L2 : va_W} (hP : va_P D vwCl (L1 ++ (S ++ L2)) H) (hD : va_D A (L1 ++ (S ++ L2))) (hA : ∀ q, H0.size ≤ q → A q) (hS : va_S A H0 H locs) (run : va_Run p l e R s m args below meth c H locs cells slots mc ms (F0 m pc ls st) rest (rwQ D (va_A S H.size) post a) (va_A S H.size))
    (kk : ∀ (v : Option Value) (S' : va_W) (H1 : Heap) (locs1 : List Loc), post v S' → va_P D vwCl (L1 ++ (S' ++ L2)) H1 → va_D A (L1 ++ (S' ++ L2)) → va_S A H0 H1 locs1 → W p l e R s m args below meth c H1 locs1 (cells + mc) (slots + ms) Q (F0 m (pc + 3) ls (v.toList ++ rest))) : W p l e R s m args below meth c H locs cells slots Q (F0 m pc ls st) :=
  rw_go run hS (freeAll (segD hD) hS hA) (fun v S' H1 locs1 h1 h2 h3 _ h5 h6 => by
    obtain ⟨a1, a2⟩ := segJoin hP hD (freeAll (segD hD) hS hA) h5 h2 h3
    exact kk v S' H1 locs1 h1 a1 a2 h6)
end XC
