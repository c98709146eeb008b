section XC
variable {p : Program} {l : Launch} {e : Env} {s : State} {m : MethodId} {args : Array Value} {below : List Frame} {meth : Method} {c : Code} {H : Heap} {locs : List Loc} {cells slots : Nat} {Q : State → Prop}
variable {cc : ByteArray} {pc nL : Nat} {ls : Array Slot} {rest st : List Value} {own : String} {D : va_G} {cA : Nat → ClassId} {A : Nat → Prop} {ws wc : va_W} {H0 : Heap}
variable {mi : MI} {d d' mc ms mcR msR n idx b : Nat} {As av : List Value} {v : Option Value} {Pc : Array Value → State → Prop} {Qc : Array Value → State → Outcome → State → Prop} {free : Addr → Prop} {lv : List (Nat × Value)}
theorem va_P_perm {cl : List vw_C} {w1 w2 : va_W} (h : va_P D cl w1 H) (hp : ∀ q ∈ w2, q ∈ w1) : va_P D cl w2 H := va_P_iff.mpr fun q hq => va_P_iff.mp h q (hp q hq)
/-- the middle of a world goes through a call -/
theorem segJoin {L1 S L2 S' : va_W} {H1 : Heap} (hP : va_P D vwCl (L1 ++ (S ++ L2)) H) (hD : va_D A (L1 ++ (S ++ L2))) (hF : ∀ q, va_A S H.size q → A q) (hk : ∀ q : Nat, q < H.size → ¬ va_A S H.size q → H1[q]? = H[q]?) (hP1 : va_P D vwCl S' H1) (hD1 : va_D (va_A S H.size) S') : va_P D vwCl (L1 ++ (S' ++ L2)) H1 ∧ va_D A (L1 ++ (S' ++ L2)) := by
  have hP' := va_P_iff.mp hP
  obtain ⟨hN, hA⟩ := va_D_iff.mp hD
  obtain ⟨hN1, hA1⟩ := va_D_iff.mp hD1
  have apart : ∀ q ∈ L1 ++ L2, q.1 < H.size ∧ ¬ va_A S H.size q.1 := by
    intro q hq
    have hq' : q ∈ L1 ++ (S ++ L2) := by
      rcases List.mem_append.mp hq with h | h
      · exact List.mem_append_left _ h
      · exact List.mem_append_right _ (List.mem_append_right _ h)
    have hlt := (hP' q hq').lt
    refine ⟨hlt, ?_⟩
    rintro (⟨k, e, h⟩ | h)
    · have hs : (q.1, e) ∈ S := List.mem_of_getElem? h
      rw [List.map_append, List.map_append] at hN
      rcases List.mem_append.mp hq with h | h
      · exact (List.nodup_append.mp hN).2.2 q.1 (List.mem_map_of_mem h) q.1 (List.mem_append_left _ (List.mem_map_of_mem (f := (·.1)) hs)) rfl
      · exact (List.nodup_append.mp (List.nodup_append.mp hN).2.1).2.2 q.1 (List.mem_map_of_mem (f := (·.1)) hs) q.1 (List.mem_map_of_mem h) rfl
    · omega
  refine ⟨va_P_iff.mpr fun q hq => ?_, va_D_iff.mpr ⟨?_, fun q hq => ?_⟩⟩
  · rcases List.mem_append.mp hq with h | h
    · have ha := apart q (List.mem_append_left _ h)
      exact (hP' q (List.mem_append_left _ h)).kept (hk q.1 ha.1 ha.2)
    · rcases List.mem_append.mp h with h | h
      · exact va_P_iff.mp hP1 q h
      · have ha := apart q (List.mem_append_right _ h)
        exact (hP' q (List.mem_append_right _ (List.mem_append_right _ h))).kept (hk q.1 ha.1 ha.2)
  · rw [List.map_append, List.map_append] at hN ⊢
    obtain ⟨n1, n2, n3⟩ := List.nodup_append.mp hN
    obtain ⟨n4, n5, n6⟩ := List.nodup_append.mp n2
    have ne : ∀ x ∈ (L1 ++ L2).map (·.1), ∀ y ∈ S'.map (·.1), x ≠ y := by
      intro x hx y hy hxy
      obtain ⟨q, hq, rfl⟩ := List.mem_map.mp hx
      obtain ⟨r, hr, rfl⟩ := List.mem_map.mp hy
      exact (apart q hq).2 (by rw [hxy]; exact hA1 r hr)
    refine List.nodup_append.mpr ⟨n1, List.nodup_append.mpr ⟨hN1, n5, fun x hx y hy hxy => ne y (by rw [List.map_append]; exact List.mem_append_right _ hy) x hx hxy.symm⟩, fun x hx y hy hxy => ?_⟩
    rcases List.mem_append.mp hy with h | h
    · exact ne x (by rw [List.map_append]; exact List.mem_append_left _ hx) y h hxy
    · exact n3 x hx y (List.mem_append_right _ h) hxy
  · rcases List.mem_append.mp hq with h | h
    · exact hA q (List.mem_append_left _ h)
    · rcases List.mem_append.mp h with h | h
      · exact hF q.1 (hA1 q h)
      · exact hA q (List.mem_append_right _ (List.mem_append_right _ h))
end XC
