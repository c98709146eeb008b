section XC
variable {p : Program} {l : Launch} {e : Env} {s : State} {m : MethodId} {args : Array Value} {below : List Frame} {meth : Method} {c : Code} {H : Heap} {locs : List Loc} {cells slots : Nat} {Q : State → Prop}
variable {cc : ByteArray} {pc nL : Nat} {ls : Array Slot} {rest st : List Value} {own : String} {D : va_G} {cA : Nat → ClassId} {A : Nat → Prop} {ws wc : va_W} {H0 : Heap}
variable {mi : MI} {d d' mc ms mcR msR n idx b : Nat} {As av : List Value} {v : Option Value} {Pc : Array Value → State → Prop} {Qc : Array Value → State → Outcome → State → Prop} {free : Addr → Prop} {lv : List (Nat × Value)}
theorem va_D_iff : va_D A ws ↔ (ws.map (·.1)).Nodup ∧ ∀ q ∈ ws, A q.1 := by
  constructor
  · intro h
    refine ⟨List.pairwise_iff_getElem.mpr fun i j hi hj hij he => ?_, fun q hq => by obtain ⟨i, hi⟩ := List.getElem?_of_mem hq; exact h.2 i q hi⟩
    rw [List.length_map] at hi hj
    rw [List.getElem_map, List.getElem_map] at he
    have := h.1 i j ws[i] ws[j] (List.getElem?_eq_getElem hi) (List.getElem?_eq_getElem hj) he
    omega
  · rintro ⟨h1, h2⟩
    refine ⟨fun i j x y hi hj hxy => ?_, fun k q hk => h2 q (List.mem_of_getElem? hk)⟩
    have key : ∀ (i j : Nat) (x y : Nat × va_E), ws[i]? = some x → ws[j]? = some y → x.1 = y.1 → ¬ i < j := by
      intro i j x y hi hj hxy hij
      obtain ⟨hil, hi⟩ := List.getElem?_eq_some_iff.mp hi
      obtain ⟨hjl, hj⟩ := List.getElem?_eq_some_iff.mp hj
      refine List.pairwise_iff_getElem.mp h1 i j (by rw [List.length_map]; exact hil) (by rw [List.length_map]; exact hjl) hij ?_
      rw [List.getElem_map, List.getElem_map, hi, hj]
      exact hxy
    have h3 := key i j x y hi hj hxy
    have h4 := key j i y x hj hi hxy.symm
    omega
theorem va_P_perm {cl : List vw_C} {w1 w2 : va_W} (h : va_P D cl w1 H) (hp : ∀ q ∈ w2, q ∈ w1) : va_P D cl w2 H := va_P_iff.mpr fun q hq => va_P_iff.mp h q (hp q hq)
/-- the middle of a world goes through a call -/
theorem segJoin {L1 S L2 S' : va_W} {H1 : Heap} (hP : va_P D vwCl (L1 ++ (S ++ L2)) H) (hD : va_D A (L1 ++ (S ++ L2))) (hF : ∀ q, va_A S H.size q → A q) (hk : ∀ q : Nat, q < H.size → ¬ va_A S H.size q → H1[q]? = H[q]?) (hP1 : va_P D vwCl S' H1) (hD1 : va_D (va_A S H.size) S') : va_P D vwCl (L1 ++ (S' ++ L2)) H1 ∧ va_D A (L1 ++ (S' ++ L2)) := by
  have hP' := va_P_iff.mp hP
  obtain ⟨hN, hA⟩ := va_D_iff.mp hD
  obtain ⟨hN1, hA1⟩ := va_D_iff.mp hD1
  have apart : ∀ q ∈ L1 ++ L2, q.1 < H.size ∧ ¬ va_A S H.size q.1 := by
    intro q hq
    have hq' : q ∈ L1 ++ (S ++ L2) := by
      rcases List.mem_append.mp hq with h | h
      · exact List.mem_append_left _ h
      · exact List.mem_append_right _ (List.mem_append_right _ h)
    have hlt := (hP' q hq').lt
    refine ⟨hlt, ?_⟩
    rintro (⟨k, e, h⟩ | h)
    · have hs : (q.1, e) ∈ S := List.mem_of_getElem? h
      rw [List.map_append, List.map_append] at hN
      rcases List.mem_append.mp hq with h | h
      · exact (List.nodup_append.mp hN).2.2 q.1 (List.mem_map_of_mem h) q.1 (List.mem_append_left _ (List.mem_map_of_mem (f := (·.1)) hs)) rfl
      · exact (List.nodup_append.mp (List.nodup_append.mp hN).2.1).2.2 q.1 (List.mem_map_of_mem (f := (·.1)) hs) q.1 (List.mem_map_of_mem h) rfl
    · omega
  refine ⟨va_P_iff.mpr fun q hq => ?_, va_D_iff.mpr ⟨?_, fun q hq => ?_⟩⟩
  · rcases List.mem_append.mp hq with h | h
    · have ha := apart q (List.mem_append_left _ h)
      exact (hP' q (List.mem_append_left _ h)).kept (hk q.1 ha.1 ha.2)
    · rcases List.mem_append.mp h with h | h
      · exact va_P_iff.mp hP1 q h
      · have ha := apart q (List.mem_append_right _ h)
        exact (hP' q (List.mem_append_right _ (List.mem_append_right _ h))).kept (hk q.1 ha.1 ha.2)
  · rw [List.map_append, List.map_append] at hN ⊢
    obtain ⟨n1, n2, n3⟩ := List.nodup_append.mp hN
    obtain ⟨n4, n5, n6⟩ := List.nodup_append.mp n2
    have ne : ∀ x ∈ (L1 ++ L2).map (·.1), ∀ y ∈ S'.map (·.1), x ≠ y := by
      intro x hx y hy hxy
      obtain ⟨q, hq, rfl⟩ := List.mem_map.mp hx
      obtain ⟨r, hr, rfl⟩ := List.mem_map.mp hy
      exact (apart q hq).2 (by rw [hxy]; exact hA1 r hr)
    refine List.nodup_append.mpr ⟨n1, List.nodup_append.mpr ⟨hN1, n5, fun x hx y hy hxy => ne y (by rw [List.map_append]; exact List.mem_append_right _ hy) x hx hxy.symm⟩, fun x hx y hy hxy => ?_⟩
    rcases List.mem_append.mp hy with h | h
    · exact ne x (by rw [List.map_append]; exact List.mem_append_left _ hx) y h hxy
    · exact n3 x hx y (List.mem_append_right _ h) hxy
  · rcases List.mem_append.mp hq with h | h
    · exact hA q (List.mem_append_left _ h)
    · rcases List.mem_append.mp h with h | h
      · exact hF q.1 (hA1 q h)
      · exact hA q (List.mem_append_right _ (List.mem_append_right _ h))
theorem segP {cl : List vw_C} {L1 S L2 : va_W} (hP : va_P D cl (L1 ++ (S ++ L2)) H) : va_P D cl S H := va_P_perm hP fun _ h => List.mem_append_right _ (List.mem_append_left _ h)
theorem segD {L1 S L2 : va_W} (hD : va_D A (L1 ++ (S ++ L2))) : va_D A S := by
  obtain ⟨h1, h2⟩ := va_D_iff.mp hD
  rw [List.map_append, List.map_append] at h1
  exact va_D_iff.mpr ⟨(List.nodup_append.mp (List.nodup_append.mp h1).2.1).1, fun q hq => h2 q (List.mem_append_right _ (List.mem_append_left _ hq))⟩
theorem rw_seg {R : Room} {a : Array Value} {post : Option Value → va_W → Prop} {L1 S L2 : va_W} (hP : va_P D vwCl (L1 ++ (S ++ L2)) H) (hD : va_D A (L1 ++ (S ++ L2))) (hA : ∀ q, H0.size ≤ q → A q) (hS : va_S A H0 H locs) (run : va_Run p l e R s m args below meth c H locs cells slots mc ms (F0 m pc ls st) rest (rwQ D (va_A S H.size) post a) (va_A S H.size))
    (kk : ∀ (v : Option Value) (S' : va_W) (H1 : Heap) (locs1 : List Loc), post v S' → va_P D vwCl (L1 ++ (S' ++ L2)) H1 → va_D A (L1 ++ (S' ++ L2)) → va_S A H0 H1 locs1 → W p l e R s m args below meth c H1 locs1 (cells + mc) (slots + ms) Q (F0 m (pc + 3) ls (v.toList ++ rest))) : W p l e R s m args below meth c H locs cells slots Q (F0 m pc ls st) :=
  rw_go run hS (freeAll (segD hD) hS hA) (fun v S' H1 locs1 h1 h2 h3 _ h5 h6 => by
    obtain ⟨a1, a2⟩ := segJoin hP hD (freeAll (segD hD) hS hA) h5 h2 h3
    exact kk v S' H1 locs1 h1 a1 a2 h6)
end XC
