theorem putAll_app (is1 is2 : List Nat) (w1 w2 ws : va_W) (h : is1.length = w1.length) : putAll ws (is1 ++ is2) (w1 ++ w2) = putAll (putAll ws is1 w1) is2 w2 := by
  unfold putAll
  rw [List.zip_append h, List.foldl_append]
theorem putAll_range (S : va_W) : ∀ (L1 L2 S' : va_W), S'.length = S.length → putAll (L1 ++ (S ++ L2)) (List.range' L1.length S.length) S' = L1 ++ (S' ++ L2) := by
  induction S with
  | nil =>
    intro L1 L2 S' h
    cases S' with
    | nil => rfl
    | cons => cases h
  | cons a S ih =>
    intro L1 L2 S' h
    cases S' with
    | nil => cases h
    | cons b S' =>
      have e : (L1 ++ ((a :: S) ++ L2)).set L1.length b = (L1 ++ [b]) ++ (S ++ L2) := by simp
      have h1 := ih (L1 ++ [b]) L2 S' (Nat.succ.inj h)
      rw [List.length_append] at h1
      show putAll ((L1 ++ ((a :: S) ++ L2)).set L1.length b) (List.range' (L1.length + 1) S.length) S' = _
      rw [e]
      exact h1.trans (by simp)
/-- a stretch of a world anew -/
theorem jsx {ws W' L1 S L2 S' : va_W} {is : List Nat} (h1 : ws = L1 ++ (S ++ L2)) (h2 : L1 ++ (S' ++ L2) = W') (hl : S'.length = S.length) (his : is = List.range' L1.length S.length) : putAll ws is S' = W' := by rw [h1, his, putAll_range S L1 L2 S' hl, h2]
section XD
variable {p : Program} {l : Launch} {e : Env} {s : State} {m : MethodId} {args : Array Value} {below : List Frame} {meth : Method} {c : Code} {H : Heap} {locs : List Loc} {cells slots : Nat} {Q : State → Prop} {R : Room}
variable {cc : ByteArray} {pc nL : Nat} {ls : Array Slot} {rest st : List Value} {own : String} {D : va_G} {cA : Nat → ClassId} {A : Nat → Prop} {ws wc : va_W} {H0 : Heap} {mc ms idx : Nat} {α : Type}
end XD
