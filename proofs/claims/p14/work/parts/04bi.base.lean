section XC
variable {p : Program} {l : Launch} {e : Env} {s : State} {m : MethodId} {args : Array Value} {below : List Frame} {meth : Method} {c : Code} {H : Heap} {locs : List Loc} {cells slots : Nat} {Q : State → Prop}
variable {cc : ByteArray} {pc nL : Nat} {ls : Array Slot} {rest st : List Value} {own : String} {D : va_G} {cA : Nat → ClassId} {A : Nat → Prop} {ws wc : va_W} {H0 : Heap}
variable {mi : MI} {d d' mc ms mcR msR n idx b : Nat} {As av : List Value} {v : Option Value} {Pc : Array Value → State → Prop} {Qc : Array Value → State → Outcome → State → Prop} {free : Addr → Prop} {lv : List (Nat × Value)}
theorem rw_v {R : Room} {post : Option Value → va_W → Prop} (F : CallFix p m c cc nL s args ALL own) (hP : va_P D vwCl ws H) (hD : va_D A ws) (hS : va_S A s.heap H locs) (hr : meth.sig.returnType = none) (hlk : meth.locks = false) (hc : cells ≤ mc ∧ slots ≤ ms) (hv : post none ws) (hdg : decode cc pc = .ok (.return_, 1)) : W p l e R s m args below meth c H locs cells slots (MQ below (rwQ D A post) args s mc ms A) (F0 m pc ls []) := W.widen hc.1 hc.2 (W.vret F.1 F.2.1 hr (fun t ht _ => ⟨⟨_, ws, rfl, hv, by rw [ht]; exact hP, hD⟩, hS.F ht⟩) hS.2.2 hdg hlk)
end XC
def exq (V : Option Value) (W' : va_W) : Option Value → va_W → Prop := fun v ws' => v = V ∧ ws' = W'
def putAll (ws : va_W) (is : List Nat) (w1 : va_W) : va_W := (is.zip w1).foldl (fun w q => w.set q.1 q.2) ws
theorem putAll_get (is : List Nat) : ∀ (ws w1 : va_W), (∀ i ∈ is, i < ws.length) → is.length = w1.length → is.Nodup → (∀ (j i : Nat), is[j]? = some i → (putAll ws is w1)[i]? = w1[j]?) ∧ (∀ k, k ∉ is → (putAll ws is w1)[k]? = ws[k]?) ∧ (putAll ws is w1).length = ws.length := by
  induction is with
  | nil => exact fun ws w1 _ _ _ => ⟨fun j i h => by simp at h, fun k _ => rfl, rfl⟩
  | cons a is ih =>
    intro ws w1 hl hlen hnd
    cases w1 with
    | nil => cases hlen
    | cons b w1 =>
      have hnd' := List.nodup_cons.mp hnd
      obtain ⟨h1, h2, h3⟩ := ih (ws.set a b) w1 (fun i hi => by rw [List.length_set]; exact hl i (List.mem_cons_of_mem _ hi)) (Nat.succ.inj hlen) hnd'.2
      have e : putAll ws (a :: is) (b :: w1) = putAll (ws.set a b) is w1 := rfl
      rw [e]
      refine ⟨fun j i h => ?_, fun k hk => ?_, by rw [h3, List.length_set]⟩
      · cases j with
        | zero =>
          rw [List.getElem?_cons_zero] at h
          cases h
          rw [h2 a hnd'.1, List.getElem?_set_self (hl a List.mem_cons_self)]
          rfl
        | succ j =>
          rw [List.getElem?_cons_succ] at h
          exact h1 j i h
      · have hka : a ≠ k := fun q => hk (q ▸ List.mem_cons_self)
        rw [h2 k (fun q => hk (List.mem_cons_of_mem _ q)), List.getElem?_set_ne hka]
