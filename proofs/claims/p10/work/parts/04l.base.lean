section XD
variable {p : Program} {l : Launch} {e : Env} {s : State} {m : MethodId} {args : Array Value} {below : List Frame} {meth : Method} {c : Code} {H : Heap} {locs : List Loc} {cells slots : Nat} {Q : State → Prop} {R : Room}
variable {cc : ByteArray} {pc nL : Nat} {ls : Array Slot} {rest st : List Value} {own : String} {D : va_G} {cA : Nat → ClassId} {A : Nat → Prop} {ws wc : va_W} {H0 : Heap} {mc ms idx : Nat} {α : Type}
theorem rwe {V : Option Value} {wc' W' : va_W} {a : Array Value} {st' : List Value} (hP : va_P D vwCl ws H) (hD : va_D A ws) (hS : va_S A H0 H locs) (hA : ∀ q, H0.size ≤ q → A q) (is : List Nat) (hC : is.map (fun i => ws[i]?) = wc.map some) (hn : va_nd is = true) (hfst : wc'.map (·.1) = wc.map (·.1)) (run : va_Run p l e R s m args below meth c H locs cells slots mc ms (F0 m pc ls st) rest (rwQ D (va_A wc H.size) (exq V wc') a) (va_A wc H.size)) (hW : putAll ws is wc' = W') (hst : V.toList ++ rest = st')
    (kk : ∀ (H1 : Heap) (locs1 : List Loc), va_P D vwCl W' H1 → va_D A W' → va_S A H0 H1 locs1 → W p l e R s m args below meth c H1 locs1 (cells + mc) (slots + ms) Q (F0 m (pc + 3) ls st')) : W p l e R s m args below meth c H locs cells slots Q (F0 m pc ls st) :=
  rw_go run hS (selF hD hC hA hS) (fun v ws' H1 locs1 h1 h2 h3 _ h5 h6 => by
    obtain ⟨rfl, rfl⟩ := h1
    obtain ⟨a1, a2⟩ := reJoin hP hD hC hn h5 h2 hfst
    subst hW
    subst hst
    exact kk H1 locs1 a1 a2 h6)
theorem rwe_all {V : Option Value} {W' : va_W} {a : Array Value} {st' : List Value} (hD : va_D A ws) (hS : va_S A H0 H locs) (hA : ∀ q, H0.size ≤ q → A q) (run : va_Run p l e R s m args below meth c H locs cells slots mc ms (F0 m pc ls st) rest (rwQ D (va_A ws H.size) (exq V W') a) (va_A ws H.size)) (hst : V.toList ++ rest = st')
    (kk : ∀ (H1 : Heap) (locs1 : List Loc), va_P D vwCl W' H1 → va_D A W' → va_S A H0 H1 locs1 → W p l e R s m args below meth c H1 locs1 (cells + mc) (slots + ms) Q (F0 m (pc + 3) ls st')) : W p l e R s m args below meth c H locs cells slots Q (F0 m pc ls st) :=
  rw_all hD hA hS run (fun v ws' H1 locs1 h1 h2 h3 h4 => by
    obtain ⟨rfl, rfl⟩ := h1
    subst hst
    exact kk H1 locs1 h2 h3 h4)
theorem gL {L M : va_W} {i : Nat} {v : Nat × va_E} (h : L[i]? = some v) : (L ++ M)[i]? = some v := by rw [List.getElem?_append_left (List.getElem?_eq_some_iff.mp h).1]; exact h
theorem gR {L M : va_W} {n i : Nat} {v : Nat × va_E} (hl : L.length = n) (h : M[i]? = some v) : (L ++ M)[n + i]? = some v := by rw [List.getElem?_append_right (by omega), hl, Nat.add_sub_cancel_left]; exact h
theorem sL {L M L' : va_W} {i : Nat} {v : Nat × va_E} (hi : i < L.length) (h : L.set i v = L') : (L ++ M).set i v = L' ++ M := by rw [List.set_append_left _ _ hi, h]
theorem sR {L M M' : va_W} {n i : Nat} {v : Nat × va_E} (hl : L.length = n) (h : M.set i v = M') : (L ++ M).set (n + i) v = L ++ M' := by rw [List.set_append_right _ _ (by omega), hl, Nat.add_sub_cancel_left, h]
theorem preP {cl : List vw_C} {L M : va_W} (hP : va_P D cl (L ++ M) H) : va_P D cl L H := va_P_perm hP fun _ h => List.mem_append_left _ h
theorem preD {L M : va_W} (hD : va_D A (L ++ M)) : va_D A L := by
  obtain ⟨h1, h2⟩ := va_D_iff.mp hD
  rw [List.map_append] at h1
  exact va_D_iff.mpr ⟨(List.nodup_append.mp h1).1, fun q hq => h2 q (List.mem_append_left _ hq)⟩
theorem sufP {cl : List vw_C} {L M : va_W} (hP : va_P D cl (L ++ M) H) : va_P D cl M H := va_P_perm hP fun _ h => List.mem_append_right _ h
/-- switches -/
theorem x_ts {A B ρ : α} (hx : p.tables.exec = Jvm.exec) (hb : c.code = cc) {dflt lo hi : Int} {offs : Array Int} {len : Nat} {x : Int32} (v : Int32) {off : Int} {tgt : Nat} (hdg : decode cc pc = .ok (.tableswitch dflt lo hi offs, len)) (h : (if x = v then A else B) = ρ) (h1 : ¬ v.toInt < lo) (h2 : ¬ hi < v.toInt) (ho : offs[(v.toInt - lo).toNat]? = some off) (ht : (pc : Int) + off = (tgt : Int))
    (kt : x = v → A = ρ → W p l e R s m args below meth c H locs cells slots Q (F0 m tgt ls rest)) (kf : ¬ x = v → B = ρ → W p l e R s m args below meth c H locs cells slots Q (F0 m pc ls (.int x :: rest))) : W p l e R s m args below meth c H locs cells slots Q (F0 m pc ls (.int x :: rest)) := by
  by_cases q : x = v
  · rw [if_pos q] at h
    have q' := q
    subst q'
    exact lv_tableIn hx hb hdg h1 h2 ho ht (kt q h)
  · rw [if_neg q] at h
    exact kf q h
theorem ts_out {x : Int32} {lo : Int} {vs : List Int32} (hv : ∀ i, i < vs.length → (vs.getD i 0).toInt = lo + i) (hne : ∀ v ∈ vs, ¬ x = v) : x.toInt < lo ∨ lo + vs.length - 1 < x.toInt := by
  rcases Int.lt_or_le x.toInt lo with h | h
  · exact Or.inl h
  · rcases Int.lt_or_le (lo + vs.length - 1) x.toInt with h2 | h2
    · exact Or.inr h2
    · exfalso
      have hi : (x.toInt - lo).toNat < vs.length := by omega
      have h3 := hv _ hi
      rw [show lo + ((x.toInt - lo).toNat : Int) = x.toInt by omega] at h3
      have h4 := Int32.toInt_inj.mp h3
      refine hne (vs.getD (x.toInt - lo).toNat 0) ?_ h4.symm
      rw [List.getD_eq_getElem?_getD, List.getElem?_eq_getElem hi]
      exact List.getElem_mem hi
end XD
/-- a choice on an optional reference -/
def oM {α : Type} (o : Option Nat) (A : α) (B : Nat → α) : α := match o with
  | none => A
  | some k => B k
abbrev Wro (d : Nat) (v : Option Value) (p : Program) (l : Launch) (e : Env) (s : State) (m : MethodId) (args : Array Value) (below : List Frame) (meth : Method) (c : Code) (pc : Nat) (ls : Array Slot) (st : List Value) : Prop := W p l e (rmOf d 0 0) s m args below meth c s.heap [] 0 0 (MQ below (roQ v) args s 0 0 (fun _ => False)) (F0 m pc ls st)
