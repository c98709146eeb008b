section XD
variable {p : Program} {l : Launch} {e : Env} {s : State} {m : MethodId} {args : Array Value} {below : List Frame} {meth : Method} {c : Code} {H : Heap} {locs : List Loc} {cells slots : Nat} {Q : State → Prop} {R : Room}
variable {cc : ByteArray} {pc nL : Nat} {ls : Array Slot} {rest st : List Value} {own : String} {D : va_G} {cA : Nat → ClassId} {A : Nat → Prop} {ws wc : va_W} {H0 : Heap} {mc ms idx : Nat} {α : Type}
theorem sL {L M L' : va_W} {i : Nat} {v : Nat × va_E} (hi : i < L.length) (h : L.set i v = L') : (L ++ M).set i v = L' ++ M := by rw [List.set_append_left _ _ hi, h]
theorem sR {L M M' : va_W} {n i : Nat} {v : Nat × va_E} (hl : L.length = n) (h : M.set i v = M') : (L ++ M).set (n + i) v = L ++ M' := by rw [List.set_append_right _ _ (by omega), hl, Nat.add_sub_cancel_left, h]
theorem preP {cl : List vw_C} {L M : va_W} (hP : va_P D cl (L ++ M) H) : va_P D cl L H := va_P_perm hP fun _ h => List.mem_append_left _ h
theorem preD {L M : va_W} (hD : va_D A (L ++ M)) : va_D A L := by
  obtain ⟨h1, h2⟩ := va_D_iff.mp hD
  rw [List.map_append] at h1
  exact va_D_iff.mpr ⟨(List.nodup_append.mp h1).1, fun q hq => h2 q (List.mem_append_left _ hq)⟩
theorem sufP {cl : List vw_C} {L M : va_W} (hP : va_P D cl (L ++ M) H) : va_P D cl M H := va_P_perm hP fun _ h => List.mem_append_right _ h
/-- switches -/
theorem x_ts {A B ρ : α} (hx : p.tables.exec = Jvm.exec) (hb : c.code = cc) {dflt lo hi : Int} {offs : Array Int} {len : Nat} {x : Int32} (v : Int32) {off : Int} {tgt : Nat} (hdg : decode cc pc = .ok (.tableswitch dflt lo hi offs, len)) (h : (if x = v then A else B) = ρ) (h1 : ¬ v.toInt < lo) (h2 : ¬ hi < v.toInt) (ho : offs[(v.toInt - lo).toNat]? = some off) (ht : (pc : Int) + off = (tgt : Int))
    (kt : x = v → A = ρ → W p l e R s m args below meth c H locs cells slots Q (F0 m tgt ls rest)) (kf : ¬ x = v → B = ρ → W p l e R s m args below meth c H locs cells slots Q (F0 m pc ls (.int x :: rest))) : W p l e R s m args below meth c H locs cells slots Q (F0 m pc ls (.int x :: rest)) := by
  by_cases q : x = v
  · rw [if_pos q] at h
    have q' := q
    subst q'
    exact lv_tableIn hx hb hdg h1 h2 ho ht (kt q h)
  · rw [if_neg q] at h
    exact kf q h
end XD
