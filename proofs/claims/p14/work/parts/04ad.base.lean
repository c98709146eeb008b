theorem StrE.same {bs : Nat} {u U : State} {H : Heap} (hv : U.vm = u.vm) (h : StrE bs u H) : StrE bs U H := by
  have hvm : u.vm.Alike U.vm := by rw [hv]; exact Vm.Alike.refl u.vm
  refine ⟨fun q hq => ?_, va_Z.moved hvm h.2.1, va_Zq.moved hvm h.2.2⟩
  obtain ⟨a, h1, h2⟩ := h.1 q hq
  exact ⟨a, vk_R.same hv h1, h2.moved hvm⟩
theorem StrE.warm {bs : Nat} {s U : State} {H : Heap} (hW : s.WarmedH U.vm) (h : StrE bs s H) : StrE bs U H := by
  refine ⟨fun q hq => ?_, va_Z.moved hW.alike h.2.1, va_Zq.moved hW.alike h.2.2⟩
  obtain ⟨a, h1, h2⟩ := h.1 q hq
  exact ⟨a, vk_R.warm hW h1, h2.moved hW.alike⟩
theorem StrE.kept {bs : Nat} {U : State} {H H1 : Heap} (h : StrE bs U H) (hq : ∀ a : Nat, a < H.size → ¬ (bs ≤ a) → H1[a]? = H[a]?) : StrE bs U H1 := by
  refine ⟨fun q h0 => ?_, va_Z.kept h.2.1 hq, va_Zq.kept h.2.2 hq⟩
  obtain ⟨a, h1, h2⟩ := h.1 q h0
  exact ⟨a, h1, h2.kept hq⟩
/-- links of nest mates: no words that go from caller to callee by themselves -/
def NN (U : State) : Prop := ∀ q ∈ nests, va_Nw (.methodLinkNest q.1 q.2.1 q.2.2.1 q.2.2.2) U
/-- what every method takes for granted; cA 9 is the base: worlds lie there and above -/
abbrev KK (D : va_G) (cA : Nat → ClassId) (U : State) : Prop := va_K D vwCl (tyL cA) U ∧ NN U ∧ StrE (cA 9) U U.heap ∧ cA 9 ≤ U.heap.size
theorem KK.call {D : va_G} {cA : Nat → ClassId} {U : State} {g : JFrame} {mk : MethodId} {a : Array Value} (h : KK D cA U) : KK D cA (U.calling g mk a) := ⟨va_K.moved (u := U) (U := U.calling g mk a) (Vm.Alike.refl U.vm) h.1, fun q hq => va_Nw.same (u := U) (U := U.calling g mk a) rfl rfl (h.2.1 q hq), StrE.same (u := U) (U := U.calling g mk a) rfl h.2.2.1, h.2.2.2⟩
