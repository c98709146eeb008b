theorem inU_1 (i : Nat) {w : Cond} (h : tables_1_1[i]? = some w) : w ∈ lw_tbl := List.mem_append_right _ (List.mem_append_left _ (List.mem_of_getElem? h))
theorem inU_2 (i : Nat) {w : Cond} (h : tables_1_2[i]? = some w) : w ∈ lw_tbl := List.mem_append_right _ (List.mem_append_right _ (List.mem_append_left _ (List.mem_of_getElem? h)))
theorem inU_3 (i : Nat) {w : Cond} (h : tables_1_3[i]? = some w) : w ∈ lw_tbl := List.mem_append_right _ (List.mem_append_right _ (List.mem_append_right _ (List.mem_append_left _ (List.mem_of_getElem? h))))
theorem inU_4 (i : Nat) {w : Cond} (h : tables_1_4[i]? = some w) : w ∈ lw_tbl := List.mem_append_right _ (List.mem_append_right _ (List.mem_append_right _ (List.mem_append_right _ (List.mem_append_left _ (List.mem_of_getElem? h)))))
theorem inU_5 (i : Nat) {w : Cond} (h : tables_1_5[i]? = some w) : w ∈ lw_tbl := List.mem_append_right _ (List.mem_append_right _ (List.mem_append_right _ (List.mem_append_right _ (List.mem_append_right _ (List.mem_append_left _ (List.mem_of_getElem? h))))))
theorem inU_6 (i : Nat) {w : Cond} (h : tables_1_6[i]? = some w) : w ∈ lw_tbl := List.mem_append_right _ (List.mem_append_right _ (List.mem_append_right _ (List.mem_append_right _ (List.mem_append_right _ (List.mem_append_right _ (List.mem_append_left _ (List.mem_of_getElem? h)))))))
theorem inU_7 (i : Nat) {w : Cond} (h : tables_1_7[i]? = some w) : w ∈ lw_tbl := List.mem_append_right _ (List.mem_append_right _ (List.mem_append_right _ (List.mem_append_right _ (List.mem_append_right _ (List.mem_append_right _ (List.mem_append_right _ (List.mem_of_getElem? h)))))))
def gvC : Cond := Cond.and given_1 narrow_1
theorem wu_669 : (Jvm.Cond.stringRef "MoonOverTheHill$Tape" (58 : Nat) "off") ∈ lw_tbl := inU_3 129 rfl
theorem siteAt_X7_58 {s : State} {args : Array Value} {A : Nat → Prop} (hts : ∀ w ∈ lw_tbl, w.before args s = true) (hs : ∀ c ∈ flatC gvC, c.before args s = true) (hA : ∀ a : Nat, a < s.heap.size → ¬ A a) : ∃ a : Nat, vk_R "MoonOverTheHill$Tape" 58 "off" a s ∧ StrOK A s s.heap a ([111, 102, 102] : List Int32) := by
  have h1 := hs (.exactly (.string "MoonOverTheHill$Tape" 58) cN) (by decide +kernel)
  obtain ⟨a, -, -, -, ht, -⟩ := Cond.exactly_spec (args := args) (first := s) (o := none) (s := s) (idx := []) h1
  obtain ⟨v, hv, h4⟩ := va_Tof (tm := (.field (.string "MoonOverTheHill$Tape" 58) cN "value" "[B")) (ty := .byte) (N := 3) (f := fun j => .int (([111, 102, 102] : List Int32).getD j 0)) (A := A) (by decide) (hs (.arrayOf (.field (.string "MoonOverTheHill$Tape" 58) cN "value" "[B") .byte) (by decide +kernel)) (va_eqt (hs (.eq (.length (.field (.string "MoonOverTheHill$Tape" 58) cN "value" "[B")) (.int 3)) (by decide +kernel))) (fun j hj => match j, hj with | 0, _ => va_eqt (hs (.eq (.elem (.field (.string "MoonOverTheHill$Tape" 58) cN "value" "[B") (.int 0)) (.int 111)) (by decide +kernel)) | 1, _ => va_eqt (hs (.eq (.elem (.field (.string "MoonOverTheHill$Tape" 58) cN "value" "[B") (.int 1)) (.int 102)) (by decide +kernel)) | 2, _ => va_eqt (hs (.eq (.elem (.field (.string "MoonOverTheHill$Tape" 58) cN "value" "[B") (.int 2)) (.int 102)) (by decide +kernel)) | k + 3, h => absurd h (by omega)) hA
  exact ⟨a, vk_R.of (hts _ wu_669) ht, va_Oof h1 ht hA, vk_OFof ht (va_eqt (hs (.eq (.field (.string "MoonOverTheHill$Tape" 58) cN "coder" "B") (.int 0)) (by decide +kernel))) hA, v, vk_OFof ht hv hA, h4⟩
theorem wu_732 : (Jvm.Cond.stringRef "MoonOverTheHill$Tape" (68 : Nat) "node") ∈ lw_tbl := inU_3 192 rfl
theorem siteAt_X7_68 {s : State} {args : Array Value} {A : Nat → Prop} (hts : ∀ w ∈ lw_tbl, w.before args s = true) (hs : ∀ c ∈ flatC gvC, c.before args s = true) (hA : ∀ a : Nat, a < s.heap.size → ¬ A a) : ∃ a : Nat, vk_R "MoonOverTheHill$Tape" 68 "node" a s ∧ StrOK A s s.heap a ([110, 111, 100, 101] : List Int32) := by
  have h1 := hs (.exactly (.string "MoonOverTheHill$Tape" 68) cN) (by decide +kernel)
  obtain ⟨a, -, -, -, ht, -⟩ := Cond.exactly_spec (args := args) (first := s) (o := none) (s := s) (idx := []) h1
  obtain ⟨v, hv, h4⟩ := va_Tof (tm := (.field (.string "MoonOverTheHill$Tape" 68) cN "value" "[B")) (ty := .byte) (N := 4) (f := fun j => .int (([110, 111, 100, 101] : List Int32).getD j 0)) (A := A) (by decide) (hs (.arrayOf (.field (.string "MoonOverTheHill$Tape" 68) cN "value" "[B") .byte) (by decide +kernel)) (va_eqt (hs (.eq (.length (.field (.string "MoonOverTheHill$Tape" 68) cN "value" "[B")) (.int 4)) (by decide +kernel))) (fun j hj => match j, hj with | 0, _ => va_eqt (hs (.eq (.elem (.field (.string "MoonOverTheHill$Tape" 68) cN "value" "[B") (.int 0)) (.int 110)) (by decide +kernel)) | 1, _ => va_eqt (hs (.eq (.elem (.field (.string "MoonOverTheHill$Tape" 68) cN "value" "[B") (.int 1)) (.int 111)) (by decide +kernel)) | 2, _ => va_eqt (hs (.eq (.elem (.field (.string "MoonOverTheHill$Tape" 68) cN "value" "[B") (.int 2)) (.int 100)) (by decide +kernel)) | 3, _ => va_eqt (hs (.eq (.elem (.field (.string "MoonOverTheHill$Tape" 68) cN "value" "[B") (.int 3)) (.int 101)) (by decide +kernel)) | k + 4, h => absurd h (by omega)) hA
  exact ⟨a, vk_R.of (hts _ wu_732) ht, va_Oof h1 ht hA, vk_OFof ht (va_eqt (hs (.eq (.field (.string "MoonOverTheHill$Tape" 68) cN "coder" "B") (.int 0)) (by decide +kernel))) hA, v, vk_OFof ht hv hA, h4⟩
theorem wu_733 : (Jvm.Cond.stringRef "MoonOverTheHill$Tape" (70 : Nat) "swing") ∈ lw_tbl := inU_3 193 rfl
theorem siteAt_X7_70 {s : State} {args : Array Value} {A : Nat → Prop} (hts : ∀ w ∈ lw_tbl, w.before args s = true) (hs : ∀ c ∈ flatC gvC, c.before args s = true) (hA : ∀ a : Nat, a < s.heap.size → ¬ A a) : ∃ a : Nat, vk_R "MoonOverTheHill$Tape" 70 "swing" a s ∧ StrOK A s s.heap a ([115, 119, 105, 110, 103] : List Int32) := by
  have h1 := hs (.exactly (.string "MoonOverTheHill$Tape" 70) cN) (by decide +kernel)
  obtain ⟨a, -, -, -, ht, -⟩ := Cond.exactly_spec (args := args) (first := s) (o := none) (s := s) (idx := []) h1
  obtain ⟨v, hv, h4⟩ := va_Tof (tm := (.field (.string "MoonOverTheHill$Tape" 70) cN "value" "[B")) (ty := .byte) (N := 5) (f := fun j => .int (([115, 119, 105, 110, 103] : List Int32).getD j 0)) (A := A) (by decide) (hs (.arrayOf (.field (.string "MoonOverTheHill$Tape" 70) cN "value" "[B") .byte) (by decide +kernel)) (va_eqt (hs (.eq (.length (.field (.string "MoonOverTheHill$Tape" 70) cN "value" "[B")) (.int 5)) (by decide +kernel))) (fun j hj => match j, hj with | 0, _ => va_eqt (hs (.eq (.elem (.field (.string "MoonOverTheHill$Tape" 70) cN "value" "[B") (.int 0)) (.int 115)) (by decide +kernel)) | 1, _ => va_eqt (hs (.eq (.elem (.field (.string "MoonOverTheHill$Tape" 70) cN "value" "[B") (.int 1)) (.int 119)) (by decide +kernel)) | 2, _ => va_eqt (hs (.eq (.elem (.field (.string "MoonOverTheHill$Tape" 70) cN "value" "[B") (.int 2)) (.int 105)) (by decide +kernel)) | 3, _ => va_eqt (hs (.eq (.elem (.field (.string "MoonOverTheHill$Tape" 70) cN "value" "[B") (.int 3)) (.int 110)) (by decide +kernel)) | 4, _ => va_eqt (hs (.eq (.elem (.field (.string "MoonOverTheHill$Tape" 70) cN "value" "[B") (.int 4)) (.int 103)) (by decide +kernel)) | k + 5, h => absurd h (by omega)) hA
  exact ⟨a, vk_R.of (hts _ wu_733) ht, va_Oof h1 ht hA, vk_OFof ht (va_eqt (hs (.eq (.field (.string "MoonOverTheHill$Tape" 70) cN "coder" "B") (.int 0)) (by decide +kernel))) hA, v, vk_OFof ht hv hA, h4⟩
theorem wu_734 : (Jvm.Cond.stringRef "MoonOverTheHill$Tape" (72 : Nat) "notch") ∈ lw_tbl := inU_3 194 rfl
theorem siteAt_X7_72 {s : State} {args : Array Value} {A : Nat → Prop} (hts : ∀ w ∈ lw_tbl, w.before args s = true) (hs : ∀ c ∈ flatC gvC, c.before args s = true) (hA : ∀ a : Nat, a < s.heap.size → ¬ A a) : ∃ a : Nat, vk_R "MoonOverTheHill$Tape" 72 "notch" a s ∧ StrOK A s s.heap a ([110, 111, 116, 99, 104] : List Int32) := by
  have h1 := hs (.exactly (.string "MoonOverTheHill$Tape" 72) cN) (by decide +kernel)
  obtain ⟨a, -, -, -, ht, -⟩ := Cond.exactly_spec (args := args) (first := s) (o := none) (s := s) (idx := []) h1
  obtain ⟨v, hv, h4⟩ := va_Tof (tm := (.field (.string "MoonOverTheHill$Tape" 72) cN "value" "[B")) (ty := .byte) (N := 5) (f := fun j => .int (([110, 111, 116, 99, 104] : List Int32).getD j 0)) (A := A) (by decide) (hs (.arrayOf (.field (.string "MoonOverTheHill$Tape" 72) cN "value" "[B") .byte) (by decide +kernel)) (va_eqt (hs (.eq (.length (.field (.string "MoonOverTheHill$Tape" 72) cN "value" "[B")) (.int 5)) (by decide +kernel))) (fun j hj => match j, hj with | 0, _ => va_eqt (hs (.eq (.elem (.field (.string "MoonOverTheHill$Tape" 72) cN "value" "[B") (.int 0)) (.int 110)) (by decide +kernel)) | 1, _ => va_eqt (hs (.eq (.elem (.field (.string "MoonOverTheHill$Tape" 72) cN "value" "[B") (.int 1)) (.int 111)) (by decide +kernel)) | 2, _ => va_eqt (hs (.eq (.elem (.field (.string "MoonOverTheHill$Tape" 72) cN "value" "[B") (.int 2)) (.int 116)) (by decide +kernel)) | 3, _ => va_eqt (hs (.eq (.elem (.field (.string "MoonOverTheHill$Tape" 72) cN "value" "[B") (.int 3)) (.int 99)) (by decide +kernel)) | 4, _ => va_eqt (hs (.eq (.elem (.field (.string "MoonOverTheHill$Tape" 72) cN "value" "[B") (.int 4)) (.int 104)) (by decide +kernel)) | k + 5, h => absurd h (by omega)) hA
  exact ⟨a, vk_R.of (hts _ wu_734) ht, va_Oof h1 ht hA, vk_OFof ht (va_eqt (hs (.eq (.field (.string "MoonOverTheHill$Tape" 72) cN "coder" "B") (.int 0)) (by decide +kernel))) hA, v, vk_OFof ht hv hA, h4⟩
theorem wu_741 : (Jvm.Cond.stringRef "MoonOverTheHill$Tape" (84 : Nat) "stone") ∈ lw_tbl := inU_3 201 rfl
theorem siteAt_X7_84 {s : State} {args : Array Value} {A : Nat → Prop} (hts : ∀ w ∈ lw_tbl, w.before args s = true) (hs : ∀ c ∈ flatC gvC, c.before args s = true) (hA : ∀ a : Nat, a < s.heap.size → ¬ A a) : ∃ a : Nat, vk_R "MoonOverTheHill$Tape" 84 "stone" a s ∧ StrOK A s s.heap a ([115, 116, 111, 110, 101] : List Int32) := by
  have h1 := hs (.exactly (.string "MoonOverTheHill$Tape" 84) cN) (by decide +kernel)
  obtain ⟨a, -, -, -, ht, -⟩ := Cond.exactly_spec (args := args) (first := s) (o := none) (s := s) (idx := []) h1
  obtain ⟨v, hv, h4⟩ := va_Tof (tm := (.field (.string "MoonOverTheHill$Tape" 84) cN "value" "[B")) (ty := .byte) (N := 5) (f := fun j => .int (([115, 116, 111, 110, 101] : List Int32).getD j 0)) (A := A) (by decide) (hs (.arrayOf (.field (.string "MoonOverTheHill$Tape" 84) cN "value" "[B") .byte) (by decide +kernel)) (va_eqt (hs (.eq (.length (.field (.string "MoonOverTheHill$Tape" 84) cN "value" "[B")) (.int 5)) (by decide +kernel))) (fun j hj => match j, hj with | 0, _ => va_eqt (hs (.eq (.elem (.field (.string "MoonOverTheHill$Tape" 84) cN "value" "[B") (.int 0)) (.int 115)) (by decide +kernel)) | 1, _ => va_eqt (hs (.eq (.elem (.field (.string "MoonOverTheHill$Tape" 84) cN "value" "[B") (.int 1)) (.int 116)) (by decide +kernel)) | 2, _ => va_eqt (hs (.eq (.elem (.field (.string "MoonOverTheHill$Tape" 84) cN "value" "[B") (.int 2)) (.int 111)) (by decide +kernel)) | 3, _ => va_eqt (hs (.eq (.elem (.field (.string "MoonOverTheHill$Tape" 84) cN "value" "[B") (.int 3)) (.int 110)) (by decide +kernel)) | 4, _ => va_eqt (hs (.eq (.elem (.field (.string "MoonOverTheHill$Tape" 84) cN "value" "[B") (.int 4)) (.int 101)) (by decide +kernel)) | k + 5, h => absurd h (by omega)) hA
  exact ⟨a, vk_R.of (hts _ wu_741) ht, va_Oof h1 ht hA, vk_OFof ht (va_eqt (hs (.eq (.field (.string "MoonOverTheHill$Tape" 84) cN "coder" "B") (.int 0)) (by decide +kernel))) hA, v, vk_OFof ht hv hA, h4⟩
theorem wu_748 : (Jvm.Cond.stringRef "MoonOverTheHill$Tape" (94 : Nat) "cloud") ∈ lw_tbl := inU_3 208 rfl
theorem siteAt_X7_94 {s : State} {args : Array Value} {A : Nat → Prop} (hts : ∀ w ∈ lw_tbl, w.before args s = true) (hs : ∀ c ∈ flatC gvC, c.before args s = true) (hA : ∀ a : Nat, a < s.heap.size → ¬ A a) : ∃ a : Nat, vk_R "MoonOverTheHill$Tape" 94 "cloud" a s ∧ StrOK A s s.heap a ([99, 108, 111, 117, 100] : List Int32) := by
  have h1 := hs (.exactly (.string "MoonOverTheHill$Tape" 94) cN) (by decide +kernel)
  obtain ⟨a, -, -, -, ht, -⟩ := Cond.exactly_spec (args := args) (first := s) (o := none) (s := s) (idx := []) h1
  obtain ⟨v, hv, h4⟩ := va_Tof (tm := (.field (.string "MoonOverTheHill$Tape" 94) cN "value" "[B")) (ty := .byte) (N := 5) (f := fun j => .int (([99, 108, 111, 117, 100] : List Int32).getD j 0)) (A := A) (by decide) (hs (.arrayOf (.field (.string "MoonOverTheHill$Tape" 94) cN "value" "[B") .byte) (by decide +kernel)) (va_eqt (hs (.eq (.length (.field (.string "MoonOverTheHill$Tape" 94) cN "value" "[B")) (.int 5)) (by decide +kernel))) (fun j hj => match j, hj with | 0, _ => va_eqt (hs (.eq (.elem (.field (.string "MoonOverTheHill$Tape" 94) cN "value" "[B") (.int 0)) (.int 99)) (by decide +kernel)) | 1, _ => va_eqt (hs (.eq (.elem (.field (.string "MoonOverTheHill$Tape" 94) cN "value" "[B") (.int 1)) (.int 108)) (by decide +kernel)) | 2, _ => va_eqt (hs (.eq (.elem (.field (.string "MoonOverTheHill$Tape" 94) cN "value" "[B") (.int 2)) (.int 111)) (by decide +kernel)) | 3, _ => va_eqt (hs (.eq (.elem (.field (.string "MoonOverTheHill$Tape" 94) cN "value" "[B") (.int 3)) (.int 117)) (by decide +kernel)) | 4, _ => va_eqt (hs (.eq (.elem (.field (.string "MoonOverTheHill$Tape" 94) cN "value" "[B") (.int 4)) (.int 100)) (by decide +kernel)) | k + 5, h => absurd h (by omega)) hA
  exact ⟨a, vk_R.of (hts _ wu_748) ht, va_Oof h1 ht hA, vk_OFof ht (va_eqt (hs (.eq (.field (.string "MoonOverTheHill$Tape" 94) cN "coder" "B") (.int 0)) (by decide +kernel))) hA, v, vk_OFof ht hv hA, h4⟩
theorem wu_1401 : (Jvm.Cond.stringRef "MoonOverTheHillModel" (190 : Nat) "off") ∈ lw_tbl := inU_6 141 rfl
theorem siteAt_X9_190 {s : State} {args : Array Value} {A : Nat → Prop} (hts : ∀ w ∈ lw_tbl, w.before args s = true) (hs : ∀ c ∈ flatC gvC, c.before args s = true) (hA : ∀ a : Nat, a < s.heap.size → ¬ A a) : ∃ a : Nat, vk_R "MoonOverTheHillModel" 190 "off" a s ∧ StrOK A s s.heap a ([111, 102, 102] : List Int32) := by
  have h1 := hs (.exactly (.string "MoonOverTheHillModel" 190) cN) (by decide +kernel)
  obtain ⟨a, -, -, -, ht, -⟩ := Cond.exactly_spec (args := args) (first := s) (o := none) (s := s) (idx := []) h1
  obtain ⟨v, hv, h4⟩ := va_Tof (tm := (.field (.string "MoonOverTheHillModel" 190) cN "value" "[B")) (ty := .byte) (N := 3) (f := fun j => .int (([111, 102, 102] : List Int32).getD j 0)) (A := A) (by decide) (hs (.arrayOf (.field (.string "MoonOverTheHillModel" 190) cN "value" "[B") .byte) (by decide +kernel)) (va_eqt (hs (.eq (.length (.field (.string "MoonOverTheHillModel" 190) cN "value" "[B")) (.int 3)) (by decide +kernel))) (fun j hj => match j, hj with | 0, _ => va_eqt (hs (.eq (.elem (.field (.string "MoonOverTheHillModel" 190) cN "value" "[B") (.int 0)) (.int 111)) (by decide +kernel)) | 1, _ => va_eqt (hs (.eq (.elem (.field (.string "MoonOverTheHillModel" 190) cN "value" "[B") (.int 1)) (.int 102)) (by decide +kernel)) | 2, _ => va_eqt (hs (.eq (.elem (.field (.string "MoonOverTheHillModel" 190) cN "value" "[B") (.int 2)) (.int 102)) (by decide +kernel)) | k + 3, h => absurd h (by omega)) hA
  exact ⟨a, vk_R.of (hts _ wu_1401) ht, va_Oof h1 ht hA, vk_OFof ht (va_eqt (hs (.eq (.field (.string "MoonOverTheHillModel" 190) cN "coder" "B") (.int 0)) (by decide +kernel))) hA, v, vk_OFof ht hv hA, h4⟩
theorem wu_1424 : (Jvm.Cond.stringRef "MoonOverTheHillModel" (199 : Nat) "node") ∈ lw_tbl := inU_6 164 rfl
theorem siteAt_X9_199 {s : State} {args : Array Value} {A : Nat → Prop} (hts : ∀ w ∈ lw_tbl, w.before args s = true) (hs : ∀ c ∈ flatC gvC, c.before args s = true) (hA : ∀ a : Nat, a < s.heap.size → ¬ A a) : ∃ a : Nat, vk_R "MoonOverTheHillModel" 199 "node" a s ∧ StrOK A s s.heap a ([110, 111, 100, 101] : List Int32) := by
  have h1 := hs (.exactly (.string "MoonOverTheHillModel" 199) cN) (by decide +kernel)
  obtain ⟨a, -, -, -, ht, -⟩ := Cond.exactly_spec (args := args) (first := s) (o := none) (s := s) (idx := []) h1
  obtain ⟨v, hv, h4⟩ := va_Tof (tm := (.field (.string "MoonOverTheHillModel" 199) cN "value" "[B")) (ty := .byte) (N := 4) (f := fun j => .int (([110, 111, 100, 101] : List Int32).getD j 0)) (A := A) (by decide) (hs (.arrayOf (.field (.string "MoonOverTheHillModel" 199) cN "value" "[B") .byte) (by decide +kernel)) (va_eqt (hs (.eq (.length (.field (.string "MoonOverTheHillModel" 199) cN "value" "[B")) (.int 4)) (by decide +kernel))) (fun j hj => match j, hj with | 0, _ => va_eqt (hs (.eq (.elem (.field (.string "MoonOverTheHillModel" 199) cN "value" "[B") (.int 0)) (.int 110)) (by decide +kernel)) | 1, _ => va_eqt (hs (.eq (.elem (.field (.string "MoonOverTheHillModel" 199) cN "value" "[B") (.int 1)) (.int 111)) (by decide +kernel)) | 2, _ => va_eqt (hs (.eq (.elem (.field (.string "MoonOverTheHillModel" 199) cN "value" "[B") (.int 2)) (.int 100)) (by decide +kernel)) | 3, _ => va_eqt (hs (.eq (.elem (.field (.string "MoonOverTheHillModel" 199) cN "value" "[B") (.int 3)) (.int 101)) (by decide +kernel)) | k + 4, h => absurd h (by omega)) hA
  exact ⟨a, vk_R.of (hts _ wu_1424) ht, va_Oof h1 ht hA, vk_OFof ht (va_eqt (hs (.eq (.field (.string "MoonOverTheHillModel" 199) cN "coder" "B") (.int 0)) (by decide +kernel))) hA, v, vk_OFof ht hv hA, h4⟩
theorem wu_1425 : (Jvm.Cond.stringRef "MoonOverTheHillModel" (201 : Nat) "swing") ∈ lw_tbl := inU_6 165 rfl
theorem siteAt_X9_201 {s : State} {args : Array Value} {A : Nat → Prop} (hts : ∀ w ∈ lw_tbl, w.before args s = true) (hs : ∀ c ∈ flatC gvC, c.before args s = true) (hA : ∀ a : Nat, a < s.heap.size → ¬ A a) : ∃ a : Nat, vk_R "MoonOverTheHillModel" 201 "swing" a s ∧ StrOK A s s.heap a ([115, 119, 105, 110, 103] : List Int32) := by
  have h1 := hs (.exactly (.string "MoonOverTheHillModel" 201) cN) (by decide +kernel)
  obtain ⟨a, -, -, -, ht, -⟩ := Cond.exactly_spec (args := args) (first := s) (o := none) (s := s) (idx := []) h1
  obtain ⟨v, hv, h4⟩ := va_Tof (tm := (.field (.string "MoonOverTheHillModel" 201) cN "value" "[B")) (ty := .byte) (N := 5) (f := fun j => .int (([115, 119, 105, 110, 103] : List Int32).getD j 0)) (A := A) (by decide) (hs (.arrayOf (.field (.string "MoonOverTheHillModel" 201) cN "value" "[B") .byte) (by decide +kernel)) (va_eqt (hs (.eq (.length (.field (.string "MoonOverTheHillModel" 201) cN "value" "[B")) (.int 5)) (by decide +kernel))) (fun j hj => match j, hj with | 0, _ => va_eqt (hs (.eq (.elem (.field (.string "MoonOverTheHillModel" 201) cN "value" "[B") (.int 0)) (.int 115)) (by decide +kernel)) | 1, _ => va_eqt (hs (.eq (.elem (.field (.string "MoonOverTheHillModel" 201) cN "value" "[B") (.int 1)) (.int 119)) (by decide +kernel)) | 2, _ => va_eqt (hs (.eq (.elem (.field (.string "MoonOverTheHillModel" 201) cN "value" "[B") (.int 2)) (.int 105)) (by decide +kernel)) | 3, _ => va_eqt (hs (.eq (.elem (.field (.string "MoonOverTheHillModel" 201) cN "value" "[B") (.int 3)) (.int 110)) (by decide +kernel)) | 4, _ => va_eqt (hs (.eq (.elem (.field (.string "MoonOverTheHillModel" 201) cN "value" "[B") (.int 4)) (.int 103)) (by decide +kernel)) | k + 5, h => absurd h (by omega)) hA
  exact ⟨a, vk_R.of (hts _ wu_1425) ht, va_Oof h1 ht hA, vk_OFof ht (va_eqt (hs (.eq (.field (.string "MoonOverTheHillModel" 201) cN "coder" "B") (.int 0)) (by decide +kernel))) hA, v, vk_OFof ht hv hA, h4⟩
theorem wu_1426 : (Jvm.Cond.stringRef "MoonOverTheHillModel" (203 : Nat) "notch") ∈ lw_tbl := inU_6 166 rfl
theorem siteAt_X9_203 {s : State} {args : Array Value} {A : Nat → Prop} (hts : ∀ w ∈ lw_tbl, w.before args s = true) (hs : ∀ c ∈ flatC gvC, c.before args s = true) (hA : ∀ a : Nat, a < s.heap.size → ¬ A a) : ∃ a : Nat, vk_R "MoonOverTheHillModel" 203 "notch" a s ∧ StrOK A s s.heap a ([110, 111, 116, 99, 104] : List Int32) := by
  have h1 := hs (.exactly (.string "MoonOverTheHillModel" 203) cN) (by decide +kernel)
  obtain ⟨a, -, -, -, ht, -⟩ := Cond.exactly_spec (args := args) (first := s) (o := none) (s := s) (idx := []) h1
  obtain ⟨v, hv, h4⟩ := va_Tof (tm := (.field (.string "MoonOverTheHillModel" 203) cN "value" "[B")) (ty := .byte) (N := 5) (f := fun j => .int (([110, 111, 116, 99, 104] : List Int32).getD j 0)) (A := A) (by decide) (hs (.arrayOf (.field (.string "MoonOverTheHillModel" 203) cN "value" "[B") .byte) (by decide +kernel)) (va_eqt (hs (.eq (.length (.field (.string "MoonOverTheHillModel" 203) cN "value" "[B")) (.int 5)) (by decide +kernel))) (fun j hj => match j, hj with | 0, _ => va_eqt (hs (.eq (.elem (.field (.string "MoonOverTheHillModel" 203) cN "value" "[B") (.int 0)) (.int 110)) (by decide +kernel)) | 1, _ => va_eqt (hs (.eq (.elem (.field (.string "MoonOverTheHillModel" 203) cN "value" "[B") (.int 1)) (.int 111)) (by decide +kernel)) | 2, _ => va_eqt (hs (.eq (.elem (.field (.string "MoonOverTheHillModel" 203) cN "value" "[B") (.int 2)) (.int 116)) (by decide +kernel)) | 3, _ => va_eqt (hs (.eq (.elem (.field (.string "MoonOverTheHillModel" 203) cN "value" "[B") (.int 3)) (.int 99)) (by decide +kernel)) | 4, _ => va_eqt (hs (.eq (.elem (.field (.string "MoonOverTheHillModel" 203) cN "value" "[B") (.int 4)) (.int 104)) (by decide +kernel)) | k + 5, h => absurd h (by omega)) hA
  exact ⟨a, vk_R.of (hts _ wu_1426) ht, va_Oof h1 ht hA, vk_OFof ht (va_eqt (hs (.eq (.field (.string "MoonOverTheHillModel" 203) cN "coder" "B") (.int 0)) (by decide +kernel))) hA, v, vk_OFof ht hv hA, h4⟩
theorem wu_1427 : (Jvm.Cond.stringRef "MoonOverTheHillModel" (204 : Nat) "stone") ∈ lw_tbl := inU_6 167 rfl
theorem siteAt_X9_204 {s : State} {args : Array Value} {A : Nat → Prop} (hts : ∀ w ∈ lw_tbl, w.before args s = true) (hs : ∀ c ∈ flatC gvC, c.before args s = true) (hA : ∀ a : Nat, a < s.heap.size → ¬ A a) : ∃ a : Nat, vk_R "MoonOverTheHillModel" 204 "stone" a s ∧ StrOK A s s.heap a ([115, 116, 111, 110, 101] : List Int32) := by
  have h1 := hs (.exactly (.string "MoonOverTheHillModel" 204) cN) (by decide +kernel)
  obtain ⟨a, -, -, -, ht, -⟩ := Cond.exactly_spec (args := args) (first := s) (o := none) (s := s) (idx := []) h1
  obtain ⟨v, hv, h4⟩ := va_Tof (tm := (.field (.string "MoonOverTheHillModel" 204) cN "value" "[B")) (ty := .byte) (N := 5) (f := fun j => .int (([115, 116, 111, 110, 101] : List Int32).getD j 0)) (A := A) (by decide) (hs (.arrayOf (.field (.string "MoonOverTheHillModel" 204) cN "value" "[B") .byte) (by decide +kernel)) (va_eqt (hs (.eq (.length (.field (.string "MoonOverTheHillModel" 204) cN "value" "[B")) (.int 5)) (by decide +kernel))) (fun j hj => match j, hj with | 0, _ => va_eqt (hs (.eq (.elem (.field (.string "MoonOverTheHillModel" 204) cN "value" "[B") (.int 0)) (.int 115)) (by decide +kernel)) | 1, _ => va_eqt (hs (.eq (.elem (.field (.string "MoonOverTheHillModel" 204) cN "value" "[B") (.int 1)) (.int 116)) (by decide +kernel)) | 2, _ => va_eqt (hs (.eq (.elem (.field (.string "MoonOverTheHillModel" 204) cN "value" "[B") (.int 2)) (.int 111)) (by decide +kernel)) | 3, _ => va_eqt (hs (.eq (.elem (.field (.string "MoonOverTheHillModel" 204) cN "value" "[B") (.int 3)) (.int 110)) (by decide +kernel)) | 4, _ => va_eqt (hs (.eq (.elem (.field (.string "MoonOverTheHillModel" 204) cN "value" "[B") (.int 4)) (.int 101)) (by decide +kernel)) | k + 5, h => absurd h (by omega)) hA
  exact ⟨a, vk_R.of (hts _ wu_1427) ht, va_Oof h1 ht hA, vk_OFof ht (va_eqt (hs (.eq (.field (.string "MoonOverTheHillModel" 204) cN "coder" "B") (.int 0)) (by decide +kernel))) hA, v, vk_OFof ht hv hA, h4⟩
theorem wu_1428 : (Jvm.Cond.stringRef "MoonOverTheHillModel" (205 : Nat) "cloud") ∈ lw_tbl := inU_6 168 rfl
theorem siteAt_X9_205 {s : State} {args : Array Value} {A : Nat → Prop} (hts : ∀ w ∈ lw_tbl, w.before args s = true) (hs : ∀ c ∈ flatC gvC, c.before args s = true) (hA : ∀ a : Nat, a < s.heap.size → ¬ A a) : ∃ a : Nat, vk_R "MoonOverTheHillModel" 205 "cloud" a s ∧ StrOK A s s.heap a ([99, 108, 111, 117, 100] : List Int32) := by
  have h1 := hs (.exactly (.string "MoonOverTheHillModel" 205) cN) (by decide +kernel)
  obtain ⟨a, -, -, -, ht, -⟩ := Cond.exactly_spec (args := args) (first := s) (o := none) (s := s) (idx := []) h1
  obtain ⟨v, hv, h4⟩ := va_Tof (tm := (.field (.string "MoonOverTheHillModel" 205) cN "value" "[B")) (ty := .byte) (N := 5) (f := fun j => .int (([99, 108, 111, 117, 100] : List Int32).getD j 0)) (A := A) (by decide) (hs (.arrayOf (.field (.string "MoonOverTheHillModel" 205) cN "value" "[B") .byte) (by decide +kernel)) (va_eqt (hs (.eq (.length (.field (.string "MoonOverTheHillModel" 205) cN "value" "[B")) (.int 5)) (by decide +kernel))) (fun j hj => match j, hj with | 0, _ => va_eqt (hs (.eq (.elem (.field (.string "MoonOverTheHillModel" 205) cN "value" "[B") (.int 0)) (.int 99)) (by decide +kernel)) | 1, _ => va_eqt (hs (.eq (.elem (.field (.string "MoonOverTheHillModel" 205) cN "value" "[B") (.int 1)) (.int 108)) (by decide +kernel)) | 2, _ => va_eqt (hs (.eq (.elem (.field (.string "MoonOverTheHillModel" 205) cN "value" "[B") (.int 2)) (.int 111)) (by decide +kernel)) | 3, _ => va_eqt (hs (.eq (.elem (.field (.string "MoonOverTheHillModel" 205) cN "value" "[B") (.int 3)) (.int 117)) (by decide +kernel)) | 4, _ => va_eqt (hs (.eq (.elem (.field (.string "MoonOverTheHillModel" 205) cN "value" "[B") (.int 4)) (.int 100)) (by decide +kernel)) | k + 5, h => absurd h (by omega)) hA
  exact ⟨a, vk_R.of (hts _ wu_1428) ht, va_Oof h1 ht hA, vk_OFof ht (va_eqt (hs (.eq (.field (.string "MoonOverTheHillModel" 205) cN "coder" "B") (.int 0)) (by decide +kernel))) hA, v, vk_OFof ht hv hA, h4⟩
theorem wu_683 : (Jvm.Cond.laysStatic "java/lang/String" "COMPACT_STRINGS" "Z") ∈ lw_tbl := inU_3 143 rfl
theorem wu_74 : (Jvm.Cond.initialized "java/lang/String") ∈ lw_tbl := inU_1 14 rfl
theorem wu_699 : (Jvm.Cond.laysStatic "jdk/internal/util/Preconditions" "SIOOBE_FORMATTER" "Ljava/util/function/BiFunction;") ∈ lw_tbl := inU_3 159 rfl
theorem wu_76 : (Jvm.Cond.initialized "jdk/internal/util/Preconditions") ∈ lw_tbl := inU_1 16 rfl
theorem start_str {s : State} {args : Array Value} (bs : Nat) (hts : ∀ w ∈ lw_tbl, w.before args s = true) (hs : ∀ c ∈ flatC gvC, c.before args s = true) (hA : ∀ a : Nat, a < s.heap.size → ¬ (bs ≤ a)) : StrE bs s s.heap := by
  refine ⟨fun q hq => ?_, va_Zof (hts _ wu_683) (hts _ wu_74) (va_eqi (hs (.eq (.static cN "COMPACT_STRINGS" "Z") (.int 1)) (by decide +kernel))) hA, va_Zqof (hts _ wu_699) (hts _ wu_76) (hs (.isRef (.static cP "SIOOBE_FORMATTER" fP)) (by decide +kernel)) hA⟩
  simp only [sites, List.mem_cons, List.not_mem_nil, or_false] at hq
  rcases hq with rfl | rfl | rfl | rfl | rfl | rfl | rfl | rfl | rfl | rfl | rfl | rfl
  · exact siteAt_X7_58 hts hs hA
  · exact siteAt_X7_68 hts hs hA
  · exact siteAt_X7_70 hts hs hA
  · exact siteAt_X7_72 hts hs hA
  · exact siteAt_X7_84 hts hs hA
  · exact siteAt_X7_94 hts hs hA
  · exact siteAt_X9_190 hts hs hA
  · exact siteAt_X9_199 hts hs hA
  · exact siteAt_X9_201 hts hs hA
  · exact siteAt_X9_203 hts hs hA
  · exact siteAt_X9_204 hts hs hA
  · exact siteAt_X9_205 hts hs hA
theorem wu_89 : (Jvm.Cond.methodLinkNest "MoonOverTheHill" (9 : Nat) ({ cls := "MoonOverTheHill$State", name := "<init>", desc := "()V" } : Jvm.MethodName) "MoonOverTheHill") ∈ lw_tbl := inU_1 29 rfl
theorem wu_95 : (Jvm.Cond.methodLinkNest "MoonOverTheHill$State" (17 : Nat) ({ cls := "MoonOverTheHill$Hill", name := "<init>", desc := "()V" } : Jvm.MethodName) "MoonOverTheHill") ∈ lw_tbl := inU_1 35 rfl
theorem wu_190 : (Jvm.Cond.methodLinkNest "MoonOverTheHill" (33 : Nat) ({ cls := "MoonOverTheHill$Tape", name := "<init>", desc := "()V" } : Jvm.MethodName) "MoonOverTheHill") ∈ lw_tbl := inU_1 130 rfl
theorem wu_215 : (Jvm.Cond.methodLinkNest "MoonOverTheHill" (40 : Nat) ({ cls := "MoonOverTheHill$Places", name := "<init>", desc := "()V" } : Jvm.MethodName) "MoonOverTheHill") ∈ lw_tbl := inU_1 155 rfl
theorem wu_226 : (Jvm.Cond.methodLinkNest "MoonOverTheHill" (55 : Nat) ({ cls := "MoonOverTheHill$Shelf", name := "<init>", desc := "()V" } : Jvm.MethodName) "MoonOverTheHill") ∈ lw_tbl := inU_1 166 rfl
theorem wu_489 : (Jvm.Cond.methodLinkNest "MoonOverTheHill$Moon" (80 : Nat) ({ cls := "MoonOverTheHill", name := "isIn", desc := "(III)Z" } : Jvm.MethodName) "MoonOverTheHill") ∈ lw_tbl := inU_2 189 rfl
theorem wu_518 : (Jvm.Cond.methodLinkNest "MoonOverTheHill$Hill" (55 : Nat) ({ cls := "MoonOverTheHill", name := "isIn", desc := "(III)Z" } : Jvm.MethodName) "MoonOverTheHill") ∈ lw_tbl := inU_2 218 rfl
theorem wu_730 : (Jvm.Cond.methodLinkNest "MoonOverTheHill$Tape" (105 : Nat) ({ cls := "MoonOverTheHill", name := "isIn", desc := "(III)Z" } : Jvm.MethodName) "MoonOverTheHill") ∈ lw_tbl := inU_3 190 rfl
theorem start_nn {s : State} {args : Array Value} (hts : ∀ w ∈ lw_tbl, w.before args s = true) : NN s := by
  intro q hq
  simp only [nests, List.mem_cons, List.not_mem_nil, or_false] at hq
  rcases hq with rfl | rfl | rfl | rfl | rfl | rfl | rfl | rfl
  · exact va_Nw.of rfl (hts _ wu_89)
  · exact va_Nw.of rfl (hts _ wu_95)
  · exact va_Nw.of rfl (hts _ wu_190)
  · exact va_Nw.of rfl (hts _ wu_215)
  · exact va_Nw.of rfl (hts _ wu_226)
  · exact va_Nw.of rfl (hts _ wu_489)
  · exact va_Nw.of rfl (hts _ wu_518)
  · exact va_Nw.of rfl (hts _ wu_730)
theorem wu_115 : (Jvm.Cond.arrayClass Jvm.ClassFile.FieldType.int) ∈ lw_tbl := inU_1 55 rfl
theorem wu_243 : (Jvm.Cond.arrayClass Jvm.ClassFile.FieldType.long) ∈ lw_tbl := inU_1 183 rfl
theorem wu_1644 : (Jvm.Cond.arrayClass Jvm.ClassFile.FieldType.boolean) ∈ lw_tbl := inU_7 144 rfl
theorem wu_224 : (Jvm.Cond.arrayOver (Jvm.ClassFile.FieldType.object "MoonOverTheHill$Shelf")) ∈ lw_tbl := inU_1 164 rfl
theorem wu_1132 : (Jvm.Cond.arrayOver (Jvm.ClassFile.FieldType.array Jvm.ClassFile.FieldType.int)) ∈ lw_tbl := inU_5 112 rfl
theorem wu_1130 : (Jvm.Cond.arrayOver (Jvm.ClassFile.FieldType.array Jvm.ClassFile.FieldType.long)) ∈ lw_tbl := inU_5 110 rfl
theorem start_ao {s : State} {args : Array Value} (hts : ∀ w ∈ lw_tbl, w.before args s = true) : AOs s := ⟨va_AO.of (hts _ wu_224), hts _ wu_1132, hts _ wu_1130⟩
theorem arr_prim {s : State} {args : Array Value} {ty : FieldType} (hty : (∃ C, ty = .object C) → False) (h : (Cond.arrayClass ty).before args s = true) : ∃ c : ClassId, ArrOfT s c ty ∧ va_RA s c ty := by
  obtain ⟨c, k, comp, h1, h2, h3⟩ := Cond.arrayClass_spec h
  refine ⟨c, fun N z => ⟨(fun _ h => by cases h), k, h2, comp, h3⟩, ?_⟩
  cases ty with
  | object C => exact absurd ⟨C, rfl⟩ hty
  | _ => exact h1
theorem arr_obj {s : State} {args : Array Value} {C : String} (h : (Cond.arrayOver (.object C)).before args s = true) : ∃ c : ClassId, ArrOfT s c (.object C) ∧ va_RA s c (.object C) := by
  obtain ⟨comp, c, k, h1, -, h3, h4, h5⟩ := Cond.arrayOver_spec h
  exact ⟨c, fun N z => ⟨(fun _ h => by cases h), k, h3, comp, h4⟩, k, comp, h3, h4, h1, h5⟩
theorem arr_arr {s : State} {args : Array Value} {t : FieldType} (h : (Cond.arrayOver (.array t)).before args s = true) : ∃ c : ClassId, ArrOfT s c (.array t) ∧ va_RA s c (.array t) := by
  obtain ⟨comp, c, k, h1, -, h3, h4, h5⟩ := arrayOver_specB h
  exact ⟨c, fun N z => ⟨(fun _ h => by cases h), k, h3, comp, h4⟩, h5⟩
theorem wu_100 : (Jvm.Cond.instantiable "MoonOverTheHill$Few" (2 : Nat)) ∈ lw_tbl := inU_1 40 rfl
theorem wu_94 : (Jvm.Cond.instantiable "MoonOverTheHill$Hill" (4 : Nat)) ∈ lw_tbl := inU_1 34 rfl
theorem wu_179 : (Jvm.Cond.instantiable "MoonOverTheHill$Moon" (1 : Nat)) ∈ lw_tbl := inU_1 119 rfl
theorem wu_214 : (Jvm.Cond.instantiable "MoonOverTheHill$Places" (1 : Nat)) ∈ lw_tbl := inU_1 154 rfl
theorem wu_452 : (Jvm.Cond.instantiable "MoonOverTheHill$Question" (5 : Nat)) ∈ lw_tbl := inU_2 152 rfl
theorem wu_225 : (Jvm.Cond.instantiable "MoonOverTheHill$Shelf" (4 : Nat)) ∈ lw_tbl := inU_1 165 rfl
theorem wu_88 : (Jvm.Cond.instantiable "MoonOverTheHill$State" (10 : Nat)) ∈ lw_tbl := inU_1 28 rfl
theorem wu_189 : (Jvm.Cond.instantiable "MoonOverTheHill$Tape" (6 : Nat)) ∈ lw_tbl := inU_1 129 rfl
theorem wu_80 : (Jvm.Cond.instantiable "MoonOverTheHill" (9 : Nat)) ∈ lw_tbl := inU_1 20 rfl
theorem wu_1124 : (Jvm.Cond.instantiable "MoonOverTheHillModel" (29 : Nat)) ∈ lw_tbl := inU_5 104 rfl
set_option maxRecDepth 100000 in
theorem start_KK {s : State} {args : Array Value} (hts : ∀ w ∈ lw_tbl, w.before args s = true) (hs : ∀ c ∈ flatC gvC, c.before args s = true) : ∃ (D : va_G) (cA : Nat → ClassId), cA 9 = s.heap.size ∧ KK D cA s ∧ AOs s := by
  have hF : ∀ w ∈ ALL, w.before args s = true := fun w hw => hts w (List.mem_filter.mp hw).1
  obtain ⟨c0, i0, k0⟩ := u_known (C := RX0) (T := TX0) (N := 2) (n := 2) hF wsin_X0 (hts _ wu_100)
  obtain ⟨c1, i1, k1⟩ := u_known (C := RX1) (T := TX1) (N := 4) (n := 4) hF wsin_X1 (hts _ wu_94)
  obtain ⟨c2, i2, k2⟩ := u_known (C := RX2) (T := TX2) (N := 1) (n := 1) hF wsin_X2 (hts _ wu_179)
  obtain ⟨c3, i3, k3⟩ := u_known (C := RX3) (T := TX3) (N := 1) (n := 1) hF wsin_X3 (hts _ wu_214)
  obtain ⟨c4, i4, k4⟩ := u_known (C := RX4) (T := TX4) (N := 5) (n := 5) hF wsin_X4 (hts _ wu_452)
  obtain ⟨c5, i5, k5⟩ := u_known (C := RX5) (T := TX5) (N := 4) (n := 4) hF wsin_X5 (hts _ wu_225)
  obtain ⟨c6, i6, k6⟩ := u_known (C := RX6) (T := TX6) (N := 10) (n := 10) hF wsin_X6 (hts _ wu_88)
  obtain ⟨c7, i7, k7⟩ := u_known (C := RX7) (T := TX7) (N := 6) (n := 6) hF wsin_X7 (hts _ wu_189)
  obtain ⟨c8, i8, k8⟩ := u_known (C := RX8) (T := TX8) (N := 9) (n := 9) hF wsin_X8 (hts _ wu_80)
  obtain ⟨c9, i9, k9⟩ := u_known (C := RX9) (T := TX9) (N := 29) (n := 29) hF wsin_X9 (hts _ wu_1124)
  obtain ⟨a0, p0⟩ := arr_prim (ty := .int) (fun h => by obtain ⟨C, h⟩ := h; cases h) (hts _ wu_115)
  obtain ⟨a1, p1⟩ := arr_prim (ty := .long) (fun h => by obtain ⟨C, h⟩ := h; cases h) (hts _ wu_243)
  obtain ⟨a2, p2⟩ := arr_prim (ty := .boolean) (fun h => by obtain ⟨C, h⟩ := h; cases h) (hts _ wu_1644)
  obtain ⟨a3, p3⟩ := arr_obj (hts _ wu_224)
  obtain ⟨a4, p4⟩ := arr_arr (hts _ wu_1132)
  obtain ⟨a5, p5⟩ := arr_arr (hts _ wu_1130)
  refine ⟨(pickA [c0, c1, c2, c3, c4, c5, c6, c7, c8, c9], fun k => match k with | 0 => i0 | 1 => i1 | 2 => i2 | 3 => i3 | 4 => i4 | 5 => i5 | 6 => i6 | 7 => i7 | 8 => i8 | _ => i9), pickA [a0, a1, a2, a3, a4, a5, 0, 0, 0, s.heap.size], rfl, ⟨⟨fun c q hq => ?_, fun k q hq => ?_⟩, start_nn hts, start_str s.heap.size hts hs (fun a h => Nat.not_le.mpr h), Nat.le_refl _⟩, start_ao hts⟩
  · match c, hq with
    | 0, h => cases h; exact k0
    | 1, h => cases h; exact k1
    | 2, h => cases h; exact k2
    | 3, h => cases h; exact k3
    | 4, h => cases h; exact k4
    | 5, h => cases h; exact k5
    | 6, h => cases h; exact k6
    | 7, h => cases h; exact k7
    | 8, h => cases h; exact k8
    | 9, h => cases h; exact k9
    | k + 10, h => cases h
  · match k, hq with
    | 0, h => cases h; exact p0
    | 1, h => cases h; exact p1
    | 2, h => cases h; exact p2
    | 3, h => cases h; exact p3
    | 4, h => cases h; exact p4
    | 5, h => cases h; exact p5
    | k + 6, h => cases h
