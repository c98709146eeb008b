theorem xp_59 (cA : Nat → ClassId) (ax : Nat → Nat) (s : XS) : (xW cA ax s)[59]? = some (ax 59, .inl (cA 1, 40, .inr (.inl (sh_el (x_sh s 6))))) := rfl
theorem xp_60 (cA : Nat → ClassId) (ax : Nat → Nat) (s : XS) : (xW cA ax s)[60]? = some (ax 60, .inr (5, [.ref (ax 61), .int (sh_content (x_sh s 7)), .int (sh_size (x_sh s 7)), .int (sh_day (x_sh s 7))])) := rfl
theorem xp_61 (cA : Nat → ClassId) (ax : Nat → Nat) (s : XS) : (xW cA ax s)[61]? = some (ax 61, .inl (cA 1, 40, .inr (.inl (sh_el (x_sh s 7))))) := rfl
theorem xp_62 (cA : Nat → ClassId) (ax : Nat → Nat) (s : XS) : (xW cA ax s)[62]? = some (ax 62, .inl (cA 0, 5, .inl (x_ref s))) := rfl
theorem xp_len (cA : Nat → ClassId) (ax : Nat → Nat) (s : XS) : (xW cA ax s).length = 63 := rfl
theorem mp_0 (cA : Nat → ClassId) (am : Nat → Nat) (s : MS) : (mW cA am s)[0]? = some (am 0, .inr (9, [.ref (am 1), .ref (am 2), .ref (am 3), .ref (am 4), .ref (am 13), .ref (am 14), .ref (am 15), .ref (am 16), .int (m_tapeSize s), .ref (am 17), .ref (am 18), .int (m_notches s), .ref (am 19), .int (m_stones s), .ref (am 28), .int (m_clouds s), .ref (am 29), .int (m_today s), .int (m_looks s), .int (m_seed s), va_rf (m_kept s), va_rf (m_tried s), .int (m_atp s), .int (m_token s), .int (m_frm s), .int (m_figures s), .int (m_fault s), .ref (am 30), .int (m_statements s)])) := rfl
theorem mp_1 (cA : Nat → ClassId) (am : Nat → Nat) (s : MS) : (mW cA am s)[1]? = some (am 1, .inl (cA 0, 8, .inl (m_shelf s))) := rfl
theorem mp_2 (cA : Nat → ClassId) (am : Nat → Nat) (s : MS) : (mW cA am s)[2]? = some (am 2, .inl (cA 0, 8, .inl (m_rowSort s))) := rfl
theorem mp_3 (cA : Nat → ClassId) (am : Nat → Nat) (s : MS) : (mW cA am s)[3]? = some (am 3, .inl (cA 0, 8, .inl (m_rowSize s))) := rfl
theorem mp_4 (cA : Nat → ClassId) (am : Nat → Nat) (s : MS) : (mW cA am s)[4]? = some (am 4, .inl (cA 5, 8, .inr (.inr (.inr (.inr (fun j => some (am (5+j)))))))) := rfl
theorem mp_5 (cA : Nat → ClassId) (am : Nat → Nat) (s : MS) : (mW cA am s)[5]? = some (am 5, .inl (cA 1, 40, .inr (.inl (m_rows s 0)))) := rfl
theorem mp_6 (cA : Nat → ClassId) (am : Nat → Nat) (s : MS) : (mW cA am s)[6]? = some (am 6, .inl (cA 1, 40, .inr (.inl (m_rows s 1)))) := rfl
theorem mp_7 (cA : Nat → ClassId) (am : Nat → Nat) (s : MS) : (mW cA am s)[7]? = some (am 7, .inl (cA 1, 40, .inr (.inl (m_rows s 2)))) := rfl
theorem mp_8 (cA : Nat → ClassId) (am : Nat → Nat) (s : MS) : (mW cA am s)[8]? = some (am 8, .inl (cA 1, 40, .inr (.inl (m_rows s 3)))) := rfl
theorem mp_9 (cA : Nat → ClassId) (am : Nat → Nat) (s : MS) : (mW cA am s)[9]? = some (am 9, .inl (cA 1, 40, .inr (.inl (m_rows s 4)))) := rfl
theorem mp_10 (cA : Nat → ClassId) (am : Nat → Nat) (s : MS) : (mW cA am s)[10]? = some (am 10, .inl (cA 1, 40, .inr (.inl (m_rows s 5)))) := rfl
theorem mp_11 (cA : Nat → ClassId) (am : Nat → Nat) (s : MS) : (mW cA am s)[11]? = some (am 11, .inl (cA 1, 40, .inr (.inl (m_rows s 6)))) := rfl
theorem mp_12 (cA : Nat → ClassId) (am : Nat → Nat) (s : MS) : (mW cA am s)[12]? = some (am 12, .inl (cA 1, 40, .inr (.inl (m_rows s 7)))) := rfl
theorem mp_13 (cA : Nat → ClassId) (am : Nat → Nat) (s : MS) : (mW cA am s)[13]? = some (am 13, .inl (cA 1, 40, .inr (.inl (m_moved s)))) := rfl
theorem mp_14 (cA : Nat → ClassId) (am : Nat → Nat) (s : MS) : (mW cA am s)[14]? = some (am 14, .inl (cA 0, 8, .inl (m_eveKind s))) := rfl
theorem mp_15 (cA : Nat → ClassId) (am : Nat → Nat) (s : MS) : (mW cA am s)[15]? = some (am 15, .inl (cA 0, 8, .inl (m_eveDay s))) := rfl
theorem mp_16 (cA : Nat → ClassId) (am : Nat → Nat) (s : MS) : (mW cA am s)[16]? = some (am 16, .inl (cA 0, 250, .inl (m_tape s))) := rfl
theorem mp_17 (cA : Nat → ClassId) (am : Nat → Nat) (s : MS) : (mW cA am s)[17]? = some (am 17, .inl (cA 0, 8, .inl (m_refused s))) := rfl
theorem mp_18 (cA : Nat → ClassId) (am : Nat → Nat) (s : MS) : (mW cA am s)[18]? = some (am 18, .inl (cA 0, 4, .inl (m_asked s))) := rfl
theorem mp_19 (cA : Nat → ClassId) (am : Nat → Nat) (s : MS) : (mW cA am s)[19]? = some (am 19, .inl (cA 4, 8, .inr (.inr (.inr (.inr (fun j => some (am (20+j)))))))) := rfl
theorem mp_20 (cA : Nat → ClassId) (am : Nat → Nat) (s : MS) : (mW cA am s)[20]? = some (am 20, .inl (cA 0, 3, .inl (m_notch s 0))) := rfl
theorem mp_21 (cA : Nat → ClassId) (am : Nat → Nat) (s : MS) : (mW cA am s)[21]? = some (am 21, .inl (cA 0, 3, .inl (m_notch s 1))) := rfl
theorem mp_22 (cA : Nat → ClassId) (am : Nat → Nat) (s : MS) : (mW cA am s)[22]? = some (am 22, .inl (cA 0, 3, .inl (m_notch s 2))) := rfl
theorem mp_23 (cA : Nat → ClassId) (am : Nat → Nat) (s : MS) : (mW cA am s)[23]? = some (am 23, .inl (cA 0, 3, .inl (m_notch s 3))) := rfl
theorem mp_24 (cA : Nat → ClassId) (am : Nat → Nat) (s : MS) : (mW cA am s)[24]? = some (am 24, .inl (cA 0, 3, .inl (m_notch s 4))) := rfl
theorem mp_25 (cA : Nat → ClassId) (am : Nat → Nat) (s : MS) : (mW cA am s)[25]? = some (am 25, .inl (cA 0, 3, .inl (m_notch s 5))) := rfl
theorem mp_26 (cA : Nat → ClassId) (am : Nat → Nat) (s : MS) : (mW cA am s)[26]? = some (am 26, .inl (cA 0, 3, .inl (m_notch s 6))) := rfl
theorem mp_27 (cA : Nat → ClassId) (am : Nat → Nat) (s : MS) : (mW cA am s)[27]? = some (am 27, .inl (cA 0, 3, .inl (m_notch s 7))) := rfl
theorem mp_28 (cA : Nat → ClassId) (am : Nat → Nat) (s : MS) : (mW cA am s)[28]? = some (am 28, .inl (cA 0, 6, .inl (m_stone s))) := rfl
theorem mp_29 (cA : Nat → ClassId) (am : Nat → Nat) (s : MS) : (mW cA am s)[29]? = some (am 29, .inl (cA 0, 8, .inl (m_cloud s))) := rfl
theorem mp_30 (cA : Nat → ClassId) (am : Nat → Nat) (s : MS) : (mW cA am s)[30]? = some (am 30, .inl (cA 0, 3, .inl (m_told s))) := rfl
theorem mp_len (cA : Nat → ClassId) (am : Nat → Nat) (s : MS) : (mW cA am s).length = 31 := rfl
theorem xp_sh (cA : Nat → ClassId) (ax : Nat → Nat) (s : XS) : ∀ (k : Nat), k < 8 → (xW cA ax s)[46+2*k]? = some (ax (46+2*k), .inr (5, [.ref (ax (46+2*k+1)), .int (sh_content (x_sh s k)), .int (sh_size (x_sh s k)), .int (sh_day (x_sh s k))])) := fun k hk => match k, hk with | 0, _ => rfl | 1, _ => rfl | 2, _ => rfl | 3, _ => rfl | 4, _ => rfl | 5, _ => rfl | 6, _ => rfl | 7, _ => rfl | k + 8, h => absurd h (by omega)
theorem xp_se (cA : Nat → ClassId) (ax : Nat → Nat) (s : XS) : ∀ (k : Nat), k < 8 → (xW cA ax s)[46+2*k+1]? = some (ax (46+2*k+1), .inl (cA 1, 40, .inr (.inl (sh_el (x_sh s k))))) := fun k hk => match k, hk with | 0, _ => rfl | 1, _ => rfl | 2, _ => rfl | 3, _ => rfl | 4, _ => rfl | 5, _ => rfl | 6, _ => rfl | 7, _ => rfl | k + 8, h => absurd h (by omega)
theorem mp_row (cA : Nat → ClassId) (am : Nat → Nat) (s : MS) : ∀ (k : Nat), k < 8 → (mW cA am s)[5+k]? = some (am (5+k), .inl (cA 1, 40, .inr (.inl (m_rows s k)))) := fun k hk => match k, hk with | 0, _ => rfl | 1, _ => rfl | 2, _ => rfl | 3, _ => rfl | 4, _ => rfl | 5, _ => rfl | 6, _ => rfl | 7, _ => rfl | k + 8, h => absurd h (by omega)
theorem mp_notch (cA : Nat → ClassId) (am : Nat → Nat) (s : MS) : ∀ (k : Nat), k < 8 → (mW cA am s)[20+k]? = some (am (20+k), .inl (cA 0, 3, .inl (m_notch s k))) := fun k hk => match k, hk with | 0, _ => rfl | 1, _ => rfl | 2, _ => rfl | 3, _ => rfl | 4, _ => rfl | 5, _ => rfl | 6, _ => rfl | 7, _ => rfl | k + 8, h => absurd h (by omega)
theorem ms_row (cA : Nat → ClassId) (am : Nat → Nat) (s : MS) (g : Nat → Int64) : ∀ (k : Nat), k < 8 → (mW cA am s).set (5+k) (am (5+k), .inl (cA 1, 40, .inr (.inl g))) = mW cA am (m_set_rows s (va_up (m_rows s) k g)) := fun k hk => match k, hk with | 0, _ => rfl | 1, _ => rfl | 2, _ => rfl | 3, _ => rfl | 4, _ => rfl | 5, _ => rfl | 6, _ => rfl | 7, _ => rfl | k + 8, h => absurd h (by omega)
theorem ms_notch (cA : Nat → ClassId) (am : Nat → Nat) (s : MS) (g : Nat → Int32) : ∀ (k : Nat), k < 8 → (mW cA am s).set (20+k) (am (20+k), .inl (cA 0, 3, .inl g)) = mW cA am (m_set_notch s (va_up (m_notch s) k g)) := fun k hk => match k, hk with | 0, _ => rfl | 1, _ => rfl | 2, _ => rfl | 3, _ => rfl | 4, _ => rfl | 5, _ => rfl | 6, _ => rfl | 7, _ => rfl | k + 8, h => absurd h (by omega)
theorem jc_sh (cA : Nat → ClassId) (ax : Nat → Nat) (s : XS) : ∀ (k : Nat), k < 8 → [46+2*k, 46+2*k+1].map (fun i => (xW cA ax s)[i]?) = (shelfW cA (fun i => ax (46+2*k+i)) (x_sh s k)).map some := fun k hk => match k, hk with | 0, _ => rfl | 1, _ => rfl | 2, _ => rfl | 3, _ => rfl | 4, _ => rfl | 5, _ => rfl | 6, _ => rfl | 7, _ => rfl | k + 8, h => absurd h (by omega)
theorem js_sh (cA : Nat → ClassId) (ax : Nat → Nat) (s : XS) (g : SH) : ∀ (k : Nat), k < 8 → putAll (xW cA ax s) [46+2*k, 46+2*k+1] (shelfW cA (fun i => ax (46+2*k+i)) g) = xW cA ax (x_set_sh s (va_up (x_sh s) k g)) := fun k hk => match k, hk with | 0, _ => rfl | 1, _ => rfl | 2, _ => rfl | 3, _ => rfl | 4, _ => rfl | 5, _ => rfl | 6, _ => rfl | 7, _ => rfl | k + 8, h => absurd h (by omega)
theorem pg_sh {D : va_G} {H : Heap} {cA : Nat → ClassId} {ax : Nat → Nat} {s : XS} {k : Nat} (hk : k < 8) (hP : va_P D vwCl (xW cA ax s) H) : va_P D vwCl (shelfW cA (fun i => ax (46+2*k+i)) (x_sh s k)) H := selP hP (jc_sh cA ax s k hk)
theorem jc_sh2 (cA : Nat → ClassId) (ax : Nat → Nat) (s : XS) (k1 k2 : Nat) (h1 : k1 < 8) (h2 : k2 < 8) : [46+2*k1, 46+2*k1+1, 46+2*k2, 46+2*k2+1].map (fun i => (xW cA ax s)[i]?) = ((shelfW cA (fun i => ax (46+2*k1+i)) (x_sh s k1)) ++ (shelfW cA (fun i => ax (46+2*k2+i)) (x_sh s k2))).map some := by
  show [(xW cA ax s)[46+2*k1]?, (xW cA ax s)[46+2*k1+1]?, (xW cA ax s)[46+2*k2]?, (xW cA ax s)[46+2*k2+1]?] = _
  rw [xp_sh cA ax s k1 h1, xp_se cA ax s k1 h1, xp_sh cA ax s k2 h2, xp_se cA ax s k2 h2]
  rfl
theorem js_sh2 (cA : Nat → ClassId) (ax : Nat → Nat) (s : XS) (k1 k2 : Nat) (g : SH) (h1 : k1 < 8) (h2 : k2 < 8) (hn : ¬ k1 = k2) : putAll (xW cA ax s) [46+2*k1, 46+2*k1+1, 46+2*k2, 46+2*k2+1] ((shelfW cA (fun i => ax (46+2*k1+i)) g) ++ (shelfW cA (fun i => ax (46+2*k2+i)) (x_sh s k2))) = xW cA ax (x_set_sh s (va_up (x_sh s) k1 g)) := by
  have e := putAll_app [46+2*k1, 46+2*k1+1] [46+2*k2, 46+2*k2+1] (shelfW cA (fun i => ax (46+2*k1+i)) g) (shelfW cA (fun i => ax (46+2*k2+i)) (x_sh s k2)) (xW cA ax s) rfl
  have e1 := js_sh cA ax s g k1 h1
  have e2 := js_sh cA ax (x_set_sh s (va_up (x_sh s) k1 g)) (x_sh s k2) k2 h2
  refine e.trans ?_
  rw [e1, e2]
  have e3 : va_up (va_up (x_sh s) k1 g) k2 (x_sh s k2) = va_up (x_sh s) k1 g := by
    funext j
    unfold va_up
    by_cases hj : j = k2
    · subst hj
      rw [if_pos rfl, if_neg (fun q => hn q.symm)]
    · rw [if_neg hj]
  show xW cA ax (x_set_sh (x_set_sh s (va_up (x_sh s) k1 g)) (va_up (va_up (x_sh s) k1 g) k2 (x_sh s k2))) = _
  rw [e3]
theorem nd_sh2 {k1 k2 : Nat} (hn : ¬ k1 = k2) : va_nd [46+2*k1, 46+2*k1+1, 46+2*k2, 46+2*k2+1] = true := by
  simp [va_nd]
  omega
theorem pick {α : Sort _} {c : Prop} [Decidable c] {A B r : α} (h : (if c then A else B) = r) : (c ∧ A = r) ∨ (¬ c ∧ B = r) := by
  by_cases hc : c
  · exact Or.inl ⟨hc, by rw [if_pos hc] at h; exact h⟩
  · exact Or.inr ⟨hc, by rw [if_neg hc] at h; exact h⟩
def questionW (ax : Nat → Nat) (q : Nat) (ab x y z : Int32) (pic : Option Nat) : va_W := [(q, .inr (4, [.int ab, .int x, .int y, .int z, va_rf (Option.map (fun k => ax (46+2*k)) pic)]))]

