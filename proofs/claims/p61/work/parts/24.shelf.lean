/-! ===== SHELVES ===== -/
theorem xIn (p a b : Int32) (A B : Int) (ha : a.toInt = A) (hb : b.toInt = B) : F_X8_isIn p a b = decide (A ≤ p.toInt ∧ p.toInt ≤ B) := by subst ha; subst hb; exact isIn_eq p a b
theorem mIn (p : Int32) (a b : Int64) (A B : Int) (ha : a.toInt = A) (hb : b.toInt = B) : F_X9_in (Int32.toInt64 p) a b = decide (A ≤ p.toInt ∧ p.toInt ≤ B) := by subst ha; subst hb; rw [in_eq, Int32.toInt_toInt64]
theorem xDay (p : Int32) : F_X8_isDay p = decide (0 ≤ p.toInt ∧ p.toInt ≤ 9999) := xIn p 0 9999 0 9999 rfl rfl
theorem mDay (p : Int32) : F_X9_isDay (Int32.toInt64 p) = decide (0 ≤ p.toInt ∧ p.toInt ≤ 9999) := mIn p 0 9999 0 9999 rfl rfl
theorem xDays (p q : Int32) : F_X8_areDays p q = decide ((0 ≤ p.toInt ∧ p.toInt ≤ 9999) ∧ (1 ≤ q.toInt ∧ q.toInt ≤ 1000)) := by
  unfold F_X8_areDays
  rw [xDay, xIn q 1 1000 1 1000 rfl rfl, bf_d, bf_d]
  by_cases h1 : 0 ≤ p.toInt ∧ p.toInt ≤ 9999 <;> by_cases h2 : 1 ≤ q.toInt ∧ q.toInt ≤ 1000 <;> simp [h1, h2]
theorem mDays (p q : Int32) : F_X9_areDays p q = decide ((0 ≤ p.toInt ∧ p.toInt ≤ 9999) ∧ (1 ≤ q.toInt ∧ q.toInt ≤ 1000)) := by
  unfold F_X9_areDays
  rw [mDay, mIn q 1 1000 1 1000 rfl rfl, bf_d, bf_d]
  by_cases h1 : 0 ≤ p.toInt ∧ p.toInt ≤ 9999 <;> by_cases h2 : 1 ≤ q.toInt ∧ q.toInt ≤ 1000 <;> simp [h1, h2]
theorem xMin (f t : Int32) : F_X8_areMinutes f t = decide (0 ≤ f.toInt ∧ f.toInt ≤ t.toInt ∧ t.toInt ≤ 1439) := by
  unfold F_X8_areMinutes
  rw [xIn f 0 1439 0 1439 rfl rfl, xIn t f 1439 f.toInt 1439 rfl rfl, bf_d, bf_d]
  by_cases h1 : 0 ≤ f.toInt ∧ f.toInt ≤ 1439
  · rw [if_pos h1]
    by_cases h2 : f.toInt ≤ t.toInt ∧ t.toInt ≤ 1439
    · rw [if_pos h2]; exact (decide_eq_true ⟨h1.1, h2⟩).symm
    · rw [if_neg h2]; exact (decide_eq_false (by omega)).symm
  · rw [if_neg h1]; exact (decide_eq_false (by omega)).symm
theorem mMin (f t : Int32) : F_X9_areMinutes f t = decide (0 ≤ f.toInt ∧ f.toInt ≤ t.toInt ∧ t.toInt ≤ 1439) := by
  unfold F_X9_areMinutes
  rw [iLt, iLt, iLt]
  show (if f.toInt < 0 then false else if t.toInt < f.toInt then false else if 1439 < t.toInt then false else true) = _
  by_cases h1 : f.toInt < 0
  · rw [if_pos h1]; exact (decide_eq_false (by omega)).symm
  · rw [if_neg h1]
    by_cases h2 : t.toInt < f.toInt
    · rw [if_pos h2]; exact (decide_eq_false (by omega)).symm
    · rw [if_neg h2]
      by_cases h3 : 1439 < t.toInt
      · rw [if_pos h3]; exact (decide_eq_false (by omega)).symm
      · rw [if_neg h3]; exact (decide_eq_true (by omega)).symm
theorem xKind (p : Int32) : F_X8_isKind p = decide (0 ≤ p.toInt ∧ p.toInt ≤ 5) := xIn p 0 5 0 5 rfl rfl
theorem under_eq (a b : Int32) : F_X8_isUnder a b = F_X9_isUnder a b := rfl
theorem RH_cases {s : SH} {w so sz : Int32} {el : Nat → Int64} {ki dy : Int32} (h : RH s w so sz el ki dy) :
    (w = 0 ∧ F_X5_isBare s = true ∧ F_X5_isEvening s = false ∧ F_X5_isRow s = false ∧ sh_content s = -1) ∨
    (w = 1 ∧ F_X5_isBare s = false ∧ F_X5_isEvening s = false ∧ F_X5_isRow s = true ∧ sh_content s = so ∧ (0 ≤ so.toInt ∧ so.toInt ≤ 4) ∧ sh_size s = sz ∧ (0 ≤ sz.toInt ∧ sz.toInt ≤ 40) ∧ ∀ i : Nat, i < 40 → sh_el s i = el i) ∨
    (w = 2 ∧ F_X5_isBare s = false ∧ F_X5_isEvening s = true ∧ F_X5_isRow s = false ∧ sh_content s = 10 + ki ∧ F_X5_kind s = ki ∧ (0 ≤ ki.toInt ∧ ki.toInt ≤ 5) ∧ F_X5_day s = dy ∧ (0 ≤ dy.toInt ∧ dy.toInt ≤ 9999)) := by
  unfold F_X5_isBare F_X5_isEvening F_X5_isRow F_X5_kind F_X5_day
  rcases h with ⟨rfl, h2⟩ | ⟨rfl, h2, h3, h4, h5, h6⟩ | ⟨rfl, h2, h3, h4, h5⟩
  · refine Or.inl ⟨rfl, ?_, ?_, ?_, h2⟩
    · rw [if_pos h2]
    · rw [h2, if_pos (by decide)]
    · rw [if_pos h2]
  · have hn : ¬ so = -1 := fun q => by rw [q] at h3; exact absurd h3.1 (by decide)
    refine Or.inr (Or.inl ⟨rfl, ?_, ?_, ?_, h2, h3, h4, h5, h6⟩)
    · rw [h2, if_neg hn]
    · rw [h2, if_pos (ltI.mpr (by show _ < (10 : Int); omega))]
    · rw [h2, if_neg hn, if_neg (fun q => by rw [leI] at q; replace q : (10 : Int) ≤ _ := q; omega)]
  · have e : (10 + ki).toInt = 10 + ki.toInt := tA (by show _ ≤ (10 : Int) + _; omega) (by show (10 : Int) + _ ≤ _; omega)
    have hn : ¬ 10 + ki = -1 := fun q => by rw [q] at e; replace e : (-1 : Int) = _ := e; omega
    refine Or.inr (Or.inr ⟨rfl, ?_, ?_, ?_, h2, ?_, h3, h4, h5⟩)
    · rw [h2, if_neg hn]
    · rw [h2, if_neg (fun q => by rw [ltI, e] at q; replace q : _ < (10 : Int) := q; omega)]
    · rw [h2, if_neg hn, if_pos (leI.mpr (by rw [e]; show (10 : Int) ≤ _; omega))]
    · rw [h2, Int32.add_comm, Int32.add_sub_cancel]
theorem RHs_at {sh : Nat → SH} {w so sz : Nat → Int32} {el : Nat → Nat → Int64} {ki dy : Nat → Int32} {W SO SZ : Nat → Int32} {EL : Nat → Nat → Int64} {KI DY : Nat → Int32} (h : RHs sh w so sz el ki dy) {k : Nat} {s : SH} (hk : RH s (W k) (SO k) (SZ k) (EL k) (KI k) (DY k)) (ho : ∀ j, ¬ j = k → W j = w j ∧ SO j = so j ∧ SZ j = sz j ∧ EL j = el j ∧ KI j = ki j ∧ DY j = dy j) : RHs (va_up sh k s) W SO SZ EL KI DY := by
  intro j hj
  unfold va_up
  by_cases e : j = k
  · subst e
    rw [if_pos rfl]
    exact hk
  · rw [if_neg e]
    obtain ⟨e1, e2, e3, e4, e5, e6⟩ := ho j e
    rw [e1, e2, e3, e4, e5, e6]
    exact h j hj
theorem upd_s (f : Nat → Int32) (k : Nat) (v : Int32) : upd f k v k = v := if_pos rfl
theorem upd_o {f : Nat → Int32} {k j : Nat} {v : Int32} (h : ¬ j = k) : upd f k v j = f j := if_neg h
theorem up_s {α : Type} (f : Nat → α) (k : Nat) (v : α) : va_up f k v k = v := if_pos rfl
theorem up_o {α : Type} {f : Nat → α} {k j : Nat} {v : α} (h : ¬ j = k) : va_up f k v j = f j := if_neg h
theorem up_up {α : Type} (f : Nat → α) (k : Nat) (v w : α) : va_up (va_up f k v) k w = va_up f k w := by
  funext j
  unfold va_up
  by_cases h : j = k
  · rw [if_pos h, if_pos h]
  · rw [if_neg h, if_neg h, if_neg h]
theorem updL_s (f : Nat → Int64) (k : Nat) (v : Int64) : vp_updL f k v k = v := if_pos rfl
theorem updL_o {f : Nat → Int64} {k j : Nat} {v : Int64} (h : ¬ j = k) : vp_updL f k v j = f j := if_neg h
theorem suc_I {v : Int32} {i : Nat} (h : v.toInt = i) (hi : i < 2000000000) : (v + 1).toInt = ((i + 1 : Nat) : Int) := by
  rw [tA (by rw [h]; show _ ≤ _ + (1 : Int); omega) (by rw [h]; show _ + (1 : Int) ≤ _; omega), h]
  rfl
theorem nat_of {v : Int32} {i : Nat} (h : v.toInt = i) : v.toNatClampNeg = i := by rw [nat_toInt, h]; rfl
theorem fillL (n : Nat) : ∀ (kf i : Nat) (v : Int32) (f : Nat → Int64), v.toInt = i → i ≤ 40 → 40 < i + kf → ∃ g, F_J7_fill_d0a16_L6 n 40 0 40 kf v f = some g ∧ ∀ j, (j < i → g j = f j) ∧ (i ≤ j → j < 40 → g j = 0)
  | 0, i, v, f, h1, h2, h3 => by omega
  | kf + 1, i, v, f, h1, h2, h3 => by
    unfold F_J7_fill_d0a16_L6
    rw [iLe, h1]
    by_cases c : (40 : Int32).toInt ≤ (i : Int)
    · rw [if_pos c]
      replace c : (40 : Int) ≤ i := c
      exact ⟨f, rfl, fun j => ⟨fun _ => rfl, fun a b => by omega⟩⟩
    · rw [if_neg c]
      replace c : ¬ (40 : Int) ≤ i := c
      rw [gd_i (by omega) (by omega), nat_of h1]
      obtain ⟨g, e, hg⟩ := fillL n kf (i + 1) (v + 1) (vp_updL f i 0) (suc_I h1 (by omega)) (by omega) (by omega)
      refine ⟨g, e, fun j => ⟨fun a => ?_, fun a b => ?_⟩⟩
      · rw [(hg j).1 (by omega), updL_o (by omega)]
      · by_cases q : j = i
        · subst q
          rw [(hg j).1 (by omega), updL_s]
        · exact (hg j).2 (by omega) b
theorem rowL (n : Nat) (p q r : Int32) (hp : 0 ≤ p.toInt ∧ p.toInt ≤ 7) : ∀ (kf i : Nat) (v : Int32) (m : MS), v.toInt = i → i ≤ 40 → 40 < i + kf → ∃ g, F_X9_row_L67 n p q r kf v m = some (1, m_set_rows m (va_up (m_rows m) p.toInt.toNat g)) ∧ ∀ j, (j < i → g j = m_rows m p.toInt.toNat j) ∧ (i ≤ j → j < 40 → g j = 0)
  | 0, i, v, m, h1, h2, h3 => by omega
  | kf + 1, i, v, m, h1, h2, h3 => by
    unfold F_X9_row_L67
    rw [iLe, h1]
    by_cases c : (40 : Int32).toInt ≤ (i : Int)
    · rw [if_pos c]
      replace c : (40 : Int) ≤ i := c
      refine ⟨m_rows m p.toInt.toNat, ?_, fun j => ⟨fun _ => rfl, fun a b => by omega⟩⟩
      have e : va_up (m_rows m) p.toInt.toNat (m_rows m p.toInt.toNat) = m_rows m := by
        funext j
        unfold va_up
        by_cases h : j = p.toInt.toNat
        · rw [if_pos h, h]
        · rw [if_neg h]
      rw [e]
    · rw [if_neg c]
      replace c : ¬ (40 : Int) ≤ i := c
      rw [gd_i (by omega) (by omega), gd_i (by omega) (by omega), nat_of h1, nat_toInt]
      obtain ⟨g, e, hg⟩ := rowL n p q r hp kf (i + 1) (v + 1) (m_set_rows m (va_up (m_rows m) p.toInt.toNat (vp_updL (m_rows m p.toInt.toNat) i 0))) (suc_I h1 (by omega)) (by omega) (by omega)
      refine ⟨g, ?_, fun j => ⟨fun a => ?_, fun a b => ?_⟩⟩
      · rw [e]
        show some ((1 : Int32), m_set_rows m (va_up (va_up (m_rows m) p.toInt.toNat (vp_updL (m_rows m p.toInt.toNat) i 0)) p.toInt.toNat g)) = _
        rw [up_up]
      · have := (hg j).1 (by omega)
        rw [this]
        show va_up (m_rows m) p.toInt.toNat (vp_updL (m_rows m p.toInt.toNat) i 0) p.toInt.toNat j = _
        rw [up_s, updL_o (by omega)]
      · by_cases q : j = i
        · subst q
          have := (hg j).1 (by omega)
          rw [this]
          show va_up (m_rows m) p.toInt.toNat (vp_updL (m_rows m p.toInt.toNat) j 0) p.toInt.toNat j = _
          rw [up_s, updL_s]
        · exact (hg j).2 (by omega) b
section SV
variable {x : XS} {m : MS} {ka ta : Option Nat} {mk : Option MS} {n : Nat}
theorem k8 {p : Int32} (h : 0 ≤ p.toInt ∧ p.toInt ≤ 7) : p.toInt.toNat < 8 := by omega
theorem ok_row (h : Rel x m ka ta mk) (hn : 20000 ≤ n) (p1 p2 p3 : Int32) : Ok (F_X8_row n x p1 p2 p3) (F_X9_row n m p1 p2 p3) ka ta mk := by
  unfold F_X8_row F_X9_row
  simp only [bindE]
  rw [shelfAt_eq, bindV, mIn p1 0 7 0 7 rfl rfl, bf_d, mIn p2 0 4 0 4 rfl rfl, mIn p3 0 40 0 40 rfl rfl, bf_d, bf_d]
  by_cases h1 : 0 ≤ p1.toInt ∧ p1.toInt ≤ 7
  · rw [if_pos h1, if_pos h1, oM_s, nat_toInt, gd_d (k8 h1), xIn p2 0 4 0 4 rfl rfl, bf_d]
    by_cases h2 : 0 ≤ p2.toInt ∧ p2.toInt ≤ 4
    · rw [if_pos h2, if_pos h2, xIn p3 0 40 0 40 rfl rfl, bf_d]
      by_cases h3 : 0 ≤ p3.toInt ∧ p3.toInt ≤ 40
      · rw [if_pos h3, if_pos h3]
        have g8 : inb p1 8 = true := inb_t (by omega) (by omega)
        rw [g8, gd_t, gd_t, gd_t]
        obtain ⟨g, e, hg⟩ := rowL n p1 p2 p3 h1 n 0 0 (m_set_rowSize (m_set_rowSort (m_set_shelf m (upd (m_shelf m) p1.toInt.toNat 1)) (upd (m_rowSort m) p1.toInt.toNat p2)) (upd (m_rowSize m) p1.toInt.toNat p3)) rfl (by omega) (by omega)
        have e' : F_X9_row_L67 n p1 p2 p3 n 0 (m_set_rowSize (m_set_rowSort (m_set_shelf m (upd (m_shelf m) p1.toInt.toNat 1)) (upd (m_rowSort (m_set_shelf m (upd (m_shelf m) p1.toInt.toNat 1))) p1.toInt.toNat p2)) (upd (m_rowSize (m_set_rowSort (m_set_shelf m (upd (m_shelf m) p1.toInt.toNat 1)) (upd (m_rowSort (m_set_shelf m (upd (m_shelf m) p1.toInt.toNat 1))) p1.toInt.toNat p2))) p1.toInt.toNat p3)) = _ := e
        obtain ⟨f, e2, hf⟩ := fillL n n 0 0 (sh_el (x_sh x p1.toInt.toNat)) rfl (by omega) (by omega)
        have e3 : F_X5_putRow n (x_sh x p1.toInt.toNat) p2 p3 = some (sh_set_el (sh_set_size (sh_set_content (x_sh x p1.toInt.toNat) p2) p3) f) := by
          have em : F_J9_min_7cf53 p3 40 = p3 := Int32.toInt_inj.mp (by rw [min_I]; show min _ (40 : Int) = _; omega)
          unfold F_X5_putRow
          rw [em]
          unfold F_J7_fill_d0a16
          have : F_J7_fill_d0a16_L6 n 40 0 (Int32.ofNat 40) n 0 (sh_el (sh_set_size (sh_set_content (x_sh x p1.toInt.toNat) p2) p3)) = some f := e2
          rw [this]
          rfl
        rw [e', e3, bindV]
        obtain ⟨r1, r2, r3, r4, r5, r6, r7⟩ := h
        refine ⟨1, _, _, rfl, rfl, r1, ?_, r3, r4, r5, r6, r7⟩
        refine RHs_at r2 (Or.inr (Or.inl ⟨upd_s _ _ _, ?_, ?_, ?_, ?_, ?_⟩)) fun j hj => ⟨upd_o hj, upd_o hj, upd_o hj, up_o hj, rfl, rfl⟩
        · exact (upd_s (m_rowSort m) _ p2).symm
        · show 0 ≤ (upd (m_rowSort m) p1.toInt.toNat p2 p1.toInt.toNat).toInt ∧ (upd (m_rowSort m) p1.toInt.toNat p2 p1.toInt.toNat).toInt ≤ 4
          rw [upd_s]; exact h2
        · exact (upd_s (m_rowSize m) _ p3).symm
        · show 0 ≤ (upd (m_rowSize m) p1.toInt.toNat p3 p1.toInt.toNat).toInt ∧ (upd (m_rowSize m) p1.toInt.toNat p3 p1.toInt.toNat).toInt ≤ 40
          rw [upd_s]; exact h3
        · intro i hi
          show f i = va_up (m_rows m) p1.toInt.toNat g p1.toInt.toNat i
          rw [up_s, (hf i).2 (by omega) hi, (hg i).2 (by omega) hi]
      · rw [if_neg h3, if_neg h3]; exact bad h
    · rw [if_neg h2, if_neg h2]; exact bad h
  · rw [if_neg h1, if_neg h1, oM_n]; exact bad h
end SV
