/-! ===== EVENINGS by KINDS, and what is told of one DAY ===== -/
def isM (m : MS) (d k : Int32) : Bool := if k = 0 then true else if k = 1 then F_X9_in (Int32.toInt64 (ageM m d)) 1427 1526 else if k = 2 then bf (F_X9_in (Int32.toInt64 (ageM m d)) 1427 1526) (if d.toInt < 9999 then decide ((laterM m d).toInt ≤ 30) else false) false else if k = 3 then decide (outM m d = 28) else if k = 4 then decide ((ageM m d).toInt ≤ 99) else F_X9_in (Int32.toInt64 (ageM m d)) 1427 1526
section KD
variable {x : XS} {m : MS} {ka ta : Option Nat} {mk : Option MS} {n : Nat} {d : Int32}
theorem m_isOf (hA : okA (m_asked m)) (hN : okN (m_notch m) (m_notches m)) (hn : 20000 ≤ n) (h : dayR d) (k : Int32) : F_X9_isOf n m d k = some (isM m d k) := by
  unfold F_X9_isOf isM
  simp only [m_age, m_out, bindV]
  by_cases k0 : k = 0
  · rw [if_pos k0, if_pos k0]
  · rw [if_neg k0, if_neg k0]
    by_cases k1 : k = 1
    · rw [if_pos k1, if_pos k1]
    · rw [if_neg k1, if_neg k1]
      by_cases k2 : k = 2
      · rw [if_pos k2, if_pos k2]
        cases F_X9_in (Int32.toInt64 (ageM m d)) 1427 1526
        · rw [bf_f, bf_f]
        · rw [bf_t, bf_t, iLe]
          by_cases c : d.toInt < 9999
          · rw [if_neg (show ¬ (9999 : Int32).toInt ≤ d.toInt from by show ¬ (9999 : Int) ≤ _; omega), if_pos c, m_later hA hN hn h, bindV, iLt]
            by_cases c2 : (laterM m d).toInt ≤ 30
            · rw [if_neg (show ¬ (30 : Int32).toInt < (laterM m d).toInt from by show ¬ (30 : Int) < _; omega), decide_eq_true c2]
            · rw [if_pos (show (30 : Int32).toInt < (laterM m d).toInt from by show (30 : Int) < _; omega), decide_eq_false c2]
          · rw [if_pos (show (9999 : Int32).toInt ≤ d.toInt from by show (9999 : Int) ≤ _; omega), if_neg c]
      · rw [if_neg k2, if_neg k2]
        by_cases k3 : k = 3
        · rw [if_pos k3, if_pos k3]
          by_cases c : outM m d = 28
          · rw [if_pos c, decide_eq_true c]
          · rw [if_neg c, decide_eq_false c]
        · rw [if_neg k3, if_neg k3]
          by_cases k4 : k = 4
          · rw [if_pos k4, if_pos k4, iLt]
            by_cases c : (ageM m d).toInt ≤ 99
            · rw [if_neg (show ¬ (99 : Int32).toInt < (ageM m d).toInt from by show ¬ (99 : Int) < _; omega), decide_eq_true c]
            · rw [if_pos (show (99 : Int32).toInt < (ageM m d).toInt from by show (99 : Int) < _; omega), decide_eq_false c]
          · rw [if_neg k4, if_neg k4]
theorem x_full (hR : RS (x_now x) m) (d : Int32) : F_X2_isFull x d = F_X9_in (Int32.toInt64 (ageM m d)) 1427 1526 := by
  unfold F_X2_isFull
  rw [x_age hR, xIn _ 1427 1526 1427 1526 rfl rfl, mIn _ 1427 1526 1427 1526 rfl rfl]
theorem six {k : Int32} (h : 0 ≤ k.toInt ∧ k.toInt ≤ 5) : k = 0 ∨ k = 1 ∨ k = 2 ∨ k = 3 ∨ k = 4 ∨ k = 5 := by
  rw [eqI, eqI, eqI, eqI, eqI, eqI]
  show k.toInt = 0 ∨ k.toInt = 1 ∨ k.toInt = 2 ∨ k.toInt = 3 ∨ k.toInt = 4 ∨ k.toInt = 5
  omega
theorem x_fits (hR : RS (x_now x) m) (hn : 20000 ≤ n) (h : dayR d) {k : Int32} (hk : 0 ≤ k.toInt ∧ k.toInt ≤ 5) (qa qb qc : Int32) (pic : Option Nat) : F_X2_fits n x k qa qb qc pic d = some (isM m d k) := by
  unfold F_X2_fits isM
  rw [x_full hR, x_out hR, x_age hR]
  rcases six hk with rfl | rfl | rfl | rfl | rfl | rfl
  · rw [if_pos rfl, if_pos rfl]
  · rw [if_neg (show ¬ (1 : Int32) = 0 by decide), if_neg (show ¬ (1 : Int32) = 0 by decide), if_pos rfl, if_pos rfl]
  · rw [if_neg (show ¬ (2 : Int32) = 0 by decide), if_neg (show ¬ (2 : Int32) = 0 by decide), if_neg (show ¬ (2 : Int32) = 1 by decide), if_neg (show ¬ (2 : Int32) = 1 by decide), if_pos rfl, if_pos rfl]
    cases F_X9_in (Int32.toInt64 (ageM m d)) 1427 1526
    · rw [bf_f, bf_f]
    · rw [bf_t, bf_t, iLe]
      by_cases c : d.toInt < 9999
      · rw [if_neg (show ¬ (9999 : Int32).toInt ≤ d.toInt from by show ¬ (9999 : Int) ≤ _; omega), if_pos c, x_later hR hn h c, bindV, iLt]
        by_cases c2 : (laterM m d).toInt ≤ 30
        · rw [if_neg (show ¬ (30 : Int32).toInt < (laterM m d).toInt from by show ¬ (30 : Int) < _; omega), decide_eq_true c2]
        · rw [if_pos (show (30 : Int32).toInt < (laterM m d).toInt from by show (30 : Int) < _; omega), decide_eq_false c2]
      · rw [if_pos (show (9999 : Int32).toInt ≤ d.toInt from by show (9999 : Int) ≤ _; omega), if_neg c]
  · rw [if_neg (show ¬ (3 : Int32) = 0 by decide), if_neg (show ¬ (3 : Int32) = 0 by decide), if_neg (show ¬ (3 : Int32) = 1 by decide), if_neg (show ¬ (3 : Int32) = 1 by decide), if_neg (show ¬ (3 : Int32) = 2 by decide), if_neg (show ¬ (3 : Int32) = 2 by decide), if_pos rfl, if_pos rfl]
    by_cases c : outM m d = 28
    · rw [if_pos c, decide_eq_true c]
    · rw [if_neg c, decide_eq_false c]
  · rw [if_neg (show ¬ (4 : Int32) = 0 by decide), if_neg (show ¬ (4 : Int32) = 0 by decide), if_neg (show ¬ (4 : Int32) = 1 by decide), if_neg (show ¬ (4 : Int32) = 1 by decide), if_neg (show ¬ (4 : Int32) = 2 by decide), if_neg (show ¬ (4 : Int32) = 2 by decide), if_neg (show ¬ (4 : Int32) = 3 by decide), if_neg (show ¬ (4 : Int32) = 3 by decide), if_pos rfl, if_pos rfl, iLe]
    by_cases c : (ageM m d).toInt ≤ 99
    · rw [if_neg (show ¬ (100 : Int32).toInt ≤ (ageM m d).toInt from by show ¬ (100 : Int) ≤ _; omega), decide_eq_true c]
    · rw [if_pos (show (100 : Int32).toInt ≤ (ageM m d).toInt from by show (100 : Int) ≤ _; omega), decide_eq_false c]
  · rw [if_neg (show ¬ (5 : Int32) = 0 by decide), if_neg (show ¬ (5 : Int32) = 0 by decide), if_neg (show ¬ (5 : Int32) = 1 by decide), if_neg (show ¬ (5 : Int32) = 1 by decide), if_neg (show ¬ (5 : Int32) = 2 by decide), if_neg (show ¬ (5 : Int32) = 2 by decide), if_neg (show ¬ (5 : Int32) = 3 by decide), if_neg (show ¬ (5 : Int32) = 3 by decide), if_neg (show ¬ (5 : Int32) = 4 by decide), if_neg (show ¬ (5 : Int32) = 4 by decide), if_pos rfl]
theorem ok_says (h : Rel x m ka ta mk) (hn : 20000 ≤ n) (p1 p2 : Int32) : Ok (F_X8_says n x p1 p2) (F_X9_says n m p1 p2) ka ta mk := by
  unfold F_X8_says F_X9_says
  simp only [bindE]
  rw [shelfAt_eq, bindV, mIn p1 0 7 0 7 rfl rfl, bf_d, mIn p2 0 5 0 5 rfl rfl, bf_d]
  by_cases h1 : 0 ≤ p1.toInt ∧ p1.toInt ≤ 7
  · rw [if_pos h1, if_pos h1, oM_s, nat_toInt, gd_d (k8 h1), xKind, bf_d]
    by_cases h2 : 0 ≤ p2.toInt ∧ p2.toInt ≤ 5
    · rw [if_pos h2, if_pos h2]
      have g8 : inb p1 8 = true := inb_t (by omega) (by omega)
      simp only [g8, gd_t]
      have hR := h
      obtain ⟨r1, r2, -⟩ := hR
      rcases RH_cases (r2 _ (k8 h1)) with ⟨w, b, e, ro, -⟩ | ⟨w, b, e, ro, -⟩ | ⟨w, b, e, ro, c1, c2, c3, c4, c5⟩
      · rw [b, bf_t, w, if_neg zero_n1, if_neg zero_n2, if_pos rfl]
        exact nothing h
      · rw [b, bf_f, ro, bf_t, w, if_pos rfl]
        exact other h
      · rw [b, bf_f, ro, bf_f, w, if_neg two_n1, if_pos rfl, c2, c4, under_eq]
        cases hu : F_X9_isUnder (m_eveKind m p1.toInt.toNat) p2
        · rw [bf_f, bf_f]
          exact other h
        · rw [bf_t, bf_t, if_neg two_n0]
          have hd : dayR (m_eveDay m p1.toInt.toNat) := c5
          generalize m_eveDay m p1.toInt.toNat = d at hd ⊢
          have hA := r1.2.1
          have hN := r1.2.2.1.1
          have hm : minR (1320 : Int32) 1439 := ⟨by decide, by decide, by decide⟩
          unfold F_X2_saysOf
          simp only [bindS, m_age, m_out, m_shines hA hN hn (day1 hd) hm, x_shines r1 hn (day1 hd) hm, bindV, x_age r1, x_out r1]
          rcases six h2 with rfl | rfl | rfl | rfl | rfl | rfl
          · rw [if_neg (show ¬ (0 : Int32) = 1 by decide), if_neg (show ¬ (0 : Int32) = 2 by decide), if_neg (show ¬ (0 : Int32) = 3 by decide), if_neg (show ¬ (0 : Int32) = 4 by decide), if_neg (show ¬ (0 : Int32) = 5 by decide), bindV, if_pos rfl]
            exact Ok.same h _
          · rw [if_pos rfl, bindV, if_neg one_n0, if_pos rfl]
            unfold F_J9_abs_0f7a4
            by_cases q : 0 ≤ ageM m d - 1476
            · rw [if_pos q, if_pos q]; exact Ok.same h _
            · rw [if_neg q, if_neg q]; exact Ok.same h _
          · rw [if_neg two_n1, if_pos rfl, if_neg two_n0, if_neg two_n1, if_pos rfl]
            by_cases q : d = 9999
            · rw [if_pos q, q, x_later9 (by decide), bindV]
              exact Ok.same h _
            · have q2 : d.toInt < 9999 := by
                have h9 : ¬ d.toInt = 9999 := fun z => q (eqI.mpr z)
                have := hd.2
                omega
              rw [if_neg q, x_later r1 hn hd q2, bindV, m_later hA hN hn hd, bindV]
              exact Ok.same h _
          · rw [if_neg (show ¬ (3 : Int32) = 1 by decide), if_neg (show ¬ (3 : Int32) = 2 by decide), if_pos rfl, bindV, if_neg (show ¬ (3 : Int32) = 0 by decide), if_neg (show ¬ (3 : Int32) = 1 by decide), if_neg (show ¬ (3 : Int32) = 2 by decide), if_pos rfl]
            exact Ok.same h _
          · rw [if_neg (show ¬ (4 : Int32) = 1 by decide), if_neg (show ¬ (4 : Int32) = 2 by decide), if_neg (show ¬ (4 : Int32) = 3 by decide), if_pos rfl, bindV, if_neg (show ¬ (4 : Int32) = 0 by decide), if_neg (show ¬ (4 : Int32) = 1 by decide), if_neg (show ¬ (4 : Int32) = 2 by decide), if_neg (show ¬ (4 : Int32) = 3 by decide), if_pos rfl]
            exact Ok.same h _
          · rw [if_neg (show ¬ (5 : Int32) = 1 by decide), if_neg (show ¬ (5 : Int32) = 2 by decide), if_neg (show ¬ (5 : Int32) = 3 by decide), if_neg (show ¬ (5 : Int32) = 4 by decide), if_pos rfl, bindV, if_neg (show ¬ (5 : Int32) = 0 by decide), if_neg (show ¬ (5 : Int32) = 1 by decide), if_neg (show ¬ (5 : Int32) = 2 by decide), if_neg (show ¬ (5 : Int32) = 3 by decide), if_neg (show ¬ (5 : Int32) = 4 by decide)]
            exact Ok.same h _
    · rw [if_neg h2, if_neg h2]; exact bad h
  · rw [if_neg h1, if_neg h1, oM_n]; exact bad h
theorem ok_isSo (h : Rel x m ka ta mk) (hn : 20000 ≤ n) (p1 : Int32) : Ok (F_X8_isSo n x p1) (F_X9_isSo n m p1) ka ta mk := by
  unfold F_X8_isSo F_X9_isSo
  simp only [bindE]
  rw [shelfAt_eq, bindV, mIn p1 0 7 0 7 rfl rfl, bf_d]
  by_cases h1 : 0 ≤ p1.toInt ∧ p1.toInt ≤ 7
  · rw [if_pos h1, if_pos h1, oM_s, nat_toInt, gd_d (k8 h1)]
    have g8 : inb p1 8 = true := inb_t (by omega) (by omega)
    simp only [g8, gd_t]
    have hR := h
    obtain ⟨r1, r2, -⟩ := hR
    rcases RH_cases (r2 _ (k8 h1)) with ⟨w, b, e, ro, -⟩ | ⟨w, b, e, ro, -⟩ | ⟨w, b, e, ro, c1, c2, c3, c4, c5⟩
    · rw [b, bf_t, w, if_neg zero_n1, if_pos rfl]
      exact nothing h
    · rw [b, bf_f, ro, bf_t, w, if_pos rfl]
      exact other h
    · rw [b, bf_f, ro, bf_f, w, if_neg two_n1, if_neg two_n0, c2, c4, x_fits r1 hn c5 c3, m_isOf r1.2.1 r1.2.2.1.1 hn c5, bindV, bindV]
      cases isM m (m_eveDay m p1.toInt.toNat) (m_eveKind m p1.toInt.toNat)
      · exact Ok.same h _
      · exact Ok.same h _
  · rw [if_neg h1, if_neg h1, oM_n]; exact bad h
theorem ok_is (h : Rel x m ka ta mk) (hn : 20000 ≤ n) (p1 p2 : Int32) : Ok (F_X8_is n x p1 p2) (F_X9_is n m p1 p2) ka ta mk := by
  unfold F_X8_is F_X9_is
  simp only [bindE]
  rw [xDay, mDay, bf_d, bf_d, xKind, mIn p2 0 5 0 5 rfl rfl, bf_d, bf_d]
  by_cases h1 : 0 ≤ p1.toInt ∧ p1.toInt ≤ 9999
  · rw [if_pos h1, if_pos h1]
    by_cases h2 : 0 ≤ p2.toInt ∧ p2.toInt ≤ 5
    · rw [if_pos h2, if_pos h2, x_fits h.1 hn h1 h2, m_isOf h.1.2.1 h.1.2.2.1.1 hn h1, bindV, bindV]
      cases isM m p1 p2
      · exact Ok.same h _
      · exact Ok.same h _
    · rw [if_neg h2, if_neg h2]; exact bad h
  · rw [if_neg h1, if_neg h1]; exact bad h
theorem ok_shines (h : Rel x m ka ta mk) (hn : 20000 ≤ n) (p1 p2 p3 : Int32) : Ok (F_X8_shines n x p1 p2 p3) (F_X9_shines n m p1 p2 p3) ka ta mk := by
  unfold F_X8_shines F_X9_shines
  simp only [bindE]
  rw [xDay, mDay, bf_d, bf_d, xMin, mMin, bf_d, bf_d]
  by_cases h1 : 0 ≤ p1.toInt ∧ p1.toInt ≤ 9999
  · rw [if_pos h1, if_pos h1]
    by_cases h2 : 0 ≤ p2.toInt ∧ p2.toInt ≤ p3.toInt ∧ p3.toInt ≤ 1439
    · rw [if_pos h2, if_pos h2, x_shines h.1 hn (day1 h1) h2, m_shines h.1.2.1 h.1.2.2.1.1 hn (day1 h1) h2, bindV, bindV]
      exact Ok.same h _
    · rw [if_neg h2, if_neg h2]; exact bad h
  · rw [if_neg h1, if_neg h1]; exact bad h
theorem ok_light (h : Rel x m ka ta mk) (hn : 20000 ≤ n) (p1 p2 p3 : Int32) : Ok (F_X8_light n x p1 p2 p3) (F_X9_light n m p1 p2 p3) ka ta mk := by
  unfold F_X8_light F_X9_light
  simp only [bindE]
  rw [xDay, mDay, bf_d, bf_d, xMin, mMin, bf_d, bf_d]
  by_cases h1 : 0 ≤ p1.toInt ∧ p1.toInt ≤ 9999
  · rw [if_pos h1, if_pos h1]
    by_cases h2 : 0 ≤ p2.toInt ∧ p2.toInt ≤ p3.toInt ∧ p3.toInt ≤ 1439
    · rw [if_pos h2, if_pos h2, x_light h.1 hn (day1 h1) h2, m_light h.1.2.1 h.1.2.2.1.1 hn (day1 h1) h2, bindV, bindV]
      exact Ok.same h _
    · rw [if_neg h2, if_neg h2]; exact bad h
  · rw [if_neg h1, if_neg h1]; exact bad h
theorem ok_slant (h : Rel x m ka ta mk) (p1 : Int32) : Ok (F_X8_slant n x p1) (F_X9_slant n m p1) ka ta mk := by
  unfold F_X8_slant F_X9_slant
  simp only [bindE]
  rw [xDay, mDay, bf_d, bf_d]
  by_cases h1 : 0 ≤ p1.toInt ∧ p1.toInt ≤ 9999
  · rw [if_pos h1, if_pos h1, x_slant h.1, m_slant, bindV]
    exact Ok.same h _
  · rw [if_neg h1, if_neg h1]; exact far_ok h _ (by decide)
theorem ok_behind (h : Rel x m ka ta mk) (hn : 20000 ≤ n) (p1 : Int32) : Ok (F_X8_behind n x p1) (F_X9_behind n m p1) ka ta mk := by
  unfold F_X8_behind F_X9_behind
  simp only [bindE]
  rw [xDay, mDay, bf_d, bf_d]
  by_cases h1 : 0 ≤ p1.toInt ∧ p1.toInt ≤ 9999
  · rw [if_pos h1, if_pos h1, x_behind h.1 hn (day1 h1), m_behind h.1.2.1 h.1.2.2.1.1 hn (day1 h1), bindV, bindV]
    exact Ok.same h _
  · rw [if_neg h1, if_neg h1]; exact bad h
theorem ok_grows (h : Rel x m ka ta mk) (p1 : Int32) : Ok (F_X8_grows n x p1) (F_X9_grows n m p1) ka ta mk := by
  unfold F_X8_grows F_X9_grows
  simp only [bindE]
  rw [xDay, mDay, bf_d, bf_d]
  by_cases h1 : 0 ≤ p1.toInt ∧ p1.toInt ≤ 9999
  · rw [if_pos h1, if_pos h1, x_age h.1, m_age, bindV]
    by_cases q : 1476 < ageM m p1
    · rw [if_pos q, if_pos q]; exact Ok.same h _
    · rw [if_neg q, if_neg q]; exact Ok.same h _
  · rw [if_neg h1, if_neg h1]; exact bad h
theorem nine {p : Int32} (h : 0 ≤ p.toInt ∧ p.toInt ≤ 8) : p = 0 ∨ p = 1 ∨ p = 2 ∨ p = 3 ∨ p = 4 ∨ p = 5 ∨ p = 6 ∨ p = 7 ∨ p = 8 := by
  rw [eqI, eqI, eqI, eqI, eqI, eqI, eqI, eqI, eqI]
  show p.toInt = 0 ∨ p.toInt = 1 ∨ p.toInt = 2 ∨ p.toInt = 3 ∨ p.toInt = 4 ∨ p.toInt = 5 ∨ p.toInt = 6 ∨ p.toInt = 7 ∨ p.toInt = 8
  omega
theorem ok_moon (h : Rel x m ka ta mk) (hn : 20000 ≤ n) (p1 p2 : Int32) : Ok (F_X8_moon n x p1 p2) (F_X9_moon n m p1 p2) ka ta mk := by
  unfold F_X8_moon F_X9_moon
  simp only [bindE]
  rw [xDay, mDay, bf_d, bf_d, mIn p2 0 8 0 8 rfl rfl, bf_d]
  by_cases h1 : 0 ≤ p1.toInt ∧ p1.toInt ≤ 9999
  · rw [if_pos h1, if_pos h1]
    have r1 := h.1
    have hA := r1.2.1
    have hN := r1.2.2.1.1
    have hd : dayR p1 := h1
    by_cases h2 : 0 ≤ p2.toInt ∧ p2.toInt ≤ 8
    · rw [if_pos h2]
      simp only [x_age r1, x_lit r1, x_out r1, x_rise r1, x_way r1, x_over r1 hn (day1 hd), x_up r1 hn (day1 hd), x_deg r1 hn (day1 hd), m_age, m_lit, m_out, m_rise, m_way, m_over hA hN hn (day1 hd), m_up hA hN hn (day1 hd), m_deg hA hN hn (day1 hd), bindV]
      rcases nine h2 with rfl | rfl | rfl | rfl | rfl | rfl | rfl | rfl | rfl
      all_goals simp only [↓reduceIte]
      all_goals try exact Ok.same h _
      by_cases q : p1 = 9999
      · rw [if_pos q, if_pos q]; exact bad h
      · have q2 : p1.toInt < 9999 := by
          have h9 : ¬ p1.toInt = 9999 := fun z => q (eqI.mpr z)
          have := hd.2
          omega
        rw [if_neg q, if_neg q, x_later r1 hn hd q2, bindV, m_later hA hN hn hd, bindV]
        exact Ok.same h _
    · rw [if_neg h2]
      rw [if_neg (fun q => h2 (by rw [q]; decide)), if_neg (fun q => h2 (by rw [q]; decide)), if_neg (fun q => h2 (by rw [q]; decide)), if_neg (fun q => h2 (by rw [q]; decide)), if_neg (fun q => h2 (by rw [q]; decide)), if_neg (fun q => h2 (by rw [q]; decide)), if_neg (fun q => h2 (by rw [q]; decide)), if_neg (fun q => h2 (by rw [q]; decide)), if_neg (fun q => h2 (by rw [q]; decide))]
      exact bad h
  · rw [if_neg h1, if_neg h1]; exact bad h
theorem ok_high (h : Rel x m ka ta mk) (p1 : Int32) : Ok (F_X8_high n x p1) (F_X9_high n m p1) ka ta mk := by
  unfold F_X8_high F_X9_high F_X9_highOf F_X2_highWaterOf
  simp only [bindE]
  rw [xDay, mDay, bf_d, bf_d]
  by_cases h1 : 0 ≤ p1.toInt ∧ p1.toInt ≤ 9999
  · rw [if_pos h1, if_pos h1, x_rise h.1, m_rise, bindV, bindV]
    exact Ok.same h _
  · rw [if_neg h1, if_neg h1]; exact bad h
theorem mod_b {a b : Int32} (hb : 1 < b.toInt) : 0 ≤ (F_X9_mod a b).toInt ∧ (F_X9_mod a b).toInt < b.toInt := by
  rw [tMod hb]
  exact ⟨Int.emod_nonneg _ (by omega), Int.emod_lt_of_pos _ (by omega)⟩
theorem ok_tide (h : Rel x m ka ta mk) (p1 p2 : Int32) : Ok (F_X8_tide n x p1 p2) (F_X9_tide n m p1 p2) ka ta mk := by
  unfold F_X8_tide F_X9_tide
  simp only [bindE]
  rw [xDay, mDay, bf_d, bf_d, xIn p2 0 1439 0 1439 rfl rfl, mIn p2 0 1439 0 1439 rfl rfl, bf_d, bf_d]
  by_cases h1 : 0 ≤ p1.toInt ∧ p1.toInt ≤ 9999
  · rw [if_pos h1, if_pos h1]
    by_cases h2 : 0 ≤ p2.toInt ∧ p2.toInt ≤ 1439
    · rw [if_pos h2, if_pos h2]
      unfold F_X9_highOf F_X2_tideAt F_X2_highWaterOf
      rw [m_rise, bindV, bindV, x_rise h.1, floorMod_eq (by decide), x_lit h.1]
      simp only [m_lit, bindV]
      have hk := mod_b (a := p2 - jrem (riseM m p1 + 180) 720) (b := 720) (by decide)
      generalize F_X9_mod (p2 - jrem (riseM m p1 + 180) 720) 720 = k at hk ⊢
      replace hk : 0 ≤ k.toInt ∧ k.toInt < 720 := hk
      have e7 : (720 - k).toInt = 720 - k.toInt := tS (by show _ ≤ (720 : Int) - _; omega) (by show (720 : Int) - _ ≤ _; omega)
      generalize litM m p1 = l
      unfold F_J9_abs_0f7a4 F_J9_min_7cf53
      rw [iLt, e7, iLe k 360]
      by_cases q : k.toInt ≤ 360
      · rw [if_neg (show ¬ 720 - k.toInt < k.toInt by omega), if_pos (show k.toInt ≤ (360 : Int32).toInt from q)]
        by_cases z : 0 ≤ l - 50
        · rw [if_pos z, if_pos z]; exact Ok.same h _
        · rw [if_neg z, if_neg z]; exact Ok.same h _
      · rw [if_pos (show 720 - k.toInt < k.toInt by omega), if_neg (show ¬ k.toInt ≤ (360 : Int32).toInt from q)]
        by_cases z : 0 ≤ l - 50
        · rw [if_pos z, if_pos z]; exact Ok.same h _
        · rw [if_neg z, if_neg z]; exact Ok.same h _
    · rw [if_neg h2, if_neg h2]; exact bad h
  · rw [if_neg h1, if_neg h1]; exact bad h
theorem up_for (r p : Int32) : F_X2_minutesUp r p = if 600 < (F_X9_mod (p - r) 1440).toInt then -1 else F_X9_mod (p - r) 1440 := by
  unfold F_X2_minutesUp
  rw [floorMod_eq (by decide), iLt]
  rfl
theorem stuck_x {r : Int32} (hr : ¬ r = -1) : F_X8_orStuck n x r = some (r, x) := by
  unfold F_X8_orStuck
  rw [if_neg hr]
theorem stuck_n : F_X8_orStuck n x (-1) = F_X8_refuse n x (-5) := by
  unfold F_X8_orStuck
  rw [if_pos rfl, bindE]
theorem two {p : Int32} (h : 0 ≤ p.toInt ∧ p.toInt ≤ 1) : p = 0 ∨ p = 1 := by
  rw [eqI, eqI]
  show p.toInt = 0 ∨ p.toInt = 1
  omega
theorem ok_sees (h : Rel x m ka ta mk) (p1 p2 p3 : Int32) : Ok (F_X8_sees n x p1 p2 p3) (F_X9_sees n m p1 p2 p3) ka ta mk := by
  unfold F_X8_sees F_X9_sees
  simp only [bindE]
  rw [xDay, mDay, bf_d, bf_d, xIn p2 0 1439 0 1439 rfl rfl, mIn p2 0 1439 0 1439 rfl rfl, bf_d, bf_d, xIn p3 0 1 0 1 rfl rfl, mIn p3 0 1 0 1 rfl rfl, bf_d, bf_d]
  by_cases h1 : 0 ≤ p1.toInt ∧ p1.toInt ≤ 9999
  · rw [if_pos h1, if_pos h1]
    by_cases h2 : 0 ≤ p2.toInt ∧ p2.toInt ≤ 1439
    · rw [if_pos h2, if_pos h2]
      by_cases h3 : 0 ≤ p3.toInt ∧ p3.toInt ≤ 1
      · rw [if_pos h3, if_pos h3]
        have hr2 : F_X2_riseBy (F_X2_ageOf x p1) (F_X2_slantOf x p1) = riseM m p1 := x_rise h.1 p1
        have hw2 : F_X2_wayBy (F_X2_slantOf x p1) = wayM m p1 := x_way h.1 p1
        have hw := way_b h.1.2.1 (day1 h1)
        unfold F_X2_heightAt F_X2_degreeAt
        rw [m_rise, bindV, x_rise h.1, hr2, hw2, up_for, m_way, bindV]
        have hk := mod_b (a := p2 - riseM m p1) (b := 1440) (by decide)
        generalize F_X9_mod (p2 - riseM m p1) 1440 = k at hk ⊢
        replace hk : 0 ≤ k.toInt ∧ k.toInt < 1440 := hk
        rw [iLe]
        by_cases q : 600 < k.toInt
        · rw [if_pos q, if_pos rfl, if_pos rfl, if_neg (show ¬ k.toInt ≤ (600 : Int32).toInt by show ¬ _ ≤ (600 : Int); omega), stuck_n, ite_self]
          exact stuck h
        · have kn : ¬ k = -1 := fun z => by rw [z] at hk; exact absurd hk.1 (by decide)
          have e5 : (k / 5).toInt = k.toInt / 5 := tD hk.1 (by decide)
          have e4 : (k / 4).toInt = k.toInt / 4 := tD hk.1 (by decide)
          rw [if_neg q, if_neg kn, if_neg kn, if_pos (show k.toInt ≤ (600 : Int32).toInt by show _ ≤ (600 : Int); omega)]
          rcases two h3 with rfl | rfl
          · rw [if_pos rfl, if_pos rfl, stuck_x (fun z => by rw [z] at e5; replace e5 : (-1 : Int) = _ := e5; omega)]
            exact Ok.same h _
          · have ea : (wayM m p1 + k / 4).toInt = (wayM m p1).toInt + k.toInt / 4 := by rw [tA (by rw [e4]; omega) (by rw [e4]; omega), e4]
            rw [if_neg one_n0, if_neg one_n0, stuck_x (fun z => by rw [z] at ea; replace ea : (-1 : Int) = _ := ea; omega)]
            exact Ok.same h _
      · rw [if_neg h3, if_neg h3]; exact bad h
    · rw [if_neg h2, if_neg h2]; exact bad h
  · rw [if_neg h1, if_neg h1]; exact bad h
end KD
