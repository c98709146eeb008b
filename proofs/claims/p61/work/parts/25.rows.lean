section SW
variable {x : XS} {m : MS} {ka ta : Option Nat} {mk : Option MS} {n : Nat}
theorem noRow_eq {p : Int32} (hp : 0 ≤ p.toInt ∧ p.toInt ≤ 7) : F_X9_noRow n m p = if m_shelf m p.toInt.toNat = 2 then F_X9_refuse n m (-3) else if m_shelf m p.toInt.toNat = 0 then F_X9_refuse n m (-4) else some (0, m) := by
  have g8 : inb p 8 = true := inb_t (by omega) (by omega)
  unfold F_X9_noRow
  simp only [bindE]
  rw [mIn p 0 7 0 7 rfl rfl, bf_d, if_pos hp, g8, gd_t, gd_t, nat_toInt]
theorem noRow_out {p : Int32} (hp : ¬ (0 ≤ p.toInt ∧ p.toInt ≤ 7)) : F_X9_noRow n m p = F_X9_refuse n m (-2) := by
  unfold F_X9_noRow
  simp only [bindE]
  rw [mIn p 0 7 0 7 rfl rfl, bf_d, if_neg hp]
theorem asRow_e {s : SH} (h : F_X5_isEvening s = true) (q : Int32) : F_X5_refusalAsRow s q = -3 := by unfold F_X5_refusalAsRow; rw [h]; rfl
theorem asRow_b {s : SH} (h : F_X5_isEvening s = false) (h2 : F_X5_isBare s = true) (q : Int32) : F_X5_refusalAsRow s q = -4 := by unfold F_X5_refusalAsRow; rw [h, h2]; rfl
theorem asRow_r {s : SH} (h : F_X5_isEvening s = false) (h2 : F_X5_isBare s = false) (q : Int32) : F_X5_refusalAsRow s q = if q.toInt ≤ (sh_size s).toInt then 0 else -2 := by unfold F_X5_refusalAsRow; rw [h, h2, bf_f, bf_f, iLe]
theorem places_eq {s : SH} (hs : 0 ≤ (sh_size s).toInt ∧ (sh_size s).toInt ≤ 40) (i q : Int32) : F_X5_hasPlaces s i q = decide (0 ≤ q.toInt ∧ q.toInt ≤ (sh_size s).toInt ∧ 0 ≤ i.toInt ∧ i.toInt + q.toInt ≤ (sh_size s).toInt) := by
  unfold F_X5_hasPlaces
  rw [iLt, iLt, iLt, iLt]
  by_cases h1 : q.toInt < (0 : Int32).toInt
  · rw [if_pos h1]; replace h1 : q.toInt < 0 := h1; exact (decide_eq_false (by omega)).symm
  · rw [if_neg h1]
    replace h1 : ¬ q.toInt < 0 := h1
    by_cases h2 : (sh_size s).toInt < q.toInt
    · rw [if_pos h2]; exact (decide_eq_false (by omega)).symm
    · rw [if_neg h2]
      by_cases h3 : i.toInt < (0 : Int32).toInt
      · rw [if_pos h3]; replace h3 : i.toInt < 0 := h3; exact (decide_eq_false (by omega)).symm
      · rw [if_neg h3]
        replace h3 : ¬ i.toInt < 0 := h3
        rw [tS (by omega) (by omega)]
        by_cases h4 : (sh_size s).toInt - q.toInt < i.toInt
        · rw [if_pos h4]; exact (decide_eq_false (by omega)).symm
        · rw [if_neg h4]; exact (decide_eq_true (by omega)).symm
theorem at_eq {s : SH} (hs : (sh_size s).toInt ≤ 40) (p : Int32) : F_X5_at n s p = some (if 0 ≤ p.toInt ∧ p.toInt < (sh_size s).toInt then sh_el s p.toInt.toNat else 0) := by
  unfold F_X5_at
  rw [iLt, iLe, iLe]
  by_cases h1 : p.toInt < (0 : Int32).toInt
  · rw [if_pos h1]
    replace h1 : p.toInt < 0 := h1
    rw [if_neg (by omega)]
  · rw [if_neg h1]
    replace h1 : ¬ p.toInt < 0 := h1
    by_cases h2 : (sh_size s).toInt ≤ p.toInt
    · rw [if_pos h2, if_neg (by omega)]
    · rw [if_neg h2]
      rw [if_neg (by show ¬ (40 : Int) ≤ _; omega), gd_i (by omega) (by omega), if_pos (by omega), nat_toInt]
theorem cut_fit {s : SH} {so : Int32} (h : sh_content s = so) (hs : 0 ≤ so.toInt ∧ so.toInt ≤ 4) (v : Int64) : F_X5_cut s v = F_X9_fit so v := by
  unfold F_X5_cut F_X9_fit
  rw [h]
  by_cases h0 : so = 0
  · rw [if_pos h0, if_pos h0]
  · rw [if_neg h0, if_neg h0]
    by_cases h1 : so = 1
    · rw [if_pos h1, if_pos h1]
    · rw [if_neg h1, if_neg h1]
      by_cases h2 : so = 2
      · rw [if_pos h2, if_pos h2]
      · rw [if_neg h2, if_neg h2]
        by_cases h3 : so = 3
        · rw [if_pos h3, if_pos h3]
        · rw [if_neg h3, if_neg h3]
          rw [if_pos]
          rw [eqI] at h0 h1 h2 h3 ⊢
          replace h0 : ¬ so.toInt = 0 := h0
          replace h1 : ¬ so.toInt = 1 := h1
          replace h2 : ¬ so.toInt = 2 := h2
          replace h3 : ¬ so.toInt = 3 := h3
          show so.toInt = 4
          omega
theorem two_ne : ¬ (1 : Int32) = 2 := by decide
theorem one_n0 : ¬ (1 : Int32) = 0 := by decide
theorem zero_n2 : ¬ (0 : Int32) = 2 := by decide
theorem zero_n1 : ¬ (0 : Int32) = 1 := by decide
theorem two_n1 : ¬ (2 : Int32) = 1 := by decide
theorem two_n0 : ¬ (2 : Int32) = 0 := by decide
theorem ok_set (h : Rel x m ka ta mk) (p1 p2 : Int32) (p3 : Int64) : Ok (F_X8_set n x p1 p2 p3) (F_X9_set n m p1 p2 p3) ka ta mk := by
  unfold F_X8_set F_X9_set
  simp only [bindE]
  rw [shelfAt_eq, bindV]
  by_cases h1 : 0 ≤ p1.toInt ∧ p1.toInt ≤ 7
  · rw [if_pos h1, oM_s, nat_toInt, gd_d (k8 h1), noRow_eq h1]
    have hR := h
    obtain ⟨r1, r2, r3, r4, r5, r6, r7⟩ := hR
    rcases RH_cases (r2 _ (k8 h1)) with ⟨w, b, e, ro, -⟩ | ⟨w, b, e, ro, c1, c2, c3, c4, c5⟩ | ⟨w, b, e, ro, -⟩
    · rw [asRow_b e b, if_neg (show ¬ (-4 : Int32) = 0 by decide), w, if_neg zero_n2, if_pos rfl]
      exact ref_go h _ (by decide) _
    · have g8 : inb p1 8 = true := inb_t (by omega) (by omega)
      have es : (m_rowSize m p1.toInt.toNat - 1).toInt = (m_rowSize m p1.toInt.toNat).toInt - 1 := tS (by show _ ≤ _ - (1 : Int); omega) (by show _ - (1 : Int) ≤ _; omega)
      rw [asRow_r e b, c3, if_pos (show (0 : Int32).toInt ≤ (m_rowSize m p1.toInt.toNat).toInt from c4.1), if_pos rfl, places_eq (by rw [c3]; exact c4), bf_d, c3, w, if_neg two_ne, if_neg one_n0, bindV, if_pos rfl]
      dsimp only
      rw [g8, gd_t, gd_t, gd_t, mIn p2 _ _ 0 _ rfl (by rw [Int32.toInt_toInt64, es]), bf_d, nat_toInt]
      by_cases h2 : 0 ≤ p2.toInt ∧ p2.toInt ≤ (m_rowSize m p1.toInt.toNat).toInt - 1
      · rw [if_pos h2, if_pos (by show 0 ≤ (1 : Int) ∧ (1 : Int) ≤ _ ∧ _ ∧ _ + (1 : Int) ≤ _; omega), gd_i (by omega) (by omega)]
        have ep : F_X5_put n (x_sh x p1.toInt.toNat) p2 p3 = some (sh_set_el (x_sh x p1.toInt.toNat) (vp_updL (sh_el (x_sh x p1.toInt.toNat)) p2.toInt.toNat (F_X9_fit (m_rowSort m p1.toInt.toNat) p3))) := by
          unfold F_X5_put
          rw [iLt, iLe, iLe, c3, if_neg (by show ¬ _ < (0 : Int); omega), if_neg (by omega), if_neg (by show ¬ (40 : Int) ≤ _; omega), gd_i (by omega) (by omega), nat_toInt, cut_fit c1 c2]
        rw [ep, bindV]
        refine ⟨1, _, _, rfl, rfl, r1, ?_, r3, r4, r5, r6, r7⟩
        refine RHs_at r2 (Or.inr (Or.inl ⟨w, c1, c2, c3, c4, fun i hi => ?_⟩)) fun j hj => ⟨rfl, rfl, rfl, up_o hj, rfl, rfl⟩
        show vp_updL (sh_el (x_sh x p1.toInt.toNat)) p2.toInt.toNat (F_X9_fit (m_rowSort m p1.toInt.toNat) p3) i = va_up (m_rows m) p1.toInt.toNat (vp_updL (m_rows m p1.toInt.toNat) p2.toInt.toNat (F_X9_fit (m_rowSort m p1.toInt.toNat) p3)) p1.toInt.toNat i
        rw [up_s]
        by_cases q : i = p2.toInt.toNat
        · rw [q, updL_s, updL_s]
        · rw [updL_o q, updL_o q, c5 i hi]
      · rw [if_neg h2, if_neg (by show ¬ (0 ≤ (1 : Int) ∧ (1 : Int) ≤ _ ∧ _ ∧ _ + (1 : Int) ≤ _); omega)]
        exact bad h
    · rw [asRow_e e, if_neg (show ¬ (-3 : Int32) = 0 by decide), w, if_pos rfl]
      exact ref_go h _ (by decide) _
  · rw [if_neg h1, oM_n, noRow_out h1]
    exact ref_go h _ (by decide) _
theorem ok_element (h : Rel x m ka ta mk) (p1 p2 : Int32) : ∃ r, F_X8_element n x p1 p2 = some r ∧ F_X9_element n m p1 p2 = some r := by
  unfold F_X8_element F_X9_element
  simp only [bindS]
  rw [shelfAt_eq, bindV, mIn p1 0 7 0 7 rfl rfl, bf_d]
  by_cases h1 : 0 ≤ p1.toInt ∧ p1.toInt ≤ 7
  · rw [if_pos h1, if_pos h1, oM_s, nat_toInt, gd_d (k8 h1)]
    have g8 : inb p1 8 = true := inb_t (by omega) (by omega)
    obtain ⟨r1, r2, r3, r4, r5, r6, r7⟩ := h
    rcases RH_cases (r2 _ (k8 h1)) with ⟨w, b, e, ro, -⟩ | ⟨w, b, e, ro, c1, c2, c3, c4, c5⟩ | ⟨w, b, e, ro, -⟩
    · rw [g8, gd_t, w, if_neg (by decide), ro, bf_f]
      exact ⟨0, rfl, rfl⟩
    · have es : (m_rowSize m p1.toInt.toNat - 1).toInt = (m_rowSize m p1.toInt.toNat).toInt - 1 := tS (by show _ ≤ _ - (1 : Int); omega) (by show _ - (1 : Int) ≤ _; omega)
      rw [g8, gd_t, w, if_pos rfl, gd_t, gd_t, ro, bf_t, at_eq (by rw [c3]; exact c4.2), c3, mIn p2 _ _ 0 _ rfl (by rw [Int32.toInt_toInt64, es]), bf_d]
      by_cases h2 : 0 ≤ p2.toInt ∧ p2.toInt ≤ (m_rowSize m p1.toInt.toNat).toInt - 1
      · rw [if_pos h2, if_pos (by omega), gd_i (by omega) (by omega), nat_toInt, c5 _ (by omega)]
        exact ⟨_, rfl, rfl⟩
      · rw [if_neg h2, if_neg (by omega)]
        exact ⟨_, rfl, rfl⟩
    · rw [g8, gd_t, w, if_neg (by decide), ro, bf_f]
      exact ⟨0, rfl, rfl⟩
  · rw [if_neg h1, if_neg h1, oM_n]
    exact ⟨0, rfl, rfl⟩
theorem ok_holds (h : Rel x m ka ta mk) (p1 : Int32) : ∃ r, F_X8_holds n x p1 = some r ∧ F_X9_holds n m p1 = some r := by
  unfold F_X8_holds F_X9_holds
  rw [shelfAt_eq, bindV, mIn p1 0 7 0 7 rfl rfl, bf_d]
  by_cases h1 : 0 ≤ p1.toInt ∧ p1.toInt ≤ 7
  · rw [if_pos h1, if_pos h1, oM_s, nat_toInt, gd_d (k8 h1)]
    have g8 : inb p1 8 = true := inb_t (by omega) (by omega)
    obtain ⟨r1, r2, r3, r4, r5, r6, r7⟩ := h
    unfold F_X5_content
    rcases RH_cases (r2 _ (k8 h1)) with ⟨w, b, e, ro, c1⟩ | ⟨w, b, e, ro, c1, c2, c3, c4, c5⟩ | ⟨w, b, e, ro, c1, -⟩
    · rw [g8, gd_t, w, if_pos rfl, c1]
      exact ⟨_, rfl, rfl⟩
    · rw [g8, gd_t, gd_t, gd_t, gd_t, w, if_neg (by decide), if_pos rfl, c1]
      exact ⟨_, rfl, rfl⟩
    · rw [g8, gd_t, gd_t, gd_t, gd_t, w, if_neg (by decide), if_neg (by decide), c1]
      exact ⟨_, rfl, rfl⟩
  · rw [if_neg h1, if_neg h1, oM_n]
    exact ⟨_, rfl, rfl⟩
theorem ok_evening (h : Rel x m ka ta mk) (p1 p2 p3 : Int32) : Ok (F_X8_evening n x p1 p2 p3) (F_X9_evening n m p1 p2 p3) ka ta mk := by
  unfold F_X8_evening F_X9_evening
  simp only [bindE]
  rw [shelfAt_eq, bindV, mIn p1 0 7 0 7 rfl rfl, bf_d, mIn p2 0 5 0 5 rfl rfl, mDay, bf_d, bf_d]
  by_cases h1 : 0 ≤ p1.toInt ∧ p1.toInt ≤ 7
  · rw [if_pos h1, if_pos h1, oM_s, nat_toInt, gd_d (k8 h1), xKind, bf_d]
    by_cases h2 : 0 ≤ p2.toInt ∧ p2.toInt ≤ 5
    · rw [if_pos h2, if_pos h2, xDay, bf_d]
      by_cases h3 : 0 ≤ p3.toInt ∧ p3.toInt ≤ 9999
      · rw [if_pos h3, if_pos h3]
        have g8 : inb p1 8 = true := inb_t (by omega) (by omega)
        rw [g8, gd_t, gd_t, gd_t]
        obtain ⟨r1, r2, r3, r4, r5, r6, r7⟩ := h
        refine ⟨1, _, _, rfl, rfl, r1, ?_, r3, r4, r5, r6, r7⟩
        refine RHs_at r2 (Or.inr (Or.inr ⟨upd_s _ _ _, ?_, ?_, ?_, ?_⟩)) fun j hj => ⟨upd_o hj, rfl, rfl, rfl, upd_o hj, upd_o hj⟩
        · show 10 + p2 = 10 + upd (m_eveKind m) p1.toInt.toNat p2 p1.toInt.toNat
          rw [upd_s]
        · show 0 ≤ (upd (m_eveKind m) p1.toInt.toNat p2 p1.toInt.toNat).toInt ∧ (upd (m_eveKind m) p1.toInt.toNat p2 p1.toInt.toNat).toInt ≤ 5
          rw [upd_s]; exact h2
        · exact (upd_s (m_eveDay m) _ p3).symm
        · show 0 ≤ (upd (m_eveDay m) p1.toInt.toNat p3 p1.toInt.toNat).toInt ∧ (upd (m_eveDay m) p1.toInt.toNat p3 p1.toInt.toNat).toInt ≤ 9999
          rw [upd_s]; exact h3
      · rw [if_neg h3, if_neg h3]; exact bad h
    · rw [if_neg h2, if_neg h2]; exact bad h
  · rw [if_neg h1, if_neg h1, oM_n]; exact bad h
/-! copy -/
theorem acok_t {p q r : Int32} (h1 : 0 ≤ p.toInt) (h2 : 0 ≤ q.toInt) (h3 : 0 ≤ r.toInt) (h4 : p.toInt + r.toInt ≤ 40) (h5 : q.toInt + r.toInt ≤ 40) : acok p q r 40 40 = true := by
  have a1 : ¬ p < 0 := fun z => by rw [ltI, Int32.toInt_zero] at z; omega
  have a2 : ¬ q < 0 := fun z => by rw [ltI, Int32.toInt_zero] at z; omega
  have a3 : ¬ r < 0 := fun z => by rw [ltI, Int32.toInt_zero] at z; omega
  unfold acok
  rw [decide_eq_true a1, decide_eq_true a2, decide_eq_true a3, decide_eq_true (show p.toNatClampNeg + r.toNatClampNeg ≤ 40 by rw [nat_toInt, nat_toInt]; omega), decide_eq_true (show q.toNatClampNeg + r.toNatClampNeg ≤ 40 by rw [nat_toInt, nat_toInt]; omega)]
  rfl
theorem copyL2 (n : Nat) (K : Int32 → MS → Option (Int32 × MS)) (p1 p2 p3 p4 p5 : Int32) (h2 : 0 ≤ p2.toInt ∧ p2.toInt ≤ 7) (h4 : 0 ≤ p4.toInt) (h5 : 0 ≤ p5.toInt) (h45 : p4.toInt + p5.toInt ≤ 40) : ∀ (kf i : Nat) (v : Int32) (m : MS), v.toInt = i → (i : Int) ≤ p5.toInt → p5.toInt < i + kf → ∃ g, F_X9_copy_L225 n K p1 p2 p3 p4 p5 kf v m = some (p5, m_set_rows m (va_up (m_rows m) p2.toInt.toNat g)) ∧ ∀ j, g j = if p4.toInt.toNat + i ≤ j ∧ j < p4.toInt.toNat + p5.toInt.toNat then m_moved m (j - p4.toInt.toNat) else m_rows m p2.toInt.toNat j
  | 0, i, v, m, e1, e2, e3 => by omega
  | kf + 1, i, v, m, e1, e2, e3 => by
    unfold F_X9_copy_L225
    rw [iLe, e1]
    by_cases c : p5.toInt ≤ (i : Int)
    · rw [if_pos c]
      refine ⟨m_rows m p2.toInt.toNat, ?_, fun j => (if_neg (by omega)).symm⟩
      have e : va_up (m_rows m) p2.toInt.toNat (m_rows m p2.toInt.toNat) = m_rows m := by
        funext j
        unfold va_up
        by_cases h : j = p2.toInt.toNat
        · rw [if_pos h, h]
        · rw [if_neg h]
      rw [e]
    · rw [if_neg c]
      have ea : (p4 + v).toInt = p4.toInt + i := by rw [tA (by omega) (by omega), e1]
      have en : (p4 + v).toNatClampNeg = p4.toInt.toNat + i := by rw [nat_toInt, ea]; omega
      rw [gd_i (by omega) (by omega), gd_i (by omega) (by omega), gd_i (by omega) (by omega), nat_of e1, en, nat_toInt]
      obtain ⟨g, e, hg⟩ := copyL2 n K p1 p2 p3 p4 p5 h2 h4 h5 h45 kf (i + 1) (v + 1) (m_set_rows m (va_up (m_rows m) p2.toInt.toNat (vp_updL (m_rows m p2.toInt.toNat) (p4.toInt.toNat + i) (m_moved m i)))) (suc_I e1 (by omega)) (by omega) (by omega)
      refine ⟨g, ?_, fun j => ?_⟩
      · rw [e]
        show some (p5, m_set_rows m (va_up (va_up (m_rows m) p2.toInt.toNat (vp_updL (m_rows m p2.toInt.toNat) (p4.toInt.toNat + i) (m_moved m i))) p2.toInt.toNat g)) = _
        rw [up_up]
      · rw [hg j]
        show (if p4.toInt.toNat + (i + 1) ≤ j ∧ j < p4.toInt.toNat + p5.toInt.toNat then m_moved m (j - p4.toInt.toNat) else va_up (m_rows m) p2.toInt.toNat (vp_updL (m_rows m p2.toInt.toNat) (p4.toInt.toNat + i) (m_moved m i)) p2.toInt.toNat j) = _
        rw [up_s]
        by_cases q : j = p4.toInt.toNat + i
        · subst q
          rw [if_neg (by omega), updL_s, if_pos (by omega), Nat.add_sub_cancel_left]
        · rw [updL_o q]
          by_cases q2 : p4.toInt.toNat + (i + 1) ≤ j ∧ j < p4.toInt.toNat + p5.toInt.toNat
          · rw [if_pos q2, if_pos (by omega)]
          · rw [if_neg q2, if_neg (by omega)]
theorem copyL1 (n : Nat) (p1 p2 p3 p4 p5 : Int32) (h1 : 0 ≤ p1.toInt ∧ p1.toInt ≤ 7) (h2 : 0 ≤ p2.toInt ∧ p2.toInt ≤ 7) (h3 : 0 ≤ p3.toInt) (h4 : 0 ≤ p4.toInt) (h5 : 0 ≤ p5.toInt) (h35 : p3.toInt + p5.toInt ≤ 40) (h45 : p4.toInt + p5.toInt ≤ 40) (hn : 20000 ≤ n) : ∀ (kf i : Nat) (v : Int32) (m : MS), v.toInt = i → (i : Int) ≤ p5.toInt → p5.toInt < i + kf → ∃ f g, F_X9_copy_L191 n p1 p2 p3 p4 p5 kf v m = some (p5, m_set_rows (m_set_moved m f) (va_up (m_rows m) p2.toInt.toNat g)) ∧ ∀ j, g j = if p4.toInt.toNat ≤ j ∧ j < p4.toInt.toNat + p5.toInt.toNat then (if j - p4.toInt.toNat < i then m_moved m (j - p4.toInt.toNat) else m_rows m p1.toInt.toNat (p3.toInt.toNat + (j - p4.toInt.toNat))) else m_rows m p2.toInt.toNat j
  | 0, i, v, m, e1, e2, e3 => by omega
  | kf + 1, i, v, m, e1, e2, e3 => by
    unfold F_X9_copy_L191
    rw [iLe, e1]
    by_cases c : p5.toInt ≤ (i : Int)
    · rw [if_pos c]
      obtain ⟨g, e, hg⟩ := copyL2 n (F_X9_copy_L191 n p1 p2 p3 p4 p5 kf) p1 p2 p3 p4 p5 h2 h4 h5 h45 n 0 0 m rfl h5 (by omega)
      refine ⟨m_moved m, g, e, fun j => ?_⟩
      rw [hg j]
      by_cases q : p4.toInt.toNat ≤ j ∧ j < p4.toInt.toNat + p5.toInt.toNat
      · rw [if_pos (by omega), if_pos q, if_pos (by omega)]
      · rw [if_neg (by omega), if_neg q]
    · rw [if_neg c]
      have ea : (p3 + v).toInt = p3.toInt + i := by rw [tA (by omega) (by omega), e1]
      have en : (p3 + v).toNatClampNeg = p3.toInt.toNat + i := by rw [nat_toInt, ea]; omega
      rw [gd_i (by omega) (by omega), gd_i (by omega) (by omega), gd_i (by omega) (by omega), nat_of e1, en, nat_toInt]
      obtain ⟨f, g, e, hg⟩ := copyL1 n p1 p2 p3 p4 p5 h1 h2 h3 h4 h5 h35 h45 hn kf (i + 1) (v + 1) (m_set_moved m (vp_updL (m_moved m) i (m_rows m p1.toInt.toNat (p3.toInt.toNat + i)))) (suc_I e1 (by omega)) (by omega) (by omega)
      refine ⟨f, g, e, fun j => ?_⟩
      rw [hg j]
      show (if p4.toInt.toNat ≤ j ∧ j < p4.toInt.toNat + p5.toInt.toNat then (if j - p4.toInt.toNat < i + 1 then vp_updL (m_moved m) i (m_rows m p1.toInt.toNat (p3.toInt.toNat + i)) (j - p4.toInt.toNat) else m_rows m p1.toInt.toNat (p3.toInt.toNat + (j - p4.toInt.toNat))) else m_rows m p2.toInt.toNat j) = _
      by_cases q : p4.toInt.toNat ≤ j ∧ j < p4.toInt.toNat + p5.toInt.toNat
      · rw [if_pos q, if_pos q]
        by_cases q2 : j - p4.toInt.toNat = i
        · rw [if_pos (by omega), if_neg (by omega), q2, updL_s]
        · rw [updL_o q2]
          by_cases q3 : j - p4.toInt.toNat < i
          · rw [if_pos (by omega), if_pos q3]
          · rw [if_neg (by omega), if_neg q3]
      · rw [if_neg q, if_neg q]
theorem take_eq {s t : SH} (hs : 0 ≤ (sh_size s).toInt ∧ (sh_size s).toInt ≤ 40) (ht : 0 ≤ (sh_size t).toInt ∧ (sh_size t).toInt ≤ 40) {i j q : Int32} (h1 : 0 ≤ q.toInt ∧ q.toInt ≤ (sh_size t).toInt ∧ 0 ≤ i.toInt ∧ i.toInt + q.toInt ≤ (sh_size t).toInt) (h2 : 0 ≤ q.toInt ∧ q.toInt ≤ (sh_size s).toInt ∧ 0 ≤ j.toInt ∧ j.toInt + q.toInt ≤ (sh_size s).toInt) : F_X5_take n s t i j q = some (sh_set_el s (va_cpy (sh_el t) (sh_el s) i.toInt.toNat j.toInt.toNat q.toInt.toNat)) := by
  unfold F_X5_take
  rw [places_eq ht, places_eq hs, bf_d, bf_d, if_pos h1, if_pos h2, acok_t (by omega) (by omega) (by omega) (by omega) (by omega), gd_t]
  rfl
theorem ok_copy (h : Rel x m ka ta mk) (hn : 20000 ≤ n) (p1 p2 p3 p4 p5 : Int32) : Ok (F_X8_copy n x p1 p2 p3 p4 p5) (F_X9_copy n m p1 p2 p3 p4 p5) ka ta mk := by
  unfold F_X8_copy F_X9_copy
  simp only [bindE, shelfAt_eq, bindV]
  rw [mIn p1 0 7 0 7 rfl rfl, bf_d, mIn p2 0 7 0 7 rfl rfl, bf_d]
  by_cases h1 : 0 ≤ p1.toInt ∧ p1.toInt ≤ 7
  · by_cases h2 : 0 ≤ p2.toInt ∧ p2.toInt ≤ 7
    · have g1 : inb p1 8 = true := inb_t (by omega) (by omega)
      have g2 : inb p2 8 = true := inb_t (by omega) (by omega)
      have d1 : decide (p1.toInt.toNat < 8) = true := decide_eq_true (k8 h1)
      have d2 : decide (p2.toInt.toNat < 8) = true := decide_eq_true (k8 h2)
      simp only [if_pos h1, if_pos h2, oM_s, nat_toInt, g1, g2, gd_t, d1, d2]
      have hR := h
      obtain ⟨r1, r2, r3, r4, r5, r6, r7⟩ := hR
      rcases RH_cases (r2 _ (k8 h1)) with ⟨w1, b1, e1, o1, -⟩ | ⟨w1, b1, e1, o1, c1, c2, c3, c4, c5⟩ | ⟨w1, b1, e1, o1, -⟩
      · rcases RH_cases (r2 _ (k8 h2)) with ⟨w2, b2, e2, o2, -⟩ | ⟨w2, b2, e2, o2, -⟩ | ⟨w2, b2, e2, o2, -⟩
        · simp only [w1, w2, b1, b2, e1, e2, F_X5_isRowOfOtherSort, o1, o2, bf_t, bf_f]
          exact nothing h
        · simp only [w1, w2, b1, b2, e1, e2, F_X5_isRowOfOtherSort, o1, o2, bf_t, bf_f]
          exact nothing h
        · simp only [w1, w2, b1, b2, e1, e2, F_X5_isRowOfOtherSort, o1, o2, bf_t, bf_f]
          exact other h
      · rcases RH_cases (r2 _ (k8 h2)) with ⟨w2, b2, e2, o2, -⟩ | ⟨w2, b2, e2, o2, a1, a2, a3, a4, a5⟩ | ⟨w2, b2, e2, o2, -⟩
        · simp only [w1, w2, b1, b2, e1, e2, F_X5_isRowOfOtherSort, o1, o2, bf_t, bf_f]
          exact nothing h
        · simp only [w1, w2, b1, b2, e1, e2, F_X5_isRowOfOtherSort, o1, o2, bf_t, bf_f, c1, a1]
          rw [if_neg two_ne, if_neg two_ne]
          by_cases es : m_rowSort m p1.toInt.toNat = m_rowSort m p2.toInt.toNat
          · rw [if_pos es, if_pos es, bf_f, if_neg one_n0, if_neg one_n0, places_eq (by rw [c3]; exact c4), places_eq (by rw [a3]; exact a4), bf_d, bf_d, c3, a3]
            simp only [ltI, leI, Int32.toInt_zero]
            by_cases hp : 0 ≤ p5.toInt ∧ p5.toInt ≤ (m_rowSize m p1.toInt.toNat).toInt ∧ 0 ≤ p3.toInt ∧ p3.toInt + p5.toInt ≤ (m_rowSize m p1.toInt.toNat).toInt
            · rw [if_pos hp, if_neg (show ¬ p5.toInt < 0 by omega), if_neg (show ¬ p3.toInt < 0 by omega)]
              by_cases hq : 0 ≤ p5.toInt ∧ p5.toInt ≤ (m_rowSize m p2.toInt.toNat).toInt ∧ 0 ≤ p4.toInt ∧ p4.toInt + p5.toInt ≤ (m_rowSize m p2.toInt.toNat).toInt
              · have es1 : (m_rowSize m p1.toInt.toNat - p5).toInt = (m_rowSize m p1.toInt.toNat).toInt - p5.toInt := tS (by omega) (by omega)
                have es2 : (m_rowSize m p2.toInt.toNat - p5).toInt = (m_rowSize m p2.toInt.toNat).toInt - p5.toInt := tS (by omega) (by omega)
                rw [if_pos hq, if_neg (show ¬ p4.toInt < 0 by omega), if_neg (show ¬ (m_rowSize m p1.toInt.toNat).toInt < p5.toInt by omega), if_neg (show ¬ (m_rowSize m p2.toInt.toNat).toInt < p5.toInt by omega), es1, es2, if_neg (show ¬ (m_rowSize m p1.toInt.toNat).toInt - p5.toInt < p3.toInt by omega)]
                obtain ⟨f, g, e, hg⟩ := copyL1 n p1 p2 p3 p4 p5 h1 h2 (by omega) (by omega) (by omega) (by omega) (by omega) hn n 0 0 m rfl (by omega) (by omega)
                have et : (if p2.toInt.toNat = p1.toInt.toNat then (F_X5_take_same n (x_sh x p2.toInt.toNat) p3 p4 p5).bind fun r => some (p5, x_set_sh x (va_up (x_sh x) p2.toInt.toNat r)) else (F_X5_take n (x_sh x p2.toInt.toNat) (x_sh x p1.toInt.toNat) p3 p4 p5).bind fun r => some (p5, x_set_sh x (va_up (x_sh x) p2.toInt.toNat r))) = some (p5, x_set_sh x (va_up (x_sh x) p2.toInt.toNat (sh_set_el (x_sh x p2.toInt.toNat) (va_cpy (sh_el (x_sh x p1.toInt.toNat)) (sh_el (x_sh x p2.toInt.toNat)) p3.toInt.toNat p4.toInt.toNat p5.toInt.toNat)))) := by
                  have ht := take_eq (n := n) (s := x_sh x p2.toInt.toNat) (t := x_sh x p1.toInt.toNat) (by rw [a3]; exact a4) (by rw [c3]; exact c4) (i := p3) (j := p4) (q := p5) (by rw [c3]; exact hp) (by rw [a3]; exact hq)
                  by_cases ek : p2.toInt.toNat = p1.toInt.toNat
                  · rw [if_pos ek]
                    rw [← ek] at ht ⊢
                    have ht' : F_X5_take_same n (x_sh x p2.toInt.toNat) p3 p4 p5 = _ := ht
                    rw [ht', bindV]
                  · rw [if_neg ek, ht, bindV]
                rw [et]
                have em : (if p4.toInt ≤ (m_rowSize m p2.toInt.toNat).toInt - p5.toInt then F_X9_copy_L191 n p1 p2 p3 p4 p5 n 0 m else F_X9_refuse n m (-2)) = some (p5, m_set_rows (m_set_moved m f) (va_up (m_rows m) p2.toInt.toNat g)) := by
                  rw [if_pos (by omega)]; exact e
                rw [em]
                refine ⟨p5, _, _, rfl, rfl, r1, ?_, r3, r4, r5, r6, r7⟩
                refine RHs_at r2 (Or.inr (Or.inl ⟨w2, a1, a2, a3, a4, fun i hi => ?_⟩)) fun j hj => ⟨rfl, rfl, rfl, up_o hj, rfl, rfl⟩
                show va_cpy (sh_el (x_sh x p1.toInt.toNat)) (sh_el (x_sh x p2.toInt.toNat)) p3.toInt.toNat p4.toInt.toNat p5.toInt.toNat i = va_up (m_rows m) p2.toInt.toNat g p2.toInt.toNat i
                rw [up_s, hg i]
                unfold va_cpy
                by_cases q : p4.toInt.toNat ≤ i ∧ i < p4.toInt.toNat + p5.toInt.toNat
                · rw [if_pos q, if_pos q, if_neg (by omega), c5 _ (by omega)]
                · rw [if_neg q, if_neg q, a5 i hi]
              · rw [if_neg hq]
                by_cases q1 : p4.toInt < 0
                · rw [if_pos q1]; exact bad h
                · rw [if_neg q1, if_neg (show ¬ (m_rowSize m p1.toInt.toNat).toInt < p5.toInt by omega)]
                  by_cases q2 : (m_rowSize m p2.toInt.toNat).toInt < p5.toInt
                  · rw [if_pos q2]; exact bad h
                  · have es1 : (m_rowSize m p1.toInt.toNat - p5).toInt = (m_rowSize m p1.toInt.toNat).toInt - p5.toInt := tS (by omega) (by omega)
                    have es2 : (m_rowSize m p2.toInt.toNat - p5).toInt = (m_rowSize m p2.toInt.toNat).toInt - p5.toInt := tS (by omega) (by omega)
                    rw [if_neg q2, es1, es2, if_neg (show ¬ (m_rowSize m p1.toInt.toNat).toInt - p5.toInt < p3.toInt by omega), if_neg (show ¬ p4.toInt ≤ (m_rowSize m p2.toInt.toNat).toInt - p5.toInt by omega)]
                    exact bad h
            · rw [if_neg hp]
              by_cases q1 : p5.toInt < 0
              · rw [if_pos q1]; exact bad h
              · rw [if_neg q1]
                by_cases q2 : p3.toInt < 0
                · rw [if_pos q2]; exact bad h
                · rw [if_neg q2]
                  by_cases q3 : p4.toInt < 0
                  · rw [if_pos q3]; exact bad h
                  · rw [if_neg q3]
                    by_cases q4 : (m_rowSize m p1.toInt.toNat).toInt < p5.toInt
                    · rw [if_pos q4]; exact bad h
                    · rw [if_neg q4]
                      by_cases q5 : (m_rowSize m p2.toInt.toNat).toInt < p5.toInt
                      · rw [if_pos q5]; exact bad h
                      · have es1 : (m_rowSize m p1.toInt.toNat - p5).toInt = (m_rowSize m p1.toInt.toNat).toInt - p5.toInt := tS (by omega) (by omega)
                        rw [if_neg q5, es1, if_pos (show (m_rowSize m p1.toInt.toNat).toInt - p5.toInt < p3.toInt by omega)]
                        exact bad h
          · rw [if_neg es, if_neg es, bf_t]
            exact other h
        · simp only [w1, w2, b1, b2, e1, e2, F_X5_isRowOfOtherSort, o1, o2, bf_t, bf_f]
          exact other h
      · rcases RH_cases (r2 _ (k8 h2)) with ⟨w2, b2, e2, o2, -⟩ | ⟨w2, b2, e2, o2, -⟩ | ⟨w2, b2, e2, o2, -⟩ <;>
        · simp only [w1, w2, b1, b2, e1, e2, F_X5_isRowOfOtherSort, o1, o2, bf_t, bf_f]
          exact other h
    · simp only [if_pos h1, if_neg h2, oM_s, oM_n, nat_toInt]
      rw [gd_d (k8 h1)]
      exact bad h
  · simp only [if_neg h1, oM_n]
    by_cases h2 : 0 ≤ p2.toInt ∧ p2.toInt ≤ 7
    · simp only [if_pos h2, oM_s, nat_toInt]
      rw [gd_d (k8 h2)]
      exact bad h
    · simp only [if_neg h2, oM_n]
      exact bad h
end SW
