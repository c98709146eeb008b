/-! ===== pictures, witnesses, bones ===== -/
theorem long_int {v : Int64} (h0 : -2147483648 ≤ v.toInt) (h1 : v.toInt ≤ 2147483647) : (Int64.toInt32 v).toInt = v.toInt := by
  rw [Int64.toInt_toInt32]
  exact Int.bmod_eq_of_le (by show -((2 : Int) ^ 31) ≤ _; omega) (by show _ < (2 : Int) ^ 31; omega)
def picM (r : Nat → Int64) (m : MS) (d : Int32) : Bool := bf (F_X9_in (Int32.toInt64 (litM m d)) (r 0) (r 1)) (if 600 < (F_X9_mod (Int64.toInt32 (r 6) - riseM m d) 1440).toInt then false else bf (F_X9_in (Int32.toInt64 (wayM m d + F_X9_mod (Int64.toInt32 (r 6) - riseM m d) 1440 / 4)) (r 2) (r 3)) (F_X9_in (Int32.toInt64 (F_X9_mod (Int64.toInt32 (r 6) - riseM m d) 1440 / 5)) (r 4) (r 5)) false) false
def canM (m : MS) (v : Int64) : Bool := bf (F_X9_in v 0 9999) (F_X9_in (Int32.toInt64 (ageM m (Int64.toInt32 v))) 100 400) false
def cntE (el : Nat → Int64) (v : Int64) : Nat → Nat → Int32 → Int32
  | 0, _, w => w
  | q + 1, i, w => if lg_cmp (el i) v = 0 then cntE el v q (i + 1) (w + 1) else cntE el v q (i + 1) w
section WT
variable {x : XS} {m : MS} {ka ta : Option Nat} {mk : Option MS} {n : Nat}
theorem m_pic (k : Nat) (d : Int32) : F_X9_isPicture n m k d = some (picM (m_rows m k) m d) := by
  unfold F_X9_isPicture picM
  rw [gd_i (by decide) (by decide), m_rise, bindV, m_lit, bindV, gd_i (by decide) (by decide), gd_i (by decide) (by decide), m_way, bindV]
  simp only [gd_i (show 0 ≤ (2 : Int32).toInt by decide) (show (2 : Int32).toInt < ((40 : Nat) : Int) by decide), gd_i (show 0 ≤ (3 : Int32).toInt by decide) (show (3 : Int32).toInt < ((40 : Nat) : Int) by decide), gd_i (show 0 ≤ (4 : Int32).toInt by decide) (show (4 : Int32).toInt < ((40 : Nat) : Int) by decide), gd_i (show 0 ≤ (5 : Int32).toInt by decide) (show (5 : Int32).toInt < ((40 : Nat) : Int) by decide)]
  show bf (F_X9_in (Int32.toInt64 (litM m d)) (m_rows m k 0) (m_rows m k 1)) (if 600 < F_X9_mod (Int64.toInt32 (m_rows m k 6) - riseM m d) 1440 then some false else bf (F_X9_in (Int32.toInt64 (wayM m d + F_X9_mod (Int64.toInt32 (m_rows m k 6) - riseM m d) 1440 / 4)) (m_rows m k 2) (m_rows m k 3)) (bf (F_X9_in (Int32.toInt64 (F_X9_mod (Int64.toInt32 (m_rows m k 6) - riseM m d) 1440 / 5)) (m_rows m k 4) (m_rows m k 5)) (some true) (some false)) (some false)) (some false) = _
  rw [iLt]
  cases F_X9_in (Int32.toInt64 (litM m d)) (m_rows m k 0) (m_rows m k 1)
  · rfl
  · rw [bf_t, bf_t]
    by_cases q : 600 < (F_X9_mod (Int64.toInt32 (m_rows m k 6) - riseM m d) 1440).toInt
    · rw [if_pos (show (600 : Int32).toInt < _ from q), if_pos q]
    · rw [if_neg (show ¬ (600 : Int32).toInt < _ from q), if_neg q]
      cases F_X9_in (Int32.toInt64 (wayM m d + F_X9_mod (Int64.toInt32 (m_rows m k 6) - riseM m d) 1440 / 4)) (m_rows m k 2) (m_rows m k 3)
      · rfl
      · rw [bf_t, bf_t]
        cases F_X9_in (Int32.toInt64 (F_X9_mod (Int64.toInt32 (m_rows m k 6) - riseM m d) 1440 / 5)) (m_rows m k 4) (m_rows m k 5) <;> rfl
theorem span_eq {s : SH} (hs : (sh_size s).toInt ≤ 40) {p : Int32} {i : Nat} (hp : p.toInt = i) (hi : (i : Int) + 1 < (sh_size s).toInt) (v : Int32) : F_X5_isSpan n s p v = some (F_X9_in (Int32.toInt64 v) (sh_el s i) (sh_el s (i + 1))) := by
  have e1 : (p + 1).toInt = ((i + 1 : Nat) : Int) := suc_I hp (by omega)
  unfold F_X5_isSpan F_X9_in
  rw [at_eq hs, bindV, at_eq hs, bindV, if_pos (show 0 ≤ p.toInt ∧ p.toInt < (sh_size s).toInt by omega), if_pos (show 0 ≤ (p + 1).toInt ∧ (p + 1).toInt < (sh_size s).toInt by omega), hp, e1]
  show (if lg_cmp (Int32.toInt64 v) (sh_el s i) < 0 then some false else if 0 < lg_cmp (Int32.toInt64 v) (sh_el s (i + 1)) then some false else some true) = _
  split
  · rfl
  · split <;> rfl
theorem x_pic (hR : RS (x_now x) m) {k : Nat} (hs : (sh_size (x_sh x k)).toInt ≤ 40) (hs8 : 8 ≤ (sh_size (x_sh x k)).toInt) (he : ∀ i : Nat, i < 40 → sh_el (x_sh x k) i = m_rows m k i) (d : Int32) : F_X2_isAsPictured n x k d = some (picM (m_rows m k) m d) := by
  have hr2 : F_X2_riseBy (F_X2_ageOf x d) (F_X2_slantOf x d) = riseM m d := x_rise hR d
  have hw2 : F_X2_wayBy (F_X2_slantOf x d) = wayM m d := x_way hR d
  have e6 : (if 0 ≤ (6 : Int32).toInt ∧ (6 : Int32).toInt < (sh_size (x_sh x k)).toInt then sh_el (x_sh x k) (6 : Int32).toInt.toNat else 0) = m_rows m k 6 := by
    rw [if_pos ⟨by decide, by show (6 : Int) < _; omega⟩]
    exact he 6 (by omega)
  unfold F_X2_isAsPictured picM
  rw [at_eq hs, bindV, e6, hr2, hw2, x_lit hR, up_for]
  simp only [span_eq (n := n) hs (p := 0) (i := 0) rfl (by show (0 : Int) + 1 < _; omega), span_eq (n := n) hs (p := 2) (i := 2) rfl (by show (2 : Int) + 1 < _; omega), span_eq (n := n) hs (p := 4) (i := 4) rfl (by show (4 : Int) + 1 < _; omega), bindV]
  rw [he 0 (by omega), he 1 (by omega), he 2 (by omega), he 3 (by omega), he 4 (by omega), he 5 (by omega)]
  have hk := mod_b (a := Int64.toInt32 (m_rows m k 6) - riseM m d) (b := 1440) (by decide)
  generalize F_X9_mod (Int64.toInt32 (m_rows m k 6) - riseM m d) 1440 = u at hk ⊢
  by_cases q : 600 < u.toInt
  · rw [if_pos q, if_pos rfl, if_pos q]
    cases F_X9_in (Int32.toInt64 (litM m d)) (m_rows m k 0) (m_rows m k 1) <;> rfl
  · have un : ¬ u = -1 := fun z => by rw [z] at hk; exact absurd hk.1 (by decide)
    rw [if_neg q, if_neg un, if_neg q]
    cases F_X9_in (Int32.toInt64 (litM m d)) (m_rows m k 0) (m_rows m k 1)
    · rfl
    · rw [bf_t, bf_t]
      cases F_X9_in (Int32.toInt64 (wayM m d + u / 4)) (m_rows m k 2) (m_rows m k 3)
      · rfl
      · rw [bf_t, bf_t]
        cases F_X9_in (Int32.toInt64 (u / 5)) (m_rows m k 4) (m_rows m k 5) <;> rfl
theorem count_pos (f : Int32 → Bool) : ∀ (k : Nat) (w d : Int32), 0 ≤ w.toInt → w.toInt + k ≤ 20000 → 0 ≤ (pickF f (-1) k w d).toInt
  | 0, w, d, h, _ => by unfold pickF; rw [if_pos rfl]; exact h
  | k + 1, w, d, h, h2 => by
    have ew : (w + 1).toInt = w.toInt + 1 := tA (by show _ ≤ _ + (1 : Int); omega) (by show _ + (1 : Int) ≤ _; omega)
    unfold pickF
    rw [if_neg (fun z => by rw [z] at h; exact absurd h (by decide))]
    cases f d
    · exact count_pos f k w (d + 1) h (by omega)
    · exact count_pos f k (w + 1) (d + 1) (by omega) (by omega)
theorem loopCount {G : Nat → Int32 → Int32 → Int32 → Option (Int32 × MS)} {f : Int32 → Bool} {last : Int32} (hl : last.toInt ≤ 9999) (g0 : ∀ kf w fd d, last.toInt < d.toInt → G (kf + 1) w fd d = some (w, m)) (g1 : ∀ kf w fd d, dayR d → ¬ last.toInt < d.toInt → ∃ fd', G (kf + 1) w fd d = bf (f d) (G kf (w + 1) fd' (d + 1)) (G kf w fd (d + 1))) : ∀ (k kf : Nat) (w fd d : Int32), 0 ≤ d.toInt → d.toInt + k = last.toInt + 1 → k < kf → 0 ≤ w.toInt → w.toInt + k ≤ 20000 → G kf w fd d = some (pickF f (-1) k w d, m) := by
  intro k
  induction k with
  | zero =>
    intro kf w fd d h0 h1 h2 h3 h4
    cases kf with
    | zero => omega
    | succ kf => rw [g0 kf w fd d (by omega)]; rfl
  | succ k ih =>
    intro kf w fd d h0 h1 h2 h3 h4
    cases kf with
    | zero => omega
    | succ kf =>
      have hd : dayR d := ⟨h0, by omega⟩
      have e := next_I hd
      have ew : (w + 1).toInt = w.toInt + 1 := tA (by show _ ≤ _ + (1 : Int); omega) (by show _ + (1 : Int) ≤ _; omega)
      obtain ⟨fd', eg⟩ := g1 kf w fd d hd (by omega)
      rw [eg]
      unfold pickF
      rw [if_neg (fun z => by rw [z] at h3; exact absurd h3 (by decide))]
      cases f d
      · exact ih kf w fd (d + 1) (by omega) (by omega) (by omega) h3 (by omega)
      · exact ih kf (w + 1) fd' (d + 1) (by omega) (by omega) (by omega) (by omega) (by omega)
theorem ok_picture (h : Rel x m ka ta mk) (hn : 20000 ≤ n) (p1 p2 p3 : Int32) : Ok (F_X8_picture n x p1 p2 p3) (F_X9_picture n m p1 p2 p3) ka ta mk := by
  unfold F_X8_picture F_X9_picture
  simp only [bindE]
  rw [shelfAt_eq, bindV, mIn p1 0 7 0 7 rfl rfl, bf_d, mDay, bf_d, mIn p3 0 1 0 1 rfl rfl, bf_d]
  by_cases h1 : 0 ≤ p1.toInt ∧ p1.toInt ≤ 7
  · rw [if_pos h1, if_pos h1, oM_s, nat_toInt, gd_d (k8 h1), xDay, bf_d, xIn p3 0 1 0 1 rfl rfl, bf_d]
    by_cases h2 : 0 ≤ p2.toInt ∧ p2.toInt ≤ 9999
    · rw [if_pos h2, if_pos h2]
      by_cases h3 : 0 ≤ p3.toInt ∧ p3.toInt ≤ 1
      · rw [if_pos h3, if_pos h3, noRow_eq h1]
        have hR := h
        obtain ⟨r1, r2, -⟩ := hR
        rcases RH_cases (r2 _ (k8 h1)) with ⟨w, b, e, ro, -⟩ | ⟨w, b, e, ro, c1, c2, c3, c4, c5⟩ | ⟨w, b, e, ro, -⟩
        · rw [asRow_b e b, if_neg (show ¬ (-4 : Int32) = 0 by decide), w, if_neg zero_n2, if_pos rfl]
          exact ref_go h _ (by decide) _
        · have g8 : inb p1 8 = true := inb_t (by omega) (by omega)
          rw [asRow_r e b, c3, w, if_neg two_ne, if_neg one_n0, bindV, if_pos rfl]
          dsimp only
          rw [g8, gd_t, gd_t, iLt]
          by_cases h8 : (8 : Int32).toInt ≤ (m_rowSize m p1.toInt.toNat).toInt
          · rw [if_pos h8, if_pos rfl, if_neg (show ¬ (m_rowSize m p1.toInt.toNat).toInt < (8 : Int32).toInt by omega)]
            replace h8 : 8 ≤ (m_rowSize m p1.toInt.toNat).toInt := h8
            have e6 : (if 0 ≤ (6 : Int32).toInt ∧ (6 : Int32).toInt < (m_rowSize m p1.toInt.toNat).toInt then sh_el (x_sh x p1.toInt.toNat) (6 : Int32).toInt.toNat else 0) = m_rows m p1.toInt.toNat 6 := by
              rw [if_pos ⟨by decide, by show (6 : Int) < _; omega⟩]; exact c5 6 (by omega)
            have e7 : (if 0 ≤ (7 : Int32).toInt ∧ (7 : Int32).toInt < (m_rowSize m p1.toInt.toNat).toInt then sh_el (x_sh x p1.toInt.toNat) (7 : Int32).toInt.toNat else 0) = m_rows m p1.toInt.toNat 7 := by
              rw [if_pos ⟨by decide, by show (7 : Int) < _; omega⟩]; exact c5 7 (by omega)
            rw [at_eq (by rw [c3]; exact c4.2), at_eq (by rw [c3]; exact c4.2), bindV, bindV, c3, e6, e7, gd_i (by decide) (by decide), gd_i (by decide) (by decide)]
            have i7 : (7 : Int32).toInt.toNat = 7 := rfl
            have i6 : (6 : Int32).toInt.toNat = 6 := rfl
            rw [nat_toInt, nat_toInt, i7, i6, in_eq, in_eq, bf_d, bf_d]
            simp only [cmp_lt, cmp_gt, cmp_le]
            show Ok (if (m_rows m p1.toInt.toNat 7).toInt < 1 then _ else if 1000 < (m_rows m p1.toInt.toNat 7).toInt then _ else if (m_rows m p1.toInt.toNat 6).toInt < 0 then _ else if (m_rows m p1.toInt.toNat 6).toInt ≤ 1439 then _ else _) (if 1 ≤ (m_rows m p1.toInt.toNat 7).toInt ∧ (m_rows m p1.toInt.toNat 7).toInt ≤ 1000 then (if 0 ≤ (m_rows m p1.toInt.toNat 6).toInt ∧ (m_rows m p1.toInt.toNat 6).toInt ≤ 1439 then _ else _) else _) ka ta mk
            by_cases q1 : (m_rows m p1.toInt.toNat 7).toInt < 1
            · rw [if_pos q1, if_neg (by omega)]; exact bad h
            · rw [if_neg q1]
              by_cases q2 : 1000 < (m_rows m p1.toInt.toNat 7).toInt
              · rw [if_pos q2, if_neg (by omega)]; exact bad h
              · rw [if_neg q2, if_pos (show 1 ≤ (m_rows m p1.toInt.toNat 7).toInt ∧ (m_rows m p1.toInt.toNat 7).toInt ≤ 1000 by omega)]
                by_cases q3 : (m_rows m p1.toInt.toNat 6).toInt < 0
                · rw [if_pos q3, if_neg (by omega)]; exact bad h
                · rw [if_neg q3]
                  by_cases q4 : (m_rows m p1.toInt.toNat 6).toInt ≤ 1439
                  · rw [if_pos q4, if_pos (show 0 ≤ (m_rows m p1.toInt.toNat 6).toInt ∧ (m_rows m p1.toInt.toNat 6).toInt ≤ 1439 by omega)]
                    have eN : (Int64.toInt32 (m_rows m p1.toInt.toNat 7)).toInt = (m_rows m p1.toInt.toNat 7).toInt := long_int (by omega) (by omega)
                    have hN : 1 ≤ (Int64.toInt32 (m_rows m p1.toInt.toNat 7)).toInt ∧ (Int64.toInt32 (m_rows m p1.toInt.toNat 7)).toInt ≤ 1000 := by omega
                    obtain ⟨a', b', c'⟩ := daysOf_b h2 hN
                    have hf : ∀ d, dayR d → F_X2_fits n x 11 0 0 0 (some p1.toInt.toNat) d = some (picM (m_rows m p1.toInt.toNat) m d) := by
                      intro d hd
                      rw [fits_11 _ _ _ _ (k8 h1), x_pic r1 (by rw [c3]; exact c4.2) (by rw [c3]; exact h8) c5, bindV]
                      cases picM (m_rows m p1.toInt.toNat) m d <;> rfl
                    have gs : ∀ v3 kf w fd d, ¬ (F_X9_lastOf p2 (Int64.toInt32 (m_rows m p1.toInt.toNat 7))).toInt < (d : Int32).toInt → F_X9_picture_L117 n m p1.toInt.toNat p1 p2 v3 0 (kf + 1) w fd d = bf (picM (m_rows m p1.toInt.toNat) m d) (if w = 0 then F_X9_picture_L117 n m p1.toInt.toNat p1 p2 v3 0 kf (w + 1) d (d + 1) else F_X9_picture_L117 n m p1.toInt.toNat p1 p2 v3 0 kf (w + 1) fd (d + 1)) (F_X9_picture_L117 n m p1.toInt.toNat p1 p2 v3 0 kf w fd (d + 1)) := by
                      intro v3 kf w fd d q
                      conv => lhs; unfold F_X9_picture_L117
                      rw [gd_i (by decide) (by decide), nat_toInt, i7, iLt, if_neg q, m_pic, bindV]
                    rcases two h3 with rfl | rfl
                    · rw [if_pos rfl, x_pick (f := picM (m_rows m p1.toInt.toNat) m) hf hn h2 hN, bindV, stuck_x (fun z => by have := count_pos (picM (m_rows m p1.toInt.toNat) m) (daysOf p2 (F_X9_lastOf p2 (Int64.toInt32 (m_rows m p1.toInt.toNat 7)))) 0 p2 (by decide) (by show (0 : Int) + _ ≤ _; omega); rw [z] at this; exact absurd this (by decide))]
                      rw [loopCount (m := m) (G := F_X9_picture_L117 n m p1.toInt.toNat p1 p2 0 0) (f := picM (m_rows m p1.toInt.toNat) m) c' (fun kf w fd d q => by unfold F_X9_picture_L117; rw [gd_i (by decide) (by decide), nat_toInt, i7, iLt, if_pos q, if_pos rfl, bindE]; rfl) (fun kf w fd d hd q => by
                        by_cases z : w = 0
                        · exact ⟨d, by rw [gs 0 kf w fd d q, if_pos z]⟩
                        · exact ⟨fd, by rw [gs 0 kf w fd d q, if_neg z]⟩) (daysOf p2 (F_X9_lastOf p2 (Int64.toInt32 (m_rows m p1.toInt.toNat 7)))) n 0 (-1) p2 h2.1 a' (by omega) (by decide) (by show (0 : Int) + _ ≤ _; omega)]
                      exact Ok.same h _
                    · rw [if_neg one_n0, x_pick (f := picM (m_rows m p1.toInt.toNat) m) hf hn h2 hN, bindV]
                      exact loopPick h (G := F_X9_picture_L117 n m p1.toInt.toNat p1 p2 1 0) (i := 0) (by decide) c' (fun kf w fd d q => by unfold F_X9_picture_L117; rw [gd_i (by decide) (by decide), nat_toInt, i7, iLt, if_pos q, if_neg one_n0, bindE]) (fun kf w fd d hd q => gs 1 kf w fd d q) (daysOf p2 (F_X9_lastOf p2 (Int64.toInt32 (m_rows m p1.toInt.toNat 7)))) n 0 p2 h2.1 a' (by omega) (by decide) (by show (0 : Int) + _ ≤ _; omega)
                  · rw [if_neg q4, if_neg (by omega)]; exact bad h
          · rw [if_neg h8, if_neg (show ¬ (-2 : Int32) = 0 by decide), if_pos (show (m_rowSize m p1.toInt.toNat).toInt < (8 : Int32).toInt by omega)]
            exact bad h
        · rw [asRow_e e, if_neg (show ¬ (-3 : Int32) = 0 by decide), w, if_pos rfl]
          exact ref_go h _ (by decide) _
      · rw [if_neg h3, if_neg h3]; exact bad h
    · rw [if_neg h2, if_neg h2]; exact bad h
  · rw [if_neg h1, if_neg h1, oM_n]; exact bad h
theorem x_can (hR : RS (x_now x) m) (v : Int64) : F_X2_couldBegin x v = canM m v := by
  unfold F_X2_couldBegin canM F_X9_in
  rw [x_age hR, xIn _ 100 400 100 400 rfl rfl]
  have e : F_X9_in (Int32.toInt64 (ageM m (Int64.toInt32 v))) 100 400 = decide (100 ≤ (ageM m (Int64.toInt32 v)).toInt ∧ (ageM m (Int64.toInt32 v)).toInt ≤ 400) := mIn _ 100 400 100 400 rfl rfl
  unfold F_X9_in at e
  rw [e]
  split
  · rfl
  · split
    · rfl
    · rw [bf_t]
      cases decide (100 ≤ (ageM m (Int64.toInt32 v)).toInt ∧ (ageM m (Int64.toInt32 v)).toInt ≤ 400) <;> rfl
theorem m_can (v : Int64) : F_X9_canBe n m v = some (canM m v) := by
  unfold F_X9_canBe canM F_X9_isDay
  rw [m_age, bindV]
  cases F_X9_in v 0 9999
  · rfl
  · rw [bf_t, bf_t]
    cases F_X9_in (Int32.toInt64 (ageM m (Int64.toInt32 v))) 100 400 <;> rfl
theorem x_at_el {s : SH} {el : Nat → Int64} (hs : (sh_size s).toInt ≤ 40) (he : ∀ i : Nat, i < 40 → sh_el s i = el i) {p : Int32} {i : Nat} (hp : p.toInt = i) (hi : (i : Int) < (sh_size s).toInt) : F_X5_at n s p = some (el i) := by
  rw [at_eq hs, if_pos (by omega), hp]
  exact congrArg some (he i (by omega))
theorem x_times {s : SH} {el : Nat → Int64} (hs : (sh_size s).toInt ≤ 40) (he : ∀ i : Nat, i < 40 → sh_el s i = el i) (v : Int64) {N : Int32} (hN : N.toInt ≤ (sh_size s).toInt) : ∀ (q i kf : Nat) (w p : Int32), p.toInt = i → N.toInt = i + q → q < kf → F_X5_timesOf_L6 n s v N kf w p = some (cntE el v q i w) := by
  intro q
  induction q with
  | zero =>
    intro i kf w p h1 h2 h3
    cases kf with
    | zero => omega
    | succ kf =>
      unfold F_X5_timesOf_L6 cntE
      rw [iLe, if_pos (by omega)]
  | succ q ih =>
    intro i kf w p h1 h2 h3
    cases kf with
    | zero => omega
    | succ kf =>
      unfold F_X5_timesOf_L6 cntE
      rw [iLe, if_neg (by omega), x_at_el hs he h1 (by omega), bindV]
      by_cases z : lg_cmp (el i) v = 0
      · rw [if_pos z, if_pos z]
        exact ih (i + 1) kf (w + 1) (p + 1) (suc_I h1 (by omega)) (by omega) (by omega)
      · rw [if_neg z, if_neg z]
        exact ih (i + 1) kf w (p + 1) (suc_I h1 (by omega)) (by omega) (by omega)
theorem m_times (K : Int32 → Int32 → Int32 → Option (Int32 × MS)) {p1 N v3 v4 v5 v6 : Int32} (h1 : 0 ≤ p1.toInt ∧ p1.toInt ≤ 7) (hN : N.toInt ≤ 40) {j : Nat} (hj : v6.toInt = j) (hj2 : j < 40) : ∀ (q i kf : Nat) (w p : Int32), p.toInt = i → N.toInt = i + q → q < kf → F_X9_court_L50 n K m p1 N v3 v4 v5 v6 kf w p = if cntE (m_rows m p1.toInt.toNat) (m_rows m p1.toInt.toNat j) q i w ≤ v5 then K v4 v5 (v6 + 1) else K (Int64.toInt32 (m_rows m p1.toInt.toNat j)) (cntE (m_rows m p1.toInt.toNat) (m_rows m p1.toInt.toNat j) q i w) (v6 + 1) := by
  have g8 : inb p1 8 = true := inb_t (by omega) (by omega)
  intro q
  induction q with
  | zero =>
    intro i kf w p e1 h2 h3
    cases kf with
    | zero => omega
    | succ kf =>
      unfold F_X9_court_L50 cntE
      rw [iLe N p, if_pos (by omega), g8, gd_t, gd_i (by omega) (by omega), nat_toInt, nat_of hj]
  | succ q ih =>
    intro i kf w p e1 h2 h3
    cases kf with
    | zero => omega
    | succ kf =>
      unfold F_X9_court_L50 cntE
      rw [iLe N p, if_neg (by omega), g8, gd_t, gd_t, gd_i (by omega) (by omega), gd_i (by omega) (by omega), nat_of hj, nat_of e1, nat_toInt, Int32.add_zero]
      by_cases z : lg_cmp (m_rows m p1.toInt.toNat i) (m_rows m p1.toInt.toNat j) = 0
      · simp only [if_pos z]
        exact ih (i + 1) kf (w + 1) (p + 1) (suc_I e1 (by omega)) (by omega) (by omega)
      · simp only [if_neg z]
        exact ih (i + 1) kf w (p + 1) (suc_I e1 (by omega)) (by omega) (by omega)
theorem noWit_out {p1 p2 : Int32} (hp : ¬ (0 ≤ p1.toInt ∧ p1.toInt ≤ 7)) : F_X9_noWitnesses n m p1 p2 = F_X9_refuse n m (-2) := by
  unfold F_X9_noWitnesses
  simp only [bindE]
  rw [mIn p1 0 7 0 7 rfl rfl, bf_d, if_neg hp]
theorem noWit_n {p1 p2 : Int32} (h1 : 0 ≤ p1.toInt ∧ p1.toInt ≤ 7) (h2 : ¬ (1 ≤ p2.toInt ∧ p2.toInt ≤ 40)) : F_X9_noWitnesses n m p1 p2 = F_X9_refuse n m (-2) := by
  unfold F_X9_noWitnesses
  simp only [bindE]
  rw [mIn p1 0 7 0 7 rfl rfl, bf_d, if_pos h1, mIn p2 1 40 1 40 rfl rfl, bf_d, if_neg h2]
theorem noWit_in {p1 p2 : Int32} (h1 : 0 ≤ p1.toInt ∧ p1.toInt ≤ 7) (h2 : 1 ≤ p2.toInt ∧ p2.toInt ≤ 40) : F_X9_noWitnesses n m p1 p2 = (F_X9_noRow n m p1).bind fun r => if r.1 = 0 then (if p2.toInt ≤ (m_rowSize r.2 p1.toInt.toNat).toInt then some (0, r.2) else F_X9_refuse n r.2 (-2)) else some (r.1, r.2) := by
  have g8 : inb p1 8 = true := inb_t (by omega) (by omega)
  unfold F_X9_noWitnesses
  simp only [bindE]
  rw [mIn p1 0 7 0 7 rfl rfl, bf_d, if_pos h1, mIn p2 1 40 1 40 rfl rfl, bf_d, if_pos h2]
  simp only [g8, gd_t, leI, nat_toInt]
/-- behind the checks of a ROW of witnesses -/
theorem by_row (h : Rel x m ka ta mk) {p1 p2 : Int32} (h1 : 0 ≤ p1.toInt ∧ p1.toInt ≤ 7) (h2 : 1 ≤ p2.toInt ∧ p2.toInt ≤ 40) {P : Option (Int32 × XS)} {Q : Int32 × MS → Option (Int32 × MS)} (hk : ∀ (c3 : sh_size (x_sh x p1.toInt.toNat) = m_rowSize m p1.toInt.toNat) (c4 : 0 ≤ (m_rowSize m p1.toInt.toNat).toInt ∧ (m_rowSize m p1.toInt.toNat).toInt ≤ 40) (c5 : ∀ i : Nat, i < 40 → sh_el (x_sh x p1.toInt.toNat) i = m_rows m p1.toInt.toNat i), p2.toInt ≤ (m_rowSize m p1.toInt.toNat).toInt → Ok P (Q (0, m)) ka ta mk) : Ok (if F_X5_refusalAsRow (x_sh x p1.toInt.toNat) p2 = 0 then P else F_X8_refuse n x (F_X5_refusalAsRow (x_sh x p1.toInt.toNat) p2)) ((F_X9_noWitnesses n m p1 p2).bind fun r => if r.1 = 0 then Q r else some (r.1, r.2)) ka ta mk := by
  have hR := h
  obtain ⟨r1, r2, -⟩ := hR
  rw [noWit_in h1 h2, noRow_eq h1]
  rcases RH_cases (r2 _ (k8 h1)) with ⟨w, b, e, ro, -⟩ | ⟨w, b, e, ro, c1, c2, c3, c4, c5⟩ | ⟨w, b, e, ro, -⟩
  · rw [asRow_b e b, if_neg (show ¬ (-4 : Int32) = 0 by decide), w, if_neg zero_n2, if_pos rfl]
    obtain ⟨x', m', q1, q2, q3⟩ := ref_ex (n := n) h (-4) (by decide)
    rw [q1, q2, bindV]
    show Ok _ ((if (-4 : Int32) = 0 then _ else some (-4, m')).bind _) ka ta mk
    rw [if_neg (by decide), bindV]
    show Ok _ (if (-4 : Int32) = 0 then _ else some (-4, m')) ka ta mk
    rw [if_neg (by decide)]
    exact Ok.same q3 _
  · rw [asRow_r e b, c3, w, if_neg two_ne, if_neg one_n0, bindV, if_pos rfl]
    dsimp only
    by_cases q : p2.toInt ≤ (m_rowSize m p1.toInt.toNat).toInt
    · rw [if_pos q, if_pos rfl, if_pos q, bindV, if_pos rfl]
      exact hk c3 c4 c5 q
    · rw [if_neg q, if_neg (show ¬ (-2 : Int32) = 0 by decide), if_neg q]
      exact ref_go h _ (by decide) _
  · rw [asRow_e e, if_neg (show ¬ (-3 : Int32) = 0 by decide), w, if_pos rfl]
    obtain ⟨x', m', q1, q2, q3⟩ := ref_ex (n := n) h (-3) (by decide)
    rw [q1, q2, bindV]
    show Ok _ ((if (-3 : Int32) = 0 then _ else some (-3, m')).bind _) ka ta mk
    rw [if_neg (by decide), bindV]
    show Ok _ (if (-3 : Int32) = 0 then _ else some (-3, m')) ka ta mk
    rw [if_neg (by decide)]
    exact Ok.same q3 _
theorem ok_court (h : Rel x m ka ta mk) (hn : 20000 ≤ n) (p1 p2 : Int32) : Ok (F_X8_court n x p1 p2) (F_X9_court n m p1 p2) ka ta mk := by
  unfold F_X8_court F_X9_court
  simp only [bindE]
  rw [shelfAt_eq, bindV]
  by_cases h1 : 0 ≤ p1.toInt ∧ p1.toInt ≤ 7
  · rw [if_pos h1, oM_s, nat_toInt, gd_d (k8 h1), xIn p2 1 40 1 40 rfl rfl, bf_d]
    by_cases h2 : 1 ≤ p2.toInt ∧ p2.toInt ≤ 40
    · rw [if_pos h2]
      refine by_row h h1 h2 fun c3 c4 c5 q => ?_
      have r1 := h.1
      have key : ∀ (k i kf kf' : Nat) (b mo p : Int32), p.toInt = i → p2.toInt = i + k → k < kf → k < kf' → ∃ r, F_X8_toldByMost_L8 n x p1.toInt.toNat p2 kf mo b p = some r ∧ F_X9_court_L22 n m p1 p2 0 kf' b mo p = some (r, m) := by
        intro k
        induction k with
        | zero =>
          intro i kf kf' b mo p e1 e2 e3 e4
          cases kf with
          | zero => omega
          | succ kf =>
            cases kf' with
            | zero => omega
            | succ kf' =>
              unfold F_X8_toldByMost_L8 F_X9_court_L22
              rw [iLe, if_pos (by omega), iLe, if_pos (by omega)]
              exact ⟨_, rfl, rfl⟩
        | succ k ih =>
          intro i kf kf' b mo p e1 e2 e3 e4
          cases kf with
          | zero => omega
          | succ kf =>
            cases kf' with
            | zero => omega
            | succ kf' =>
              have g8 : inb p1 8 = true := inb_t (by omega) (by omega)
              unfold F_X8_toldByMost_L8 F_X9_court_L22
              rw [iLe, if_neg (by omega), iLe, if_neg (by omega), x_at_el (el := m_rows m p1.toInt.toNat) (by rw [c3]; exact c4.2) c5 e1 (by rw [c3]; omega), bindV, g8, gd_t, gd_i (by omega) (by omega), nat_of e1, nat_toInt, x_can r1, m_can, bindV]
              cases canM m (m_rows m p1.toInt.toNat i)
              · rw [bf_f, bf_f]
                exact ih (i + 1) kf kf' b mo (p + 1) (suc_I e1 (by omega)) (by omega) (by omega) (by omega)
              · have et : F_X5_timesOf n (x_sh x p1.toInt.toNat) (m_rows m p1.toInt.toNat i) p2 = some (cntE (m_rows m p1.toInt.toNat) (m_rows m p1.toInt.toNat i) p2.toInt.toNat 0 0) := x_times (el := m_rows m p1.toInt.toNat) (by rw [c3]; exact c4.2) c5 _ (by rw [c3]; exact q) p2.toInt.toNat 0 n 0 0 rfl (by omega) (by omega)
                rw [bf_t, bf_t, et, bindV, m_times (F_X9_court_L22 n m p1 p2 0 kf') h1 (by omega) e1 (by omega) p2.toInt.toNat 0 n 0 0 rfl (by omega) (by omega)]
                by_cases z : cntE (m_rows m p1.toInt.toNat) (m_rows m p1.toInt.toNat i) p2.toInt.toNat 0 0 ≤ mo
                · rw [if_pos z, if_pos z]
                  exact ih (i + 1) kf kf' b mo (p + 1) (suc_I e1 (by omega)) (by omega) (by omega) (by omega)
                · rw [if_neg z, if_neg z]
                  exact ih (i + 1) kf kf' _ _ (p + 1) (suc_I e1 (by omega)) (by omega) (by omega) (by omega)
      obtain ⟨r, k1, k2⟩ := key p2.toInt.toNat 0 n n (-1) 0 0 rfl (by omega) (by omega) (by omega)
      have k1' : F_X8_toldByMost n x p1.toInt.toNat p2 = some r := k1
      dsimp only
      rw [k1', k2, bindV]
      exact Ok.same h _
    · rw [if_neg h2, noWit_n h1 h2]
      exact ref_go h _ (by decide) _
  · rw [if_neg h1, oM_n, noWit_out h1]
    exact ref_go h _ (by decide) _
theorem ok_eager (h : Rel x m ka ta mk) (hn : 20000 ≤ n) (p1 p2 : Int32) : Ok (F_X8_eager n x p1 p2) (F_X9_eager n m p1 p2) ka ta mk := by
  unfold F_X8_eager F_X9_eager
  simp only [bindE]
  rw [shelfAt_eq, bindV]
  by_cases h1 : 0 ≤ p1.toInt ∧ p1.toInt ≤ 7
  · rw [if_pos h1, oM_s, nat_toInt, gd_d (k8 h1), xIn p2 1 40 1 40 rfl rfl, bf_d]
    by_cases h2 : 1 ≤ p2.toInt ∧ p2.toInt ≤ 40
    · rw [if_pos h2]
      refine by_row h h1 h2 fun c3 c4 c5 q => ?_
      have r1 := h.1
      generalize F_X5_refusalAsRow (x_sh x p1.toInt.toNat) p2 = v4
      have key : ∀ (k i kf kf' : Nat) (w p : Int32), p.toInt = i → p2.toInt = i + k → k < kf → k < kf' → Ok (F_X8_eager_L52 n x p1.toInt.toNat p1 p2 v4 kf w p) (F_X9_eager_L19 n m p1 p2 0 kf' w p) ka ta mk := by
        intro k
        induction k with
        | zero =>
          intro i kf kf' w p e1 e2 e3 e4
          cases kf with
          | zero => omega
          | succ kf =>
            cases kf' with
            | zero => omega
            | succ kf' =>
              unfold F_X8_eager_L52 F_X9_eager_L19
              rw [iLe, if_pos (by omega), iLe, if_pos (by omega)]
              exact Ok.same h _
        | succ k ih =>
          intro i kf kf' w p e1 e2 e3 e4
          cases kf with
          | zero => omega
          | succ kf =>
            cases kf' with
            | zero => omega
            | succ kf' =>
              have g8 : inb p1 8 = true := inb_t (by omega) (by omega)
              unfold F_X8_eager_L52 F_X9_eager_L19
              rw [iLe, if_neg (by omega), iLe, if_neg (by omega), x_at_el (el := m_rows m p1.toInt.toNat) (by rw [c3]; exact c4.2) c5 e1 (by rw [c3]; omega), bindV, g8, gd_t, gd_i (by omega) (by omega), nat_of e1, nat_toInt, x_can r1, m_can, bindV, Int32.add_zero]
              cases canM m (m_rows m p1.toInt.toNat i)
              · rw [bf_f, bf_f]
                exact ih (i + 1) kf kf' _ (p + 1) (suc_I e1 (by omega)) (by omega) (by omega) (by omega)
              · rw [bf_t, bf_t]
                exact ih (i + 1) kf kf' _ (p + 1) (suc_I e1 (by omega)) (by omega) (by omega) (by omega)
      exact key p2.toInt.toNat 0 n n 0 0 rfl (by omega) (by omega) (by omega)
    · rw [if_neg h2, noWit_n h1 h2]
      exact ref_go h _ (by decide) _
  · rw [if_neg h1, oM_n, noWit_out h1]
    exact ref_go h _ (by decide) _
end WT
