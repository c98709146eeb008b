/-! ===== the best DAY, sums over DAYS ===== -/
def bestF (g : Int32 → Int32) : Nat → Int32 → Int32 → Int32
  | 0, b, _ => b
  | k + 1, b, d => if g d ≤ g b then bestF g k b (d + 1) else bestF g k d (d + 1)
section BS
variable {x : XS} {m : MS} {ka ta : Option Nat} {mk : Option MS} {n : Nat}
theorem best_L {by_ : Int32} {g : Int32 → Int32} {top : Int} (ht : top ≤ 9999) (hg : ∀ d : Int32, 0 ≤ d.toInt → d.toInt ≤ top → F_X2_meritOf n x d by_ = some (g d)) (v1 v2 last : Int32) (hl : last.toInt ≤ top) : ∀ (k kf : Nat) (b d : Int32), 0 ≤ d.toInt → d.toInt + k = last.toInt + 1 → k < kf → F_X2_bestOf_L23 n x v1 v2 by_ last kf b (g b) d = some (bestF g k b d) := by
  intro k
  induction k with
  | zero =>
    intro kf b d h0 h1 h2
    cases kf with
    | zero => omega
    | succ kf =>
      unfold F_X2_bestOf_L23 bestF
      rw [iLt, if_pos (by omega)]
  | succ k ih =>
    intro kf b d h0 h1 h2
    cases kf with
    | zero => omega
    | succ kf =>
      have hd : dayR d := ⟨h0, by omega⟩
      have e := next_I hd
      unfold F_X2_bestOf_L23 bestF
      rw [iLt, if_neg (by omega), hg d h0 (by omega), bindV]
      by_cases q : g d ≤ g b
      · rw [if_pos q, if_pos q]
        exact ih kf b (d + 1) (by omega) (by omega) (by omega)
      · rw [if_neg q, if_neg q]
        exact ih kf d (d + 1) (by omega) (by omega) (by omega)
theorem x_best {by_ : Int32} {g : Int32 → Int32} {top : Int} (ht : top ≤ 9999) (hg : ∀ d : Int32, 0 ≤ d.toInt → d.toInt ≤ top → F_X2_meritOf n x d by_ = some (g d)) (hn : 20000 ≤ n) {d q : Int32} (h1 : 0 ≤ d.toInt ∧ d.toInt ≤ 9999) (h2 : 1 ≤ q.toInt ∧ q.toInt ≤ 1000) (h3 : (F_X9_lastOf d q).toInt ≤ top) : F_X2_bestOf n x d q by_ = some (bestF g (daysOf (d + 1) (F_X9_lastOf d q)) d (d + 1)) := by
  have hl := last_b h1 h2
  have e := next_I (d := d) h1
  unfold F_X2_bestOf
  rw [hg d h1.1 (by omega), bindV, lastOf_eq]
  exact best_L ht hg d q _ h3 _ n d (d + 1) (by omega) (by unfold daysOf; omega) (by unfold daysOf; omega)
theorem loopBest {G : Nat → Int32 → Int32 → Option (Int32 × MS)} {g : Int32 → Int32} {last : Int32} {top : Int} (ht : top ≤ 9999) (hl : last.toInt ≤ top) (g0 : ∀ kf b d, last.toInt < d.toInt → G (kf + 1) b d = some (b, m)) (g1 : ∀ kf b d : _, 0 ≤ (b : Int32).toInt → b.toInt ≤ top → 0 ≤ (d : Int32).toInt → d.toInt ≤ top → ¬ last.toInt < d.toInt → G (kf + 1) b d = if g d ≤ g b then G kf b (d + 1) else G kf d (d + 1)) : ∀ (k kf : Nat) (b d : Int32), 0 ≤ b.toInt → b.toInt ≤ top → 0 ≤ d.toInt → d.toInt + k = last.toInt + 1 → k < kf → G kf b d = some (bestF g k b d, m) := by
  intro k
  induction k with
  | zero =>
    intro kf b d hb hb2 h0 h1 h2
    cases kf with
    | zero => omega
    | succ kf => rw [g0 kf b d (by omega)]; rfl
  | succ k ih =>
    intro kf b d hb hb2 h0 h1 h2
    cases kf with
    | zero => omega
    | succ kf =>
      have hd : dayR d := ⟨h0, by omega⟩
      have e := next_I hd
      rw [g1 kf b d hb hb2 h0 (by omega) (by omega)]
      unfold bestF
      by_cases q : g d ≤ g b
      · rw [if_pos q, if_pos q]
        exact ih kf b (d + 1) hb hb2 (by omega) (by omega) (by omega)
      · rw [if_neg q, if_neg q]
        exact ih kf d (d + 1) h0 (by omega) (by omega) (by omega) (by omega)
theorem merit_0 (d : Int32) : F_X2_meritOf n x d 0 = (F_X2_laterOf n x d).bind fun r => some (-r) := rfl
theorem merit_1 (d : Int32) : F_X2_meritOf n x d 1 = some (F_J9_abs_0f7a4 (F_X2_slantOf x d)) := rfl
theorem merit_2 (d : Int32) : F_X2_meritOf n x d 2 = (F_X2_overOf n x d).bind fun r => some (-r) := rfl
theorem merit_3 (d : Int32) : F_X2_meritOf n x d 3 = (F_X2_lightOf n x d 1200 1439).bind fun r => some r := rfl
theorem neg_le {a b : Int32} (ha : 0 ≤ a.toInt) (hb : 0 ≤ b.toInt) : (-a ≤ -b) ↔ b ≤ a := by
  rw [leI, leI, tN (by omega), tN (by omega)]
  omega
theorem neg_ite {α : Sort _} {a b : Int32} (ha : 0 ≤ a.toInt) (hb : 0 ≤ b.toInt) (y z : α) : (if -a ≤ -b then y else z) = if b ≤ a then y else z := by
  by_cases h : b ≤ a
  · rw [if_pos h, if_pos ((neg_le ha hb).mpr h)]
  · rw [if_neg h, if_neg (fun q => h ((neg_le ha hb).mp q))]
theorem ok_alike (h : Rel x m ka ta mk) (hn : 20000 ≤ n) (p1 : Int32) : Ok (F_X8_alike n x p1) (F_X9_alike n m p1) ka ta mk := by
  unfold F_X8_alike F_X9_alike
  simp only [bindE]
  rw [xIn p1 0 9991 0 9991 rfl rfl, mIn p1 0 9991 0 9991 rfl rfl, bf_d, bf_d]
  by_cases h1 : 0 ≤ p1.toInt ∧ p1.toInt ≤ 9991
  · rw [if_pos h1, if_pos h1]
    have r1 := h.1
    have hA := r1.2.1
    have hN := r1.2.2.1.1
    have h1' : 0 ≤ p1.toInt ∧ p1.toInt ≤ 9999 := ⟨h1.1, by omega⟩
    have e1 := next_I (d := p1) h1'
    have e8 : (p1 + 8).toInt = p1.toInt + 8 := tA (by show _ ≤ _ + (8 : Int); omega) (by show _ + (8 : Int) ≤ _; omega)
    have hl := last_b (q := 8) h1' ⟨by decide, by decide⟩
    replace hl : (F_X9_lastOf p1 8).toInt = min (p1.toInt + 8 - 1) 9999 := hl
    have hg : ∀ d : Int32, 0 ≤ d.toInt → d.toInt ≤ 9998 → F_X2_meritOf n x d 0 = some (-laterM m d) := by
      intro d a b
      rw [merit_0, x_later r1 hn ⟨a, by omega⟩ (by omega), bindV]
    rw [x_best (top := 9998) (by omega) hg hn h1' (q := 8) ⟨by decide, by decide⟩ (by omega), bindV]
    have g1 : ∀ (kf : Nat) (b d : Int32), 0 ≤ b.toInt → b.toInt ≤ 9998 → 0 ≤ d.toInt → d.toInt ≤ 9998 → ¬ (F_X9_lastOf p1 8).toInt < d.toInt → F_X9_alike_L25 n m p1 (kf + 1) b d = if -laterM m d ≤ -laterM m b then F_X9_alike_L25 n m p1 kf b (d + 1) else F_X9_alike_L25 n m p1 kf d (d + 1) := by
      intro kf b d hb hb2 hd hd2 q
      conv => lhs; unfold F_X9_alike_L25
      rw [iLe, e8, if_neg (by omega), m_later hA hN hn ⟨hd, by omega⟩, bindV, m_later hA hN hn ⟨hb, by omega⟩, bindV, neg_ite later_b.1 later_b.1]
    rw [loopBest (m := m) (G := F_X9_alike_L25 n m p1) (top := 9998) (by omega) (show (F_X9_lastOf p1 8).toInt ≤ 9998 by omega) (fun kf b d q => by unfold F_X9_alike_L25; rw [iLe, e8, if_pos (by omega)]) g1 (daysOf (p1 + 1) (F_X9_lastOf p1 8)) n p1 (p1 + 1) h1.1 (by omega) (by omega) (by unfold daysOf; omega) (by unfold daysOf; omega)]
    exact Ok.same h _
  · rw [if_neg h1, if_neg h1]; exact bad h
def sizM (m : MS) (d : Int32) : Int32 := if 0 ≤ slM m d then slM m d else -slM m d
theorem m_size (n : Nat) (m : MS) (d : Int32) : F_X9_sizeOf n m d = some (sizM m d) := by
  unfold F_X9_sizeOf sizM
  rw [m_slant, bindV]
  split <;> rfl
theorem ok_farthest (h : Rel x m ka ta mk) (hn : 20000 ≤ n) (p1 p2 : Int32) : Ok (F_X8_farthest n x p1 p2) (F_X9_farthest n m p1 p2) ka ta mk := by
  unfold F_X8_farthest F_X9_farthest
  simp only [bindE]
  rw [xDays, mDays, bf_d, bf_d]
  by_cases h1 : (0 ≤ p1.toInt ∧ p1.toInt ≤ 9999) ∧ (1 ≤ p2.toInt ∧ p2.toInt ≤ 1000)
  · rw [if_pos h1, if_pos h1]
    have r1 := h.1
    have e1 := next_I (d := p1) h1.1
    have hl := last_b h1.1 h1.2
    have hg : ∀ d : Int32, 0 ≤ d.toInt → d.toInt ≤ 9999 → F_X2_meritOf n x d 1 = some (sizM m d) := by
      intro d a b
      rw [merit_1, x_slant r1]
      rfl
    rw [x_best (top := 9999) (by omega) hg hn h1.1 h1.2 (by omega), bindV]
    have g1 : ∀ (kf : Nat) (b d : Int32), 0 ≤ b.toInt → b.toInt ≤ 9999 → 0 ≤ d.toInt → d.toInt ≤ 9999 → ¬ (F_X9_lastOf p1 p2).toInt < d.toInt → F_X9_farthest_L22 n m p1 p2 (kf + 1) b d = if sizM m d ≤ sizM m b then F_X9_farthest_L22 n m p1 p2 kf b (d + 1) else F_X9_farthest_L22 n m p1 p2 kf d (d + 1) := by
      intro kf b d hb hb2 hd hd2 q
      conv => lhs; unfold F_X9_farthest_L22
      rw [iLt, if_neg q, m_size, bindV, m_size, bindV]
    rw [loopBest (m := m) (G := F_X9_farthest_L22 n m p1 p2) (top := 9999) (by omega) (show (F_X9_lastOf p1 p2).toInt ≤ 9999 by omega) (fun kf b d q => by unfold F_X9_farthest_L22; rw [iLt, if_pos q]) g1 (daysOf (p1 + 1) (F_X9_lastOf p1 p2)) n p1 (p1 + 1) h1.1.1 (by omega) (by omega) (by unfold daysOf; omega) (by unfold daysOf; omega)]
    exact Ok.same h _
  · rw [if_neg h1, if_neg h1]; exact bad h
theorem ok_soonest (h : Rel x m ka ta mk) (hn : 20000 ≤ n) (p1 p2 : Int32) : Ok (F_X8_soonest n x p1 p2) (F_X9_soonest n m p1 p2) ka ta mk := by
  unfold F_X8_soonest F_X9_soonest
  simp only [bindE]
  rw [xDays, mDays, bf_d, bf_d]
  by_cases h1 : (0 ≤ p1.toInt ∧ p1.toInt ≤ 9999) ∧ (1 ≤ p2.toInt ∧ p2.toInt ≤ 1000)
  · rw [if_pos h1, if_pos h1]
    have r1 := h.1
    have hA := r1.2.1
    have hN := r1.2.2.1.1
    have e1 := next_I (d := p1) h1.1
    have hl := last_b h1.1 h1.2
    have ho : ∀ d, 0 ≤ (ovM m d).toInt := fun d => (ov_spec hN d).2.1
    have hg : ∀ d : Int32, 0 ≤ d.toInt → d.toInt ≤ 9999 → F_X2_meritOf n x d 2 = some (-ovM m d) := by
      intro d a b
      rw [merit_2, x_over r1 hn ⟨a, by omega⟩, bindV]
    rw [x_best (top := 9999) (by omega) hg hn h1.1 h1.2 (by omega), bindV, m_over hA hN hn (day1 h1.1), bindV]
    have key : ∀ (k kf : Nat) (b d : Int32), 0 ≤ b.toInt → b.toInt ≤ 9999 → 0 ≤ d.toInt → d.toInt + k = (F_X9_lastOf p1 p2).toInt + 1 → k < kf → F_X9_soonest_L29 n m p1 p2 kf b (ovM m b) d = some (bestF (fun d => -ovM m d) k b d, m) := by
      intro k
      induction k with
      | zero =>
        intro kf b d hb hb2 h0 h2 h3
        cases kf with
        | zero => omega
        | succ kf => unfold F_X9_soonest_L29; rw [iLt, if_pos (by omega)]; rfl
      | succ k ih =>
        intro kf b d hb hb2 h0 h2 h3
        cases kf with
        | zero => omega
        | succ kf =>
          have hd : dayR d := ⟨h0, by omega⟩
          have e := next_I hd
          unfold F_X9_soonest_L29 bestF
          rw [iLt, if_neg (by omega), m_over hA hN hn (day1 hd), bindV, neg_ite (ho d) (ho b)]
          by_cases q : ovM m b ≤ ovM m d
          · rw [if_pos q, if_pos q, if_pos q]
            exact ih kf b (d + 1) hb hb2 (by omega) (by omega) (by omega)
          · rw [if_neg q, if_neg q, if_neg q]
            exact ih kf d (d + 1) h0 (by omega) (by omega) (by omega) (by omega)
    rw [key (daysOf (p1 + 1) (F_X9_lastOf p1 p2)) n p1 (p1 + 1) h1.1.1 (by omega) (by omega) (by unfold daysOf; omega) (by unfold daysOf; omega)]
    exact Ok.same h _
  · rw [if_neg h1, if_neg h1]; exact bad h
theorem ok_brightest (h : Rel x m ka ta mk) (hn : 20000 ≤ n) (p1 p2 : Int32) : Ok (F_X8_brightest n x p1 p2) (F_X9_brightest n m p1 p2) ka ta mk := by
  unfold F_X8_brightest F_X9_brightest
  simp only [bindE]
  rw [xDays, mDays, bf_d, bf_d]
  by_cases h1 : (0 ≤ p1.toInt ∧ p1.toInt ≤ 9999) ∧ (1 ≤ p2.toInt ∧ p2.toInt ≤ 1000)
  · rw [if_pos h1, if_pos h1]
    have r1 := h.1
    have hA := r1.2.1
    have hN := r1.2.2.1.1
    have e1 := next_I (d := p1) h1.1
    have hl := last_b h1.1 h1.2
    have hm : minR (1200 : Int32) 1439 := ⟨by decide, by decide, by decide⟩
    have hg : ∀ d : Int32, 0 ≤ d.toInt → d.toInt ≤ 9999 → F_X2_meritOf n x d 3 = some (liM m d 1200 1439) := by
      intro d a b
      rw [merit_3, x_light r1 hn ⟨a, by omega⟩ hm, bindV]
    rw [x_best (top := 9999) (by omega) hg hn h1.1 h1.2 (by omega), bindV]
    have key : ∀ (k kf : Nat) (b d : Int32), 0 ≤ b.toInt → b.toInt ≤ 9999 → 0 ≤ d.toInt → d.toInt + k = (F_X9_lastOf p1 p2).toInt + 1 → k < kf → F_X9_brightest_L23 n m p1 p2 kf b (liM m b 1200 1439) d = some (bestF (fun d => liM m d 1200 1439) k b d, m) := by
      intro k
      induction k with
      | zero =>
        intro kf b d hb hb2 h0 h2 h3
        cases kf with
        | zero => omega
        | succ kf => unfold F_X9_brightest_L23; rw [iLt, if_pos (by omega)]; rfl
      | succ k ih =>
        intro kf b d hb hb2 h0 h2 h3
        cases kf with
        | zero => omega
        | succ kf =>
          have hd : dayR d := ⟨h0, by omega⟩
          have e := next_I hd
          unfold F_X9_brightest_L23 bestF
          rw [iLt, if_neg (by omega), m_light hA hN hn (day1 hd) hm, bindV]
          by_cases q : liM m d 1200 1439 ≤ liM m b 1200 1439
          · rw [if_pos q, if_pos q]
            exact ih kf b (d + 1) hb hb2 (by omega) (by omega) (by omega)
          · rw [if_neg q, if_neg q]
            exact ih kf d (d + 1) h0 (by omega) (by omega) (by omega) (by omega)
    obtain ⟨n', hn'⟩ : ∃ n', n = n' + 1 := ⟨n - 1, by omega⟩
    have hb := li_b (d := p1) hA hN (day1 h1.1) hm
    have first : F_X9_brightest_L23 n m p1 p2 n p1 (-1) p1 = F_X9_brightest_L23 n m p1 p2 n' p1 (liM m p1 1200 1439) (p1 + 1) := by
      conv => lhs; rw [hn']; unfold F_X9_brightest_L23
      rw [← hn', iLt, if_neg (by omega), m_light hA hN hn (day1 h1.1) hm, bindV, iLe, if_neg (by show ¬ _ ≤ (-1 : Int); omega)]
    rw [first, key (daysOf (p1 + 1) (F_X9_lastOf p1 p2)) n' p1 (p1 + 1) h1.1.1 (by omega) (by omega) (by unfold daysOf; omega) (by unfold daysOf; omega)]
    exact Ok.same h _
  · rw [if_neg h1, if_neg h1]; exact bad h
theorem ok_lights (h : Rel x m ka ta mk) (hn : 20000 ≤ n) (p1 p2 p3 p4 : Int32) : Ok (F_X8_lights n x p1 p2 p3 p4) (F_X9_lights n m p1 p2 p3 p4) ka ta mk := by
  unfold F_X8_lights F_X9_lights
  simp only [bindE]
  rw [xDay, mDay, bf_d, bf_d, xIn p2 1 40 1 40 rfl rfl, mIn p2 1 40 1 40 rfl rfl, bf_d, bf_d, xMin, mMin, bf_d, bf_d]
  by_cases h1 : 0 ≤ p1.toInt ∧ p1.toInt ≤ 9999
  · rw [if_pos h1, if_pos h1]
    by_cases h2 : 1 ≤ p2.toInt ∧ p2.toInt ≤ 40
    · rw [if_pos h2, if_pos h2]
      by_cases h3 : 0 ≤ p3.toInt ∧ p3.toInt ≤ p4.toInt ∧ p4.toInt ≤ 1439
      · rw [if_pos h3, if_pos h3, lastOf_eq]
        have r1 := h.1
        have hA := r1.2.1
        have hN := r1.2.2.1.1
        obtain ⟨a, b, c⟩ := daysOf_b h1 (show 1 ≤ p2.toInt ∧ p2.toInt ≤ 1000 by omega)
        have key : ∀ (k kf : Nat) (w d : Int32), 0 ≤ d.toInt → d.toInt + k = (F_X9_lastOf p1 p2).toInt + 1 → k < kf → Ok (F_X8_lights_L46 n x p1 p2 p3 p4 (F_X9_lastOf p1 p2) kf w d) (F_X9_lights_L42 n m p1 p2 p3 p4 kf w d) ka ta mk := by
          intro k
          induction k with
          | zero =>
            intro kf w d h0 q1 q2
            cases kf with
            | zero => omega
            | succ kf =>
              unfold F_X8_lights_L46 F_X9_lights_L42
              rw [iLt, iLt, if_pos (by omega), if_pos (by omega)]
              exact Ok.same h _
          | succ k ih =>
            intro kf w d h0 q1 q2
            cases kf with
            | zero => omega
            | succ kf =>
              have hd : dayR d := ⟨h0, by omega⟩
              have e := next_I hd
              unfold F_X8_lights_L46 F_X9_lights_L42
              rw [iLt, iLt, if_neg (by omega), if_neg (by omega), x_light r1 hn (day1 hd) h3, m_light hA hN hn (day1 hd) h3, bindV, bindV]
              exact ih kf _ (d + 1) (by omega) (by omega) (by omega)
        exact key _ n 0 p1 h1.1 a (by omega)
      · rw [if_neg h3, if_neg h3]; exact bad h
    · rw [if_neg h2, if_neg h2]; exact bad h
  · rw [if_neg h1, if_neg h1]; exact bad h
theorem ok_lates (h : Rel x m ka ta mk) (hn : 20000 ≤ n) (p1 p2 p3 : Int32) : Ok (F_X8_lates n x p1 p2 p3) (F_X9_lates n m p1 p2 p3) ka ta mk := by
  unfold F_X8_lates F_X9_lates
  simp only [bindE]
  rw [xDays, mDays, bf_d, bf_d, xIn p3 0 2 0 2 rfl rfl, mIn p3 0 2 0 2 rfl rfl, bf_d, bf_d]
  by_cases h1 : (0 ≤ p1.toInt ∧ p1.toInt ≤ 9999) ∧ (1 ≤ p2.toInt ∧ p2.toInt ≤ 1000)
  · rw [if_pos h1, if_pos h1]
    by_cases h2 : 0 ≤ p3.toInt ∧ p3.toInt ≤ 2
    · rw [if_pos h2, if_pos h2, lastOf_eq]
      have r1 := h.1
      have hA := r1.2.1
      have hN := r1.2.2.1.1
      have hl := last_b h1.1 h1.2
      obtain ⟨n', hn'⟩ : ∃ n', n = n' + 1 := ⟨n - 1, by omega⟩
      by_cases q9 : p1 = 9999
      · have e9 : p1.toInt = 9999 := by rw [q9]; rfl
        rw [if_pos q9]
        have first : F_X9_lates_L41 n m p1 p2 p3 n 1440 (-1) 0 p1 = F_X9_refuse n m (-5) := by
          conv => lhs; rw [hn']; unfold F_X9_lates_L41
          rw [← hn', iLt, if_neg (by omega), iLe, if_pos (by show (9999 : Int) ≤ _; omega), if_pos rfl, bindE]
        rw [first]
        exact stuck h
      · have e9 : p1.toInt < 9999 := by
          have h9 : ¬ p1.toInt = 9999 := fun z => q9 (eqI.mpr z)
          omega
        rw [if_neg q9]
        have em : (F_J9_min_7cf53 (F_X9_lastOf p1 p2) 9998).toInt = min (F_X9_lastOf p1 p2).toInt 9998 := min_I _ _
        generalize F_J9_min_7cf53 (F_X9_lastOf p1 p2) 9998 = la at em ⊢
        have key : ∀ (k kf kf' : Nat) (a b s d : Int32), 0 ≤ b.toInt → 0 ≤ d.toInt → d.toInt + k = la.toInt + 1 → k < kf → k < kf' → Ok (F_X8_lates_L65 n x p1 p2 p3 la kf a b s d) (F_X9_lates_L41 n m p1 p2 p3 kf' a b s d) ka ta mk := by
          intro k
          induction k with
          | zero =>
            intro kf kf' a b s d hb h0 q1 q2 q3
            have bn : ¬ b = -1 := fun z => by rw [z] at hb; exact absurd hb (by decide)
            cases kf with
            | zero => omega
            | succ kf =>
              cases kf' with
              | zero => omega
              | succ kf' =>
                unfold F_X8_lates_L65 F_X9_lates_L41
                rw [iLt, if_pos (by omega), iLt, iLe (9999 : Int32) d, if_neg bn]
                have hx : (if (F_X9_lastOf p1 p2).toInt < d.toInt then (if p3 = 0 then some (a, m) else if p3 = 1 then some (b, m) else some (s, m)) else if (9999 : Int32).toInt ≤ d.toInt then (if p3 = 0 then some (a, m) else if p3 = 1 then some (b, m) else some (s, m)) else (F_X9_later n m d).bind fun r15 => if a ≤ r15 then if r15 ≤ b then F_X9_lates_L41 n m p1 p2 p3 kf' a b (s + r15) (d + 1) else F_X9_lates_L41 n m p1 p2 p3 kf' a r15 (s + r15) (d + 1) else if r15 ≤ b then F_X9_lates_L41 n m p1 p2 p3 kf' r15 b (s + r15) (d + 1) else F_X9_lates_L41 n m p1 p2 p3 kf' r15 r15 (s + r15) (d + 1)) = (if p3 = 0 then some (a, m) else if p3 = 1 then some (b, m) else some (s, m)) := by
                  by_cases z : (F_X9_lastOf p1 p2).toInt < d.toInt
                  · rw [if_pos z]
                  · rw [if_neg z, if_pos (by show (9999 : Int) ≤ _; omega)]
                rw [hx]
                by_cases z0 : p3 = 0
                · rw [if_pos z0, if_pos z0]; exact Ok.same h _
                · rw [if_neg z0, if_neg z0]
                  by_cases z1 : p3 = 1
                  · rw [if_pos z1, if_pos z1]; exact Ok.same h _
                  · rw [if_neg z1, if_neg z1]; exact Ok.same h _
          | succ k ih =>
            intro kf kf' a b s d hb h0 q1 q2 q3
            cases kf with
            | zero => omega
            | succ kf =>
              cases kf' with
              | zero => omega
              | succ kf' =>
                have hd : dayR d := ⟨h0, by omega⟩
                have e := next_I hd
                have lb := later_b (m := m) (d := d)
                unfold F_X8_lates_L65 F_X9_lates_L41
                rw [iLt, if_neg (by omega), iLt, if_neg (by omega), iLe (9999 : Int32) d, if_neg (by show ¬ (9999 : Int) ≤ _; omega), x_later r1 hn hd (by omega), m_later hA hN hn hd, bindV, bindV]
                unfold F_J9_min_7cf53 F_J9_max_7cf53
                by_cases z1 : a ≤ laterM m d
                · rw [if_pos z1, if_neg (fun w => by rw [ltI] at w; rw [leI] at z1; omega)]
                  by_cases z2 : laterM m d ≤ b
                  · rw [if_pos z2, if_neg (fun w => by rw [ltI] at w; rw [leI] at z2; omega)]
                    exact ih kf kf' a b _ (d + 1) hb (by omega) (by omega) (by omega) (by omega)
                  · rw [if_neg z2, if_pos (by rw [ltI]; rw [leI] at z2; omega)]
                    exact ih kf kf' a _ _ (d + 1) lb.1 (by omega) (by omega) (by omega) (by omega)
                · rw [if_neg z1, if_pos (by rw [ltI]; rw [leI] at z1; omega)]
                  by_cases z2 : laterM m d ≤ b
                  · rw [if_pos z2, if_neg (fun w => by rw [ltI] at w; rw [leI] at z2; omega)]
                    exact ih kf kf' _ b _ (d + 1) hb (by omega) (by omega) (by omega) (by omega)
                  · rw [if_neg z2, if_pos (by rw [ltI]; rw [leI] at z2; omega)]
                    exact ih kf kf' _ _ _ (d + 1) lb.1 (by omega) (by omega) (by omega) (by omega)
        have lb := later_b (m := m) (d := p1)
        have e := next_I (d := p1) h1.1
        have fx : F_X8_lates_L65 n x p1 p2 p3 la n 1439 0 0 p1 = F_X8_lates_L65 n x p1 p2 p3 la n' (laterM m p1) (laterM m p1) (0 + laterM m p1) (p1 + 1) := by
          have m1 : F_J9_min_7cf53 1439 (laterM m p1) = laterM m p1 := Int32.toInt_inj.mp (by rw [min_I]; show min (1439 : Int) _ = _; omega)
          have m2 : F_J9_max_7cf53 0 (laterM m p1) = laterM m p1 := Int32.toInt_inj.mp (by rw [max_I]; show max (0 : Int) _ = _; omega)
          conv => lhs; rw [hn']; unfold F_X8_lates_L65
          rw [← hn', iLt, if_neg (by omega), x_later r1 hn h1.1 e9, bindV, m1, m2]
        have fm : F_X9_lates_L41 n m p1 p2 p3 n 1440 (-1) 0 p1 = F_X9_lates_L41 n m p1 p2 p3 n' (laterM m p1) (laterM m p1) (0 + laterM m p1) (p1 + 1) := by
          conv => lhs; rw [hn']; unfold F_X9_lates_L41
          rw [← hn', iLt, if_neg (by omega), iLe (9999 : Int32) p1, if_neg (by show ¬ (9999 : Int) ≤ _; omega), m_later hA hN hn h1.1, bindV, iLe (1440 : Int32), if_neg (by show ¬ (1440 : Int) ≤ _; omega), iLe _ (-1 : Int32), if_neg (by show ¬ _ ≤ (-1 : Int); omega)]
        rw [fx, fm]
        exact key (la.toInt - p1.toInt).toNat n' n' _ _ _ (p1 + 1) lb.1 (by omega) (by omega) (by omega) (by omega)
    · rw [if_neg h2, if_neg h2]; exact bad h
  · rw [if_neg h1, if_neg h1]; exact bad h
/-! months by sums -/
theorem new_I (hA : okA (m_asked m)) {d : Int32} (h : dayR d) : isM m d 4 = decide ((100 * d.toInt + (m_asked m 0).toInt) % 2953 ≤ 99) := by
  have e : isM m d 4 = decide ((ageM m d).toInt ≤ 99) := rfl
  rw [e, age_r hA (day1 h)]
theorem back_age {A off P k : Int} (hA : A = (100 * P + off) % 2953) (h0 : 0 ≤ k) (hk : k ≤ A / 100) : (100 * (P - k) + off) % 2953 = A - 100 * k := by
  have e : 100 * P + off = 2953 * ((100 * P + off) / 2953) + A := by rw [hA]; exact (Int.mul_ediv_add_emod _ _).symm
  have hb : A < 2953 := by rw [hA]; exact Int.emod_lt_of_pos _ (by decide)
  clear hA
  generalize (100 * P + off) / 2953 = q at e
  have e2 : 100 * (P - k) + off = (A - 100 * k) + 2953 * q := by omega
  rw [e2, Int.add_mul_emod_self_left]
  exact Int.emod_eq_of_lt (by omega) (by omega)
theorem ok_date (h : Rel x m ka ta mk) (hn : 20000 ≤ n) (p1 : Int32) : Ok (F_X8_date n x p1) (F_X9_date n m p1) ka ta mk := by
  unfold F_X8_date F_X9_date
  simp only [bindE]
  rw [xDay, mDay, bf_d, bf_d]
  by_cases h1 : 0 ≤ p1.toInt ∧ p1.toInt ≤ 9999
  · rw [if_pos h1, if_pos h1]
    have r1 := h.1
    have hA := r1.2.1
    have hN := r1.2.2.1.1
    have ha := age_r hA (day1 h1)
    have hb := age_b hA (day1 h1)
    have o0 := hA.1
    have ed : (ageM m p1 / 100).toInt = (ageM m p1).toInt / 100 := tD hb.1 (by decide)
    rw [x_age r1, iLe, ed]
    have key : ∀ (k kf : Nat) (d : Int32), 0 ≤ d.toInt + 1 → d.toInt ≤ 9999 → d.toInt = p1.toInt - k → (k : Int) ≤ (ageM m p1).toInt / 100 → 40 < k + kf → F_X9_date_L17 n m p1 kf d = if (ageM m p1).toInt / 100 ≤ p1.toInt then some (ageM m p1 / 100 + 1, m) else F_X9_refuse n m (-5) := by
      have hp := h1.2
      generalize ageM m p1 = A at ha hb ed ⊢
      intro k kf
      induction kf generalizing k with
      | zero =>
        intro d a b c e f
        clear ha
        omega
      | succ kf ih =>
        intro d a b c e f
        have hback := back_age (P := p1.toInt) (k := k) ha (by omega) e
        rw [← c] at hback
        clear ha
        unfold F_X9_date_L17
        rw [iLt, bindE]
        by_cases q : d.toInt < (0 : Int32).toInt
        · rw [if_pos q]
          replace q : d.toInt < 0 := q
          rw [if_neg (by omega)]
        · rw [if_neg q]
          replace q : ¬ d.toInt < 0 := q
          have hd : dayR d := ⟨by omega, b⟩
          rw [m_isOf hA hN hn hd, bindV, new_I hA hd, bf_d, hback]
          clear hback
          by_cases z : (k : Int) = A.toInt / 100
          · rw [if_pos (by omega), if_pos (by omega)]
            refine congrArg some (Prod.ext ?_ rfl)
            show p1 - d + 1 = A / 100 + 1
            refine congrArg (· + 1) (Int32.toInt_inj.mp ?_)
            rw [ed, tS (by omega) (by omega)]
            omega
          · rw [if_neg (by omega)]
            have es : (d + -1).toInt = d.toInt - 1 := by rw [tA (by show _ ≤ _ + (-1 : Int); omega) (by show _ + (-1 : Int) ≤ _; omega)]; show _ + (-1 : Int) = _; omega
            exact ih (k + 1) (d + -1) (by omega) (by omega) (by omega) (by omega) (by omega)
    rw [key 0 n p1 (by omega) h1.2 (by omega) (by have := hb.1; clear ha; omega) (by omega)]
    by_cases q : (ageM m p1).toInt / 100 ≤ p1.toInt
    · rw [if_pos q, if_pos q]; exact Ok.same h _
    · rw [if_neg q, if_neg q]; exact stuck h
  · rw [if_neg h1, if_neg h1]; exact bad h
theorem ok_months (h : Rel x m ka ta mk) (hn : 20000 ≤ n) (p1 : Int32) : Ok (F_X8_months n x p1) (F_X9_months n m p1) ka ta mk := by
  unfold F_X8_months F_X9_months
  simp only [bindE]
  rw [xDay, mDay, bf_d, bf_d]
  by_cases h1 : 0 ≤ p1.toInt ∧ p1.toInt ≤ 9999
  · rw [if_pos h1, if_pos h1]
    have r1 := h.1
    have hA := r1.2.1
    have hN := r1.2.2.1.1
    have o0 := hA.1
    have key : ∀ (k kf : Nat) (w d : Int32), 0 ≤ d.toInt → d.toInt + k = p1.toInt + 1 → k < kf → w.toInt = (100 * (d.toInt - 1) + (m_asked m 0).toInt) / 2953 - ((m_asked m 0).toInt - 100) / 2953 → F_X9_months_L19 n m p1 kf w d = some (Int32.ofInt ((100 * p1.toInt + (m_asked m 0).toInt) / 2953 - ((m_asked m 0).toInt - 100) / 2953), m) := by
      intro k
      induction k with
      | zero =>
        intro kf w d h0 q1 q2 q3
        cases kf with
        | zero => omega
        | succ kf =>
          unfold F_X9_months_L19
          rw [iLt, if_pos (by omega)]
          rw [show p1.toInt = d.toInt - 1 by omega, ← q3, Int32.ofInt_toInt]
      | succ k ih =>
        intro kf w d h0 q1 q2 q3
        cases kf with
        | zero => omega
        | succ kf =>
          have hd : dayR d := ⟨h0, by omega⟩
          have e := next_I hd
          have ew : (w + 1).toInt = w.toInt + 1 := tA (by show _ ≤ _ + (1 : Int); omega) (by show _ + (1 : Int) ≤ _; omega)
          unfold F_X9_months_L19
          rw [iLt, if_neg (by omega), m_isOf hA hN hn hd, bindV, new_I hA hd, bf_d, Int32.add_zero]
          by_cases z : (100 * d.toInt + (m_asked m 0).toInt) % 2953 ≤ 99
          · rw [if_pos z]
            exact ih kf _ (d + 1) (by omega) (by omega) (by omega) (by rw [ew, e, q3]; omega)
          · rw [if_neg z]
            exact ih kf _ (d + 1) (by omega) (by omega) (by omega) (by rw [e, q3]; omega)
    rw [key (p1.toInt + 1).toNat n 0 0 (by decide) (by show (0 : Int) + _ = _; omega) (by omega) (by show (0 : Int) = (100 * (0 - 1) + _) / 2953 - _; omega)]
    refine Ok.eq h ?_
    unfold F_X2_newDaysTill
    rw [r1.1.1]
    have e1 := hundred (day1 h1) o0
    have e2 : (m_asked m 0 - 100).toInt = (m_asked m 0).toInt - 100 := tS (by show _ ≤ _ - (100 : Int); omega) (by show _ - (100 : Int) ≤ _; omega)
    have f1 := tFd (a := 100 * p1 + m_asked m 0) (b := 2953) (by decide)
    have f2 := tFd (a := m_asked m 0 - 100) (b := 2953) (by decide)
    rw [e1] at f1
    rw [e2] at f2
    replace f1 : _ = _ / (2953 : Int) := f1
    replace f2 : _ = _ / (2953 : Int) := f2
    refine Int32.toInt_inj.mp ?_
    rw [tS (by rw [f1, f2]; omega) (by rw [f1, f2]; omega), f1, f2, Int32.toInt_ofInt_of_le (by omega) (by omega)]
  · rw [if_neg h1, if_neg h1]; exact bad h
end BS
