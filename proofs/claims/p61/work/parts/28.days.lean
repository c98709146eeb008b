/-! ===== DAYS from d on ===== -/
def firstF (f : Int32 → Bool) : Nat → Int32 → Int32
  | 0, _ => -1
  | k + 1, d => bf (f d) d (firstF f k (d + 1))
/-- how many of k DAYS are so (i NONE), the i-th; w have been found -/
def pickF (f : Int32 → Bool) (i : Int32) : Nat → Int32 → Int32 → Int32
  | 0, w, _ => if i = -1 then w else -1
  | k + 1, w, d => bf (f d) (if w = i then d else pickF f i k (w + 1) (d + 1)) (pickF f i k w (d + 1))
def daysOf (d last : Int32) : Nat := (last.toInt + 1 - d.toInt).toNat
section DY
variable {x : XS} {m : MS} {ka ta : Option Nat} {mk : Option MS} {n : Nat}
theorem fits_6 (qa qb qc : Int32) (pic : Option Nat) (d : Int32) : F_X2_fits n x 6 qa qb qc pic d = (F_X2_degreeOf n x d).bind fun r => some (F_X8_isIn r qa qb) := rfl
theorem fits_7 (qa qb qc : Int32) (pic : Option Nat) (d : Int32) : F_X2_fits n x 7 qa qb qc pic d = (F_X2_shinesOf n x d qa qb).bind fun r => if r < qc then some false else some true := rfl
theorem fits_8 (qa qb qc : Int32) (pic : Option Nat) (d : Int32) : F_X2_fits n x 8 qa qb qc pic d = (F_X2_behindOf n x d).bind fun r => if r = qa then some true else some false := rfl
theorem fits_9 (qa qb qc : Int32) (pic : Option Nat) (d : Int32) : F_X2_fits n x 9 qa qb qc pic d = bf (F_X2_isFull x d) (bf (F_X2_isAtNode x d) (some true) (some false)) (some false) := rfl
theorem fits_10 (qa qb qc : Int32) (pic : Option Nat) (d : Int32) : F_X2_fits n x 10 qa qb qc pic d = bf (F_X8_isIn (F_X2_ageOf x d) (150 - qa) 1476) ((F_X0_contains n 8 (st_clouds (x_now x)) d).bind fun r => bf r (some false) (some true)) (some false) := rfl
theorem fits_11 (qa qb qc : Int32) (k : Nat) (hk : k < 8) (d : Int32) : F_X2_fits n x 11 qa qb qc (some k) d = (F_X2_isAsPictured n x k d).bind fun r => bf r (some true) (some false) := gd_d (P := k < 8) hk _
theorem pick_L {ab qa qb qc : Int32} {pic : Option Nat} {f : Int32 → Bool} (hf : ∀ d, dayR d → F_X2_fits n x ab qa qb qc pic d = some (f d)) (v1 v2 i last : Int32) (hl : last.toInt ≤ 9999) : ∀ (k kf : Nat) (w d : Int32), 0 ≤ d.toInt → d.toInt + k = last.toInt + 1 → k < kf → F_X2_pick_L13 n x ab qa qb qc pic v1 v2 i last kf w d = some (pickF f i k w d) := by
  intro k
  induction k with
  | zero =>
    intro kf w d h0 h1 h2
    cases kf with
    | zero => omega
    | succ kf =>
      unfold F_X2_pick_L13 pickF
      rw [iLt, if_pos (by omega)]
      split <;> rfl
  | succ k ih =>
    intro kf w d h0 h1 h2
    cases kf with
    | zero => omega
    | succ kf =>
      have hd : dayR d := ⟨h0, by omega⟩
      have e := next_I hd
      unfold F_X2_pick_L13 pickF
      rw [iLt, if_neg (by omega), hf d hd, bindV]
      cases f d
      · rw [bf_f, bf_f]
        exact ih kf w (d + 1) (by omega) (by omega) (by omega)
      · rw [bf_t, bf_t]
        by_cases q : w = i
        · rw [if_pos q, if_pos q]
        · rw [if_neg q, if_neg q]
          exact ih kf (w + 1) (d + 1) (by omega) (by omega) (by omega)
theorem last_b {d q : Int32} (h1 : 0 ≤ d.toInt ∧ d.toInt ≤ 9999) (h2 : 1 ≤ q.toInt ∧ q.toInt ≤ 1000) : (F_X9_lastOf d q).toInt = min (d.toInt + q.toInt - 1) 9999 := lastOf_I h1.1 h1.2 (by omega) h2.2
theorem daysOf_b {d q : Int32} (h1 : 0 ≤ d.toInt ∧ d.toInt ≤ 9999) (h2 : 1 ≤ q.toInt ∧ q.toInt ≤ 1000) : d.toInt + daysOf d (F_X9_lastOf d q) = (F_X9_lastOf d q).toInt + 1 ∧ daysOf d (F_X9_lastOf d q) ≤ 1000 ∧ (F_X9_lastOf d q).toInt ≤ 9999 := by
  have := last_b h1 h2
  unfold daysOf
  omega
theorem x_pick {ab qa qb qc : Int32} {pic : Option Nat} {f : Int32 → Bool} (hf : ∀ d, dayR d → F_X2_fits n x ab qa qb qc pic d = some (f d)) (hn : 20000 ≤ n) {d q : Int32} (h1 : 0 ≤ d.toInt ∧ d.toInt ≤ 9999) (h2 : 1 ≤ q.toInt ∧ q.toInt ≤ 1000) (i : Int32) : F_X2_pick n x ab qa qb qc pic d q i = some (pickF f i (daysOf d (F_X9_lastOf d q)) 0 d) := by
  obtain ⟨a, b, c⟩ := daysOf_b h1 h2
  unfold F_X2_pick
  rw [lastOf_eq]
  exact pick_L hf d q i _ c _ n 0 d h1.1 a (by omega)
theorem pick_first (f : Int32 → Bool) : ∀ (k : Nat) (d : Int32), pickF f 0 k 0 d = firstF f k d
  | 0, d => by unfold pickF firstF; rw [if_neg (show ¬ (0 : Int32) = -1 by decide)]
  | k + 1, d => by
    unfold pickF firstF
    rw [if_pos rfl, pick_first f k (d + 1)]
/-- a loop of the reference for the first DAY that is so -/
theorem loopFirst {G : Nat → Int32 → Option (Int32 × MS)} {f : Int32 → Bool} {last : Int32} (hl : last.toInt ≤ 9999) (g0 : ∀ kf d, last.toInt < d.toInt → G (kf + 1) d = some (-1, m)) (g1 : ∀ kf d, dayR d → ¬ last.toInt < d.toInt → G (kf + 1) d = bf (f d) (some (d, m)) (G kf (d + 1))) : ∀ (k kf : Nat) (d : Int32), 0 ≤ d.toInt → d.toInt + k = last.toInt + 1 → k < kf → G kf d = some (firstF f k d, m) := by
  intro k
  induction k with
  | zero =>
    intro kf d h0 h1 h2
    cases kf with
    | zero => omega
    | succ kf =>
      rw [g0 kf d (by omega)]
      rfl
  | succ k ih =>
    intro kf d h0 h1 h2
    cases kf with
    | zero => omega
    | succ kf =>
      have hd : dayR d := ⟨h0, by omega⟩
      have e := next_I hd
      rw [g1 kf d hd (by omega)]
      unfold firstF
      cases f d
      · rw [bf_f, bf_f]
        exact ih kf (d + 1) (by omega) (by omega) (by omega)
      · rfl
theorem ok_next (h : Rel x m ka ta mk) (hn : 20000 ≤ n) (p1 p2 : Int32) : Ok (F_X8_next n x p1 p2) (F_X9_next n m p1 p2) ka ta mk := by
  unfold F_X8_next F_X9_next
  simp only [bindE]
  rw [xDay, mDay, bf_d, bf_d, xKind, mIn p2 0 5 0 5 rfl rfl, bf_d, bf_d]
  by_cases h1 : 0 ≤ p1.toInt ∧ p1.toInt ≤ 9999
  · rw [if_pos h1, if_pos h1]
    by_cases h2 : 0 ≤ p2.toInt ∧ p2.toInt ≤ 5
    · have r1 := h.1
      obtain ⟨a, b, c⟩ := daysOf_b (q := 1000) h1 ⟨by decide, by decide⟩
      rw [if_pos h2, if_pos h2, x_pick (f := fun d => isM m d p2) (fun d hd => x_fits r1 hn hd h2 _ _ _ _) hn h1 ⟨by decide, by decide⟩, pick_first, bindV]
      have g1 : ∀ kf d, dayR d → ¬ (F_X9_lastOf p1 1000).toInt < d.toInt → F_X9_next_L29 n m p1 p2 (kf + 1) d = bf (isM m d p2) (some (d, m)) (F_X9_next_L29 n m p1 p2 kf (d + 1)) := by
        intro kf d hd q
        conv => lhs; unfold F_X9_next_L29
        rw [iLt, if_neg q, m_isOf r1.2.1 r1.2.2.1.1 hn hd, bindV]
      rw [loopFirst (m := m) (G := F_X9_next_L29 n m p1 p2) (f := fun d => isM m d p2) c (fun kf d q => by unfold F_X9_next_L29; rw [iLt, if_pos q]) g1 _ n p1 h1.1 a (by omega)]
      exact Ok.same h _
    · rw [if_neg h2, if_neg h2]; exact bad h
  · rw [if_neg h1, if_neg h1]; exact bad h
theorem x_at (hR : RS (x_now x) m) (d : Int32) : F_X2_isAtNode x d = (if jrem (100 * d + m_asked m 1) 1366 ≤ 80 then true else if jrem (100 * d + m_asked m 1) 1366 < 1286 then false else true) := by
  unfold F_X2_isAtNode
  rw [hR.1.2.1]
def eclM (m : MS) (d : Int32) : Bool := bf (F_X9_in (Int32.toInt64 (ageM m d)) 1427 1526) (if jrem (100 * d + m_asked m 1) 1366 ≤ 80 then true else if jrem (100 * d + m_asked m 1) 1366 < 1286 then false else true) false
theorem ok_eclipse (h : Rel x m ka ta mk) (hn : 20000 ≤ n) (p1 : Int32) : Ok (F_X8_eclipse n x p1) (F_X9_eclipse n m p1) ka ta mk := by
  unfold F_X8_eclipse F_X9_eclipse
  simp only [bindE]
  rw [xDay, mDay, bf_d, bf_d]
  by_cases h1 : 0 ≤ p1.toInt ∧ p1.toInt ≤ 9999
  · rw [if_pos h1, if_pos h1]
    have r1 := h.1
    obtain ⟨a, b, c⟩ := daysOf_b (q := 1000) h1 ⟨by decide, by decide⟩
    have hf : ∀ d, dayR d → F_X2_fits n x 9 0 0 0 none d = some (eclM m d) := by
      intro d hd
      unfold eclM
      rw [fits_9, x_full r1, x_at r1]
      cases F_X9_in (Int32.toInt64 (ageM m d)) 1427 1526
      · rfl
      · rw [bf_t, bf_t]
        split
        · rfl
        · split <;> rfl
    rw [x_pick hf hn h1 ⟨by decide, by decide⟩, pick_first, bindV]
    have g1 : ∀ kf d, dayR d → ¬ (F_X9_lastOf p1 1000).toInt < d.toInt → F_X9_eclipse_L17 n m p1 (kf + 1) d = bf (eclM m d) (some (d, m)) (F_X9_eclipse_L17 n m p1 kf (d + 1)) := by
      intro kf d hd q
      have e1 : isM m d 1 = F_X9_in (Int32.toInt64 (ageM m d)) 1427 1526 := by unfold isM; rw [if_neg one_n0, if_pos rfl]
      conv => lhs; unfold F_X9_eclipse_L17
      unfold eclM
      rw [iLt, if_neg q, gd_i (by decide) (by decide), m_isOf r1.2.1 r1.2.2.1.1 hn hd, bindV, e1]
      cases F_X9_in (Int32.toInt64 (ageM m d)) 1427 1526
      · rfl
      · rw [bf_t, bf_t]
        show (if jrem (100 * d + m_asked m 1) 1366 ≤ 80 then some (d, m) else if jrem (100 * d + m_asked m 1) 1366 < 1286 then F_X9_eclipse_L17 n m p1 kf (d + 1) else some (d, m)) = _
        split
        · rfl
        · split <;> rfl
    rw [loopFirst (m := m) (G := F_X9_eclipse_L17 n m p1) c (fun kf d q => by unfold F_X9_eclipse_L17; rw [iLt, if_pos q]) g1 _ n p1 h1.1 a (by omega)]
    exact Ok.same h _
  · rw [if_neg h1, if_neg h1]; exact bad h
def seenM (m : MS) (e d : Int32) : Bool := bf (F_X9_in (Int32.toInt64 (ageM m d)) (Int32.toInt64 (150 - e)) 1476) (!hasM m d) false
theorem ok_seen (h : Rel x m ka ta mk) (hn : 20000 ≤ n) (p1 p2 : Int32) : Ok (F_X8_seen n x p1 p2) (F_X9_seen n m p1 p2) ka ta mk := by
  unfold F_X8_seen F_X9_seen
  simp only [bindE]
  rw [xDay, mDay, bf_d, bf_d, xIn p2 0 50 0 50 rfl rfl, mIn p2 0 50 0 50 rfl rfl, bf_d, bf_d]
  by_cases h1 : 0 ≤ p1.toInt ∧ p1.toInt ≤ 9999
  · rw [if_pos h1, if_pos h1]
    by_cases h2 : 0 ≤ p2.toInt ∧ p2.toInt ≤ 50
    · rw [if_pos h2, if_pos h2]
      have r1 := h.1
      obtain ⟨ra, oa, rn, rs, rc, rest⟩ := r1
      obtain ⟨a, b, c⟩ := daysOf_b (q := 1000) h1 ⟨by decide, by decide⟩
      have hf : ∀ d, dayR d → F_X2_fits n x 10 p2 0 0 none d = some (seenM m p2 d) := by
        intro d hd
        unfold seenM
        rw [fits_10, x_age h.1, xIn _ (150 - p2) 1476 (150 - p2).toInt 1476 rfl rfl, mIn _ _ 1476 (150 - p2).toInt 1476 (Int32.toInt_toInt64 _) rfl, x_has rc hn, bindV, bf_d, bf_d]
        split
        · cases hasM m d <;> rfl
        · rfl
      rw [x_pick hf hn h1 ⟨by decide, by decide⟩, pick_first, bindV]
      have g1 : ∀ kf d, dayR d → ¬ (F_X9_lastOf p1 1000).toInt < d.toInt → F_X9_seen_L29 n m p1 p2 (kf + 1) d = bf (seenM m p2 d) (some (d, m)) (F_X9_seen_L29 n m p1 p2 kf (d + 1)) := by
        intro kf d hd q
        conv => lhs; unfold F_X9_seen_L29
        unfold seenM
        rw [iLt, if_neg q, m_age, bindV, m_has rc.2.1 hn, bindV]
        cases F_X9_in (Int32.toInt64 (ageM m d)) (Int32.toInt64 (150 - p2)) 1476
        · rfl
        · rw [bf_t, bf_t]
          cases hasM m d <;> rfl
      rw [loopFirst (m := m) (G := F_X9_seen_L29 n m p1 p2) c (fun kf d q => by unfold F_X9_seen_L29; rw [iLt, if_pos q]) g1 _ n p1 h1.1 a (by omega)]
      exact Ok.same h _
    · rw [if_neg h2, if_neg h2]; exact bad h
  · rw [if_neg h1, if_neg h1]; exact bad h
/-- how many -/
theorem loopMany {G : Nat → Int32 → Int32 → Option (Int32 × MS)} {f : Int32 → Bool} {last : Int32} (hl : last.toInt ≤ 9999) (g0 : ∀ kf w d, last.toInt < d.toInt → G (kf + 1) w d = some (w, m)) (g1 : ∀ kf w d, dayR d → ¬ last.toInt < d.toInt → G (kf + 1) w d = bf (f d) (G kf (w + 1) (d + 1)) (G kf (w + 0) (d + 1))) : ∀ (k kf : Nat) (w d : Int32), 0 ≤ d.toInt → d.toInt + k = last.toInt + 1 → k < kf → 0 ≤ w.toInt → w.toInt + k ≤ 20000 → G kf w d = some (pickF f (-1) k w d, m) := by
  intro k
  induction k with
  | zero =>
    intro kf w d h0 h1 h2 h3 h4
    cases kf with
    | zero => omega
    | succ kf =>
      rw [g0 kf w d (by omega)]
      rfl
  | succ k ih =>
    intro kf w d h0 h1 h2 h3 h4
    cases kf with
    | zero => omega
    | succ kf =>
      have hd : dayR d := ⟨h0, by omega⟩
      have e := next_I hd
      have ew : (w + 1).toInt = w.toInt + 1 := tA (by show _ ≤ _ + (1 : Int); omega) (by show _ + (1 : Int) ≤ _; omega)
      rw [g1 kf w d hd (by omega), Int32.add_zero]
      unfold pickF
      rw [if_neg (fun z => by rw [z] at h3; exact absurd h3 (by decide))]
      cases f d
      · rw [bf_f, bf_f]
        exact ih kf w (d + 1) (by omega) (by omega) (by omega) h3 (by omega)
      · rw [bf_t, bf_t]
        exact ih kf (w + 1) (d + 1) (by omega) (by omega) (by omega) (by omega) (by omega)
theorem ok_many (h : Rel x m ka ta mk) (hn : 20000 ≤ n) (p1 p2 p3 : Int32) : Ok (F_X8_many n x p1 p2 p3) (F_X9_many n m p1 p2 p3) ka ta mk := by
  unfold F_X8_many F_X9_many
  simp only [bindE]
  rw [xDays, mDays, bf_d, bf_d, xKind, mIn p3 0 5 0 5 rfl rfl, bf_d, bf_d]
  by_cases h1 : (0 ≤ p1.toInt ∧ p1.toInt ≤ 9999) ∧ (1 ≤ p2.toInt ∧ p2.toInt ≤ 1000)
  · rw [if_pos h1, if_pos h1]
    by_cases h2 : 0 ≤ p3.toInt ∧ p3.toInt ≤ 5
    · have r1 := h.1
      obtain ⟨a, b, c⟩ := daysOf_b h1.1 h1.2
      rw [if_pos h2, if_pos h2, x_pick (f := fun d => isM m d p3) (fun d hd => x_fits r1 hn hd h2 _ _ _ _) hn h1.1 h1.2, bindV]
      have g1 : ∀ kf w d, dayR d → ¬ (F_X9_lastOf p1 p2).toInt < d.toInt → F_X9_many_L33 n m p1 p2 p3 (kf + 1) w d = bf (isM m d p3) (F_X9_many_L33 n m p1 p2 p3 kf (w + 1) (d + 1)) (F_X9_many_L33 n m p1 p2 p3 kf (w + 0) (d + 1)) := by
        intro kf w d hd q
        conv => lhs; unfold F_X9_many_L33
        rw [iLt, if_neg q, m_isOf r1.2.1 r1.2.2.1.1 hn hd, bindV]
      rw [loopMany (m := m) (G := F_X9_many_L33 n m p1 p2 p3) (f := fun d => isM m d p3) c (fun kf w d q => by unfold F_X9_many_L33; rw [iLt, if_pos q]) g1 _ n 0 p1 h1.1.1 a (by omega) (by decide) (by show (0 : Int) + _ ≤ _; omega)]
      exact Ok.same h _
    · rw [if_neg h2, if_neg h2]; exact bad h
  · rw [if_neg h1, if_neg h1]; exact bad h
/-- how many, or the i-th -/
theorem tells_found {w fd i : Int32} (hi : ¬ i = -1) (hf : ¬ fd = -1) : F_X9_tellsOf n m w fd i = some (fd, m) := by
  unfold F_X9_tellsOf
  rw [if_neg hi, if_neg hf]
theorem loopFound {G : Nat → Int32 → Int32 → Int32 → Option (Int32 × MS)} {f : Int32 → Bool} {i last : Int32} (hl : last.toInt ≤ 9999) (g0 : ∀ kf w fd d, last.toInt < d.toInt → G (kf + 1) w fd d = F_X9_tellsOf n m w fd i) (g1 : ∀ kf w fd d, dayR d → ¬ last.toInt < d.toInt → G (kf + 1) w fd d = bf (f d) (if w = i then G kf (w + 1) d (d + 1) else G kf (w + 1) fd (d + 1)) (G kf w fd (d + 1))) : ∀ (k kf : Nat) (w fd d : Int32), 0 ≤ d.toInt → d.toInt + k = last.toInt + 1 → k < kf → i.toInt < w.toInt → w.toInt + k ≤ 20000 → ¬ i = -1 → ¬ fd = -1 → G kf w fd d = some (fd, m) := by
  intro k
  induction k with
  | zero =>
    intro kf w fd d h0 h1 h2 h3 h4 h5 h6
    cases kf with
    | zero => omega
    | succ kf => rw [g0 kf w fd d (by omega), tells_found h5 h6]
  | succ k ih =>
    intro kf w fd d h0 h1 h2 h3 h4 h5 h6
    cases kf with
    | zero => omega
    | succ kf =>
      have hd : dayR d := ⟨h0, by omega⟩
      have e := next_I hd
      have hlo := tLo w
      have ew : (w + 1).toInt = w.toInt + 1 := tA (by show _ ≤ _ + (1 : Int); omega) (by show _ + (1 : Int) ≤ _; omega)
      rw [g1 kf w fd d hd (by omega), if_neg (fun z => by rw [z] at h3; omega)]
      cases f d
      · rw [bf_f]
        exact ih kf w fd (d + 1) (by omega) (by omega) (by omega) h3 (by omega) h5 h6
      · rw [bf_t]
        exact ih kf (w + 1) fd (d + 1) (by omega) (by omega) (by omega) (by omega) (by omega) h5 h6
theorem loopPick (h : Rel x m ka ta mk) {G : Nat → Int32 → Int32 → Int32 → Option (Int32 × MS)} {f : Int32 → Bool} {i last : Int32} (hi : -1 ≤ i.toInt) (hl : last.toInt ≤ 9999) (g0 : ∀ kf w fd d, last.toInt < d.toInt → G (kf + 1) w fd d = F_X9_tellsOf n m w fd i) (g1 : ∀ kf w fd d, dayR d → ¬ last.toInt < d.toInt → G (kf + 1) w fd d = bf (f d) (if w = i then G kf (w + 1) d (d + 1) else G kf (w + 1) fd (d + 1)) (G kf w fd (d + 1))) : ∀ (k kf : Nat) (w d : Int32), 0 ≤ d.toInt → d.toInt + k = last.toInt + 1 → k < kf → 0 ≤ w.toInt → w.toInt + k ≤ 20000 → Ok (F_X8_orStuck n x (pickF f i k w d)) (G kf w (-1) d) ka ta mk := by
  intro k
  induction k with
  | zero =>
    intro kf w d h0 h1 h2 h3 h4
    cases kf with
    | zero => omega
    | succ kf =>
      rw [g0 kf w (-1) d (by omega)]
      unfold pickF F_X9_tellsOf
      by_cases q : i = -1
      · rw [if_pos q, if_pos q, stuck_x (fun z => by rw [z] at h3; exact absurd h3 (by decide))]
        exact Ok.same h _
      · rw [if_neg q, if_neg q, stuck_n, if_pos rfl, bindE]
        exact stuck h
  | succ k ih =>
    intro kf w d h0 h1 h2 h3 h4
    cases kf with
    | zero => omega
    | succ kf =>
      have hd : dayR d := ⟨h0, by omega⟩
      have e := next_I hd
      have ew : (w + 1).toInt = w.toInt + 1 := tA (by show _ ≤ _ + (1 : Int); omega) (by show _ + (1 : Int) ≤ _; omega)
      have dn : ¬ d = -1 := fun z => by rw [z] at h0; exact absurd h0 (by decide)
      rw [g1 kf w (-1) d hd (by omega)]
      unfold pickF
      cases f d
      · rw [bf_f, bf_f]
        exact ih kf w (d + 1) (by omega) (by omega) (by omega) h3 (by omega)
      · rw [bf_t, bf_t]
        by_cases q : w = i
        · rw [if_pos q, if_pos q, stuck_x dn, loopFound hl g0 g1 k kf (w + 1) d (d + 1) (by omega) (by omega) (by omega) (by rw [← q]; omega) (by omega) (fun z => by rw [q, z] at h3; exact absurd h3 (by decide)) dn]
          exact Ok.same h _
        · rw [if_neg q, if_neg q]
          exact ih kf (w + 1) (d + 1) (by omega) (by omega) (by omega) (by omega) (by omega)
theorem ok_between (h : Rel x m ka ta mk) (hn : 20000 ≤ n) (p1 p2 p3 p4 p5 : Int32) : Ok (F_X8_between n x p1 p2 p3 p4 p5) (F_X9_between n m p1 p2 p3 p4 p5) ka ta mk := by
  unfold F_X8_between F_X9_between
  simp only [bindE]
  rw [xDays, mDays, bf_d, bf_d, xIn p3 0 999 0 999 rfl rfl, mIn p3 0 999 0 999 rfl rfl, bf_d, bf_d, xIn p4 p3 999 p3.toInt 999 rfl rfl, mIn p4 _ 999 p3.toInt 999 (Int32.toInt_toInt64 p3) rfl, bf_d, bf_d, iLe, iLe]
  by_cases h1 : (0 ≤ p1.toInt ∧ p1.toInt ≤ 9999) ∧ (1 ≤ p2.toInt ∧ p2.toInt ≤ 1000)
  · rw [if_pos h1, if_pos h1]
    by_cases h2 : 0 ≤ p3.toInt ∧ p3.toInt ≤ 999
    · rw [if_pos h2, if_pos h2]
      by_cases h3 : p3.toInt ≤ p4.toInt ∧ p4.toInt ≤ 999
      · rw [if_pos h3, if_pos h3]
        by_cases h4 : (-1 : Int32).toInt ≤ p5.toInt
        · rw [if_pos h4, if_pos h4]
          have r1 := h.1
          obtain ⟨a, b, c⟩ := daysOf_b h1.1 h1.2
          have hf : ∀ d, dayR d → F_X2_fits n x 6 p3 p4 0 none d = some (F_X8_isIn (degM m d) p3 p4) := by
            intro d hd
            rw [fits_6, x_deg r1 hn (day1 hd), bindV]
          rw [x_pick (f := fun d => F_X8_isIn (degM m d) p3 p4) hf hn h1.1 h1.2, bindV]
          refine loopPick h (G := F_X9_between_L56 n m p1 p2 p3 p4 p5) h4 c (fun kf w fd d q => ?_) (fun kf w fd d hd q => ?_) _ n 0 p1 h1.1.1 a (by omega) (by decide) (by show (0 : Int) + _ ≤ _; omega)
          · unfold F_X9_between_L56
            rw [iLt, if_pos q, bindE]
          · conv => lhs; unfold F_X9_between_L56
            rw [iLt, if_neg q, m_deg r1.2.1 r1.2.2.1.1 hn (day1 hd), bindV, xIn _ p3 p4 p3.toInt p4.toInt rfl rfl, mIn _ _ _ p3.toInt p4.toInt (Int32.toInt_toInt64 p3) (Int32.toInt_toInt64 p4)]
        · rw [if_neg h4, if_neg h4]; exact bad h
      · rw [if_neg h3, if_neg h3]; exact bad h
    · rw [if_neg h2, if_neg h2]; exact bad h
  · rw [if_neg h1, if_neg h1]; exact bad h
theorem ok_walks (h : Rel x m ka ta mk) (hn : 20000 ≤ n) (p1 p2 p3 p4 p5 p6 : Int32) : Ok (F_X8_walks n x p1 p2 p3 p4 p5 p6) (F_X9_walks n m p1 p2 p3 p4 p5 p6) ka ta mk := by
  unfold F_X8_walks F_X9_walks
  simp only [bindE]
  rw [xDays, mDays, bf_d, bf_d, xMin, mMin, bf_d, bf_d, xIn p5 0 1440 0 1440 rfl rfl, mIn p5 0 1440 0 1440 rfl rfl, bf_d, bf_d, iLe, iLe]
  by_cases h1 : (0 ≤ p1.toInt ∧ p1.toInt ≤ 9999) ∧ (1 ≤ p2.toInt ∧ p2.toInt ≤ 1000)
  · rw [if_pos h1, if_pos h1]
    by_cases h2 : 0 ≤ p3.toInt ∧ p3.toInt ≤ p4.toInt ∧ p4.toInt ≤ 1439
    · rw [if_pos h2, if_pos h2]
      by_cases h3 : 0 ≤ p5.toInt ∧ p5.toInt ≤ 1440
      · rw [if_pos h3, if_pos h3]
        by_cases h4 : (-1 : Int32).toInt ≤ p6.toInt
        · rw [if_pos h4, if_pos h4]
          have r1 := h.1
          obtain ⟨a, b, c⟩ := daysOf_b h1.1 h1.2
          have hf : ∀ d, dayR d → F_X2_fits n x 7 p3 p4 p5 none d = some (!decide (shM m d p3 p4 < p5)) := by
            intro d hd
            rw [fits_7, x_shines r1 hn (day1 hd) h2, bindV]
            by_cases q : shM m d p3 p4 < p5
            · rw [if_pos q, decide_eq_true q]; rfl
            · rw [if_neg q, decide_eq_false q]; rfl
          rw [x_pick (f := fun d => !decide (shM m d p3 p4 < p5)) hf hn h1.1 h1.2, bindV]
          refine loopPick h (G := F_X9_walks_L52 n m p1 p2 p3 p4 p5 p6) h4 c (fun kf w fd d q => ?_) (fun kf w fd d hd q => ?_) _ n 0 p1 h1.1.1 a (by omega) (by decide) (by show (0 : Int) + _ ≤ _; omega)
          · unfold F_X9_walks_L52
            rw [iLt, if_pos q, bindE]
          · conv => lhs; unfold F_X9_walks_L52
            rw [iLt, if_neg q, m_shines r1.2.1 r1.2.2.1.1 hn (day1 hd) h2, bindV]
            by_cases q : shM m d p3 p4 < p5
            · rw [if_pos q, decide_eq_true q]; rfl
            · rw [if_neg q, decide_eq_false q]; rfl
        · rw [if_neg h4, if_neg h4]; exact bad h
      · rw [if_neg h3, if_neg h3]; exact bad h
    · rw [if_neg h2, if_neg h2]; exact bad h
  · rw [if_neg h1, if_neg h1]; exact bad h
theorem ok_overs (h : Rel x m ka ta mk) (hn : 20000 ≤ n) (p1 p2 p3 p4 : Int32) : Ok (F_X8_overs n x p1 p2 p3 p4) (F_X9_overs n m p1 p2 p3 p4) ka ta mk := by
  have r1 := h.1
  have hk := r1.2.2.1.1.1
  have ek : (m_notches m - 1).toInt = (m_notches m).toInt - 1 := tS (by show _ ≤ _ - (1 : Int); omega) (by show _ - (1 : Int) ≤ _; omega)
  have ec : (F_X1_count (st_hill (x_now x)) - 1).toInt = (m_notches m).toInt - 1 := by
    have : F_X1_count (st_hill (x_now x)) = m_notches m := r1.2.2.1.2.1.1
    rw [this, ek]
  unfold F_X8_overs F_X9_overs
  simp only [bindE]
  rw [xDays, mDays, bf_d, bf_d, xIn p3 0 _ 0 _ rfl ec, mIn p3 0 _ 0 _ rfl (by rw [Int32.toInt_toInt64, ek]), bf_d, bf_d, iLe, iLe]
  by_cases h1 : (0 ≤ p1.toInt ∧ p1.toInt ≤ 9999) ∧ (1 ≤ p2.toInt ∧ p2.toInt ≤ 1000)
  · rw [if_pos h1, if_pos h1]
    by_cases h3 : 0 ≤ p3.toInt ∧ p3.toInt ≤ (m_notches m).toInt - 1
    · rw [if_pos h3, if_pos h3]
      by_cases h4 : (-1 : Int32).toInt ≤ p4.toInt
      · rw [if_pos h4, if_pos h4]
        obtain ⟨a, b, c⟩ := daysOf_b h1.1 h1.2
        have hf : ∀ d, dayR d → F_X2_fits n x 8 p3 0 0 none d = some (decide (behM m d = p3)) := by
          intro d hd
          rw [fits_8, x_behind r1 hn (day1 hd), bindV]
          by_cases q : behM m d = p3
          · rw [if_pos q, decide_eq_true q]
          · rw [if_neg q, decide_eq_false q]
        rw [x_pick (f := fun d => decide (behM m d = p3)) hf hn h1.1 h1.2, bindV]
        refine loopPick h (G := F_X9_overs_L46 n m p1 p2 p3 p4) h4 c (fun kf w fd d q => ?_) (fun kf w fd d hd q => ?_) _ n 0 p1 h1.1.1 a (by omega) (by decide) (by show (0 : Int) + _ ≤ _; omega)
        · unfold F_X9_overs_L46
          rw [iLt, if_pos q, bindE]
        · conv => lhs; unfold F_X9_overs_L46
          rw [iLt, if_neg q, m_behind r1.2.1 r1.2.2.1.1 hn (day1 hd), bindV, bf_d]
      · rw [if_neg h4, if_neg h4]; exact bad h
    · rw [if_neg h3, if_neg h3]; exact bad h
  · rw [if_neg h1, if_neg h1]; exact bad h
end DY
