/-! ===== STONES and CHANCE ===== -/
/-- on how many of k DAYS from d on it is at degree v -/
def occF (g : Int32 → Int32) : Nat → Int32 → Int → Int
  | 0, _, _ => 0
  | k + 1, d, v => (if (g d).toInt = v then 1 else 0) + occF g k (d + 1) v
def cntW (g : Int32 → Int32) : Nat → Int32 → Int → Int → Int
  | 0, _, _, _ => 0
  | k + 1, d, lo, hi => (if lo ≤ (g d).toInt ∧ (g d).toInt ≤ hi then 1 else 0) + cntW g k (d + 1) lo hi
theorem occ_succ (g : Int32 → Int32) (k : Nat) (d : Int32) (v : Int) : occF g (k + 1) d v = (if (g d).toInt = v then 1 else 0) + occF g k (d + 1) v := rfl
theorem cnt_succ (g : Int32 → Int32) (k : Nat) (d : Int32) (lo hi : Int) : cntW g (k + 1) d lo hi = (if lo ≤ (g d).toInt ∧ (g d).toInt ≤ hi then 1 else 0) + cntW g k (d + 1) lo hi := rfl
theorem occ_b (g : Int32 → Int32) : ∀ (k : Nat) (d : Int32) (v : Int), 0 ≤ occF g k d v ∧ occF g k d v ≤ k
  | 0, d, v => ⟨Int.le_refl _, Int.le_refl _⟩
  | k + 1, d, v => by
    have := occ_b g k (d + 1) v
    unfold occF
    split <;> omega
theorem cnt_b (g : Int32 → Int32) : ∀ (k : Nat) (d : Int32) (lo hi : Int), 0 ≤ cntW g k d lo hi ∧ cntW g k d lo hi ≤ k
  | 0, d, lo, hi => ⟨Int.le_refl _, Int.le_refl _⟩
  | k + 1, d, lo, hi => by
    have := cnt_b g k (d + 1) lo hi
    unfold cntW
    split <;> omega
theorem cnt_next (g : Int32 → Int32) : ∀ (k : Nat) (d : Int32) (lo hi : Int), lo ≤ hi + 1 → cntW g k d lo (hi + 1) = cntW g k d lo hi + occF g k d (hi + 1)
  | 0, d, lo, hi, _ => rfl
  | k + 1, d, lo, hi, h => by
    have := cnt_next g k (d + 1) lo hi h
    unfold cntW occF
    rw [this]
    by_cases h1 : lo ≤ (g d).toInt ∧ (g d).toInt ≤ hi
    · rw [if_pos h1, if_pos (by omega), if_neg (by omega)]; omega
    · rw [if_neg h1]
      by_cases h2 : (g d).toInt = hi + 1
      · rw [if_pos h2, if_pos (by omega)]; omega
      · rw [if_neg h2, if_neg (by omega)]; omega
theorem cnt_none (g : Int32 → Int32) : ∀ (k : Nat) (d : Int32) (lo hi : Int), hi < lo → cntW g k d lo hi = 0
  | 0, d, lo, hi, _ => rfl
  | k + 1, d, lo, hi, h => by
    have := cnt_none g k (d + 1) lo hi h
    unfold cntW
    rw [this, if_neg (by omega)]
    rfl
theorem cnt_clamp (g : Int32 → Int32) (hg : ∀ d, dayR d → 0 ≤ (g d).toInt ∧ (g d).toInt ≤ 180) : ∀ (k : Nat) (d : Int32) (lo hi : Int), 0 ≤ d.toInt → d.toInt + k ≤ 10000 → cntW g k d (max lo 0) (min hi 180) = cntW g k d lo hi
  | 0, d, lo, hi, _, _ => rfl
  | k + 1, d, lo, hi, h0, h1 => by
    have hd : dayR d := ⟨h0, by omega⟩
    have e := next_I hd
    have := cnt_clamp g hg k (d + 1) lo hi (by omega) (by omega)
    have hb := hg d hd
    unfold cntW
    rw [this]
    by_cases h2 : lo ≤ (g d).toInt ∧ (g d).toInt ≤ hi
    · rw [if_pos h2, if_pos (by omega)]
    · rw [if_neg h2, if_neg (by omega)]
def cntP (P : Nat → Bool) : Nat → Nat → Int32 → Int32
  | 0, _, w => w
  | q + 1, i, w => bf (P i) (cntP P q (i + 1) (w + 1)) (cntP P q (i + 1) w)
def orP (P : Nat → Bool) : Nat → Nat → Int32 → Int32
  | 0, _, w => w
  | q + 1, i, w => bf (P i) (orP P q (i + 1) (w ||| (1 <<< (Int32.ofNat i &&& 31)))) (orP P q (i + 1) w)
section SO
variable {x : XS} {m : MS} {ka ta : Option Nat} {mk : Option MS} {n : Nat}
theorem gather_L (hR : RS (x_now x) m) (hn : 20000 ≤ n) (v2 v3 last : Int32) (hl : last.toInt ≤ 9999) (B : Int) : ∀ (k kf : Nat) (d : Int32) (o : Nat → Int32), 0 ≤ d.toInt → d.toInt + k = last.toInt + 1 → k < kf → (∀ j : Nat, j < 181 → 0 ≤ (o j).toInt ∧ (o j).toInt + k ≤ 20000) → ∃ o', F_X3_gather_L18 n v2 v3 last kf d (x_set_often x o) = some (x_set_often x o') ∧ ∀ j : Nat, j < 181 → (o' j).toInt = (o j).toInt + occF (degM m) k d j := by
  intro k
  induction k with
  | zero =>
    intro kf d o h0 h1 h2 h3
    cases kf with
    | zero => omega
    | succ kf =>
      unfold F_X3_gather_L18
      rw [iLt, if_pos (by omega)]
      exact ⟨o, rfl, fun j _ => by unfold occF; omega⟩
  | succ k ih =>
    intro kf d o h0 h1 h2 h3
    cases kf with
    | zero => omega
    | succ kf =>
      have hd : dayR d := ⟨h0, by omega⟩
      have e := next_I hd
      have hb := deg_b hR.2.1 hR.2.2.1.1 (day1 hd)
      have hR' : RS (x_now (x_set_often x o)) m := hR
      unfold F_X3_gather_L18
      rw [iLt, if_neg (by omega), x_deg hR' hn (day1 hd), bindV, iLt, if_neg (by show ¬ _ < (0 : Int); omega), iLe, if_neg (by show ¬ (181 : Int) ≤ _; omega), gd_i (by omega) (by omega), gd_i (by omega) (by omega), nat_toInt]
      obtain ⟨o', e', ho⟩ := ih kf (d + 1) (upd o (degM m d).toInt.toNat (o (degM m d).toInt.toNat + 1)) (by omega) (by omega) (by omega) (fun j hj => by
        have := h3 j hj
        by_cases q : j = (degM m d).toInt.toNat
        · subst q
          have ea : (o (degM m d).toInt.toNat + 1).toInt = (o (degM m d).toInt.toNat).toInt + 1 := tA (by show _ ≤ _ + (1 : Int); omega) (by show _ + (1 : Int) ≤ _; omega)
          rw [upd_s, ea]; omega
        · rw [upd_o q]; omega)
      refine ⟨o', e', fun j hj => ?_⟩
      have := h3 j hj
      rw [ho j hj, occ_succ]
      by_cases q : j = (degM m d).toInt.toNat
      · subst q
        have ea : (o (degM m d).toInt.toNat + 1).toInt = (o (degM m d).toInt.toNat).toInt + 1 := tA (by show _ ≤ _ + (1 : Int); omega) (by show _ + (1 : Int) ≤ _; omega)
        rw [upd_s, ea, if_pos (by omega)]; omega
      · rw [upd_o q, if_neg (by omega)]; omega
theorem x_gather (hR : RS (x_now x) m) (hn : 20000 ≤ n) {d q : Int32} (h1 : 0 ≤ d.toInt ∧ d.toInt ≤ 9999) (h2 : 1 ≤ q.toInt ∧ q.toInt ≤ 1000) : ∃ o, F_X3_gather n x d q = some (x_set_often x o) ∧ ∀ j : Nat, j < 181 → (o j).toInt = occF (degM m) (daysOf d (F_X9_lastOf d q)) d j := by
  obtain ⟨a, b, c⟩ := daysOf_b h1 h2
  obtain ⟨g, e, hg⟩ := fillI n 181 (by omega) n 0 0 (x_often x) rfl (by omega) (by omega)
  have e' : F_J7_fill_53178 n 181 (x_often x) 0 = some g := e
  have hz : ∀ j : Nat, j < 181 → (g j).toInt = 0 := fun j hj => by rw [(hg j).2 (by omega) hj]; rfl
  obtain ⟨o, eo, ho⟩ := gather_L hR hn d q (F_X9_lastOf d q) c 0 (daysOf d (F_X9_lastOf d q)) n d g h1.1 a (by omega) (fun j hj => by rw [hz j hj]; omega)
  refine ⟨o, ?_, fun j hj => by rw [ho j hj, hz j hj]; omega⟩
  unfold F_X3_gather
  rw [e', bindV, lastOf_eq]
  exact eo
theorem near_L {u : XS} {g : Int32 → Int32} {K : Nat} {d : Int32} (hO : ∀ j : Nat, j < 181 → (x_often u j).toInt = occF g K d j) (hK : K ≤ 1000) {p q : Int32} (hs : (p + q).toInt = p.toInt + q.toInt) {lo : Int} (hlo : 0 ≤ lo) (hlo2 : lo ≤ p.toInt + q.toInt) : ∀ (f kf : Nat) (w v : Int32), lo ≤ v.toInt → v.toInt + f = 181 → f < kf → v.toInt ≤ p.toInt + q.toInt + 1 → w.toInt = cntW g K d lo (v.toInt - 1) → ∃ r, F_X3_near_L11 n u p q kf w v = some r ∧ r.toInt = cntW g K d lo (min (p.toInt + q.toInt) 180) := by
  intro f
  induction f with
  | zero =>
    intro kf w v h0 h1 h2 h3 h4
    cases kf with
    | zero => omega
    | succ kf =>
      unfold F_X3_near_L11
      rw [iLt, hs, iLe]
      refine ⟨w, ?_, ?_⟩
      · by_cases c : p.toInt + q.toInt < v.toInt
        · rw [if_pos c]
        · rw [if_neg c, if_pos (by show (181 : Int) ≤ _; omega)]
      · rw [h4]
        by_cases c : p.toInt + q.toInt < v.toInt
        · rw [show min (p.toInt + q.toInt) 180 = v.toInt - 1 by omega]
        · rw [show min (p.toInt + q.toInt) 180 = v.toInt - 1 by omega]
  | succ f ih =>
    intro kf w v h0 h1 h2 h3 h4
    cases kf with
    | zero => omega
    | succ kf =>
      unfold F_X3_near_L11
      rw [iLt, hs, iLe]
      by_cases c : p.toInt + q.toInt < v.toInt
      · rw [if_pos c]
        exact ⟨w, rfl, by rw [h4, show min (p.toInt + q.toInt) 180 = v.toInt - 1 by omega]⟩
      · rw [if_neg c, if_neg (by show ¬ (181 : Int) ≤ _; omega), gd_i (by omega) (by omega), nat_toInt]
        have hj := hO v.toInt.toNat (by omega)
        rw [Int.toNat_of_nonneg (by omega)] at hj
        have ob := occ_b g K d v.toInt
        have cb := cnt_b g K d lo (v.toInt - 1)
        have e1 : (v + 1).toInt = v.toInt + 1 := tA (by show _ ≤ _ + (1 : Int); omega) (by show _ + (1 : Int) ≤ _; omega)
        have ew : (w + x_often u v.toInt.toNat).toInt = w.toInt + occF g K d v.toInt := by rw [tA (by rw [hj]; omega) (by rw [hj]; omega), hj]
        refine ih kf _ (v + 1) (by omega) (by omega) (by omega) (by omega) ?_
        have cn := cnt_next g K d lo (v.toInt - 1) (by omega)
        rw [show v.toInt - 1 + 1 = v.toInt by omega] at cn
        rw [ew, e1, show v.toInt + 1 - 1 = v.toInt by omega, cn, h4]
theorem x_near {u : XS} {g : Int32 → Int32} {K : Nat} {d : Int32} (hg : ∀ d, dayR d → 0 ≤ (g d).toInt ∧ (g d).toInt ≤ 180) (h0 : 0 ≤ d.toInt) (hd : d.toInt + K ≤ 10000) (hO : ∀ j : Nat, j < 181 → (x_often u j).toInt = occF g K d j) (hK : K ≤ 1000) (hn : 20000 ≤ n) {p q : Int32} (hp : 0 ≤ p.toInt ∧ p.toInt ≤ 179) (hq : 0 ≤ q.toInt ∧ q.toInt ≤ 20) : ∃ r, F_X3_near n u p q = some r ∧ r.toInt = cntW g K d (p.toInt - q.toInt) (p.toInt + q.toInt) := by
  have es : (p - q).toInt = p.toInt - q.toInt := tS (by omega) (by omega)
  have ea : (p + q).toInt = p.toInt + q.toInt := tA (by omega) (by omega)
  have em := max_I (p - q) 0
  rw [es, Int32.toInt_zero] at em
  obtain ⟨r, e, hr⟩ := near_L (n := n) hO hK ea (lo := max (p.toInt - q.toInt) 0) (by omega) (by omega) (181 - (F_J9_max_7cf53 (p - q) 0).toInt).toNat n 0 (F_J9_max_7cf53 (p - q) 0) (by omega) (by omega) (by omega) (by omega) (by rw [cnt_none _ _ _ _ _ (by omega)]; rfl)
  refine ⟨r, e, ?_⟩
  rw [hr]
  exact cnt_clamp g hg K d _ _ h0 hd
theorem hit_L (hA : okA (m_asked m)) (hN : okN (m_notch m) (m_notches m)) (hn : 20000 ≤ n) {st w : Int32} (hs : 0 ≤ st.toInt ∧ st.toInt ≤ 179) (hw : 0 ≤ w.toInt ∧ w.toInt ≤ 20) (v2 v3 : Int32) (hl : (F_X9_lastOf v2 v3).toInt ≤ 9999) : ∀ (k kf : Nat) (d : Int32), 0 ≤ d.toInt → d.toInt + k = (F_X9_lastOf v2 v3).toInt + 1 → k < kf → F_X9_isHit_L3 n m st v2 v3 w kf d = some (decide (0 < cntW (degM m) k d (st.toInt - w.toInt) (st.toInt + w.toInt))) := by
  intro k
  induction k with
  | zero =>
    intro kf d h0 h1 h2
    cases kf with
    | zero => omega
    | succ kf =>
      unfold F_X9_isHit_L3
      rw [iLt, if_pos (by omega)]
      rfl
  | succ k ih =>
    intro kf d h0 h1 h2
    cases kf with
    | zero => omega
    | succ kf =>
      have hd : dayR d := ⟨h0, by omega⟩
      have e := next_I hd
      have hb := deg_b hA hN (day1 hd)
      have cb := cnt_b (degM m) k (d + 1) (st.toInt - w.toInt) (st.toInt + w.toInt)
      have es : (degM m d - st).toInt = (degM m d).toInt - st.toInt := tS (by omega) (by omega)
      have en : (-(degM m d - st)).toInt = -((degM m d).toInt - st.toInt) := by rw [tN (by rw [es]; omega), es]
      unfold F_X9_isHit_L3 cntW
      rw [iLt, if_neg (by omega), m_deg hA hN hn (day1 hd), bindV, iLt, es, iLt, en]
      by_cases c1 : w.toInt < (degM m d).toInt - st.toInt
      · rw [if_pos c1, if_neg (by omega), ih kf (d + 1) (by omega) (by omega) (by omega)]
        rw [Int.zero_add]
      · rw [if_neg c1]
        by_cases c2 : w.toInt < -((degM m d).toInt - st.toInt)
        · rw [if_pos c2, if_neg (by omega), ih kf (d + 1) (by omega) (by omega) (by omega)]
          rw [Int.zero_add]
        · rw [if_neg c2, if_pos (by omega), decide_eq_true (by omega)]
theorem m_hit (hA : okA (m_asked m)) (hN : okN (m_notch m) (m_notches m)) (hn : 20000 ≤ n) {st w : Int32} (hs : 0 ≤ st.toInt ∧ st.toInt ≤ 179) (hw : 0 ≤ w.toInt ∧ w.toInt ≤ 20) {d q : Int32} (h1 : 0 ≤ d.toInt ∧ d.toInt ≤ 9999) (h2 : 1 ≤ q.toInt ∧ q.toInt ≤ 1000) : F_X9_isHit n m st d q w = some (decide (0 < cntW (degM m) (daysOf d (F_X9_lastOf d q)) d (st.toInt - w.toInt) (st.toInt + w.toInt))) := by
  obtain ⟨a, b, c⟩ := daysOf_b h1 h2
  exact hit_L hA hN hn hs hw d q c _ n d h1.1 a (by omega)
theorem xNear (w : Int32) : F_X9_isNear w = decide (0 ≤ w.toInt ∧ w.toInt ≤ 20) := mIn w 0 20 0 20 rfl rfl
/-- a DAY's degree within w of a STONE -/
def hitP (m : MS) (K : Nat) (d w : Int32) (i : Nat) : Bool := decide (0 < cntW (degM m) K d ((m_stone m i).toInt - w.toInt) ((m_stone m i).toInt + w.toInt))
theorem x_stones {u : XS} {K : Nat} {d w : Int32} (hR : RS (x_now u) m) (hn : 20000 ≤ n) (h0 : 0 ≤ d.toInt) (hd : d.toInt + K ≤ 10000) (hO : ∀ j : Nat, j < 181 → (x_often u j).toInt = occF (degM m) K d j) (hK : K ≤ 1000) (hw : 0 ≤ w.toInt ∧ w.toInt ≤ 20) : ∀ (q i kf : Nat) (b v : Int32), v = Int32.ofNat i → i ≤ 6 → (m_stones m).toInt = i + q → q < kf → F_X8_stonesThatHit_L4 n u w kf b v = some (orP (hitP m K d w) q i b) := by
  obtain ⟨ra, oa, rn, rs, rest⟩ := hR
  have hc := rs.2.1
  have ec : (F_X0_count 6 (st_stones (x_now u))).toInt = (m_stones m).toInt := congrArg Int32.toInt rs.1
  have hg : ∀ d, dayR d → 0 ≤ (degM m d).toInt ∧ (degM m d).toInt ≤ 180 := fun d hd => by have := deg_b oa rn.1 (day1 hd); omega
  intro q
  induction q with
  | zero =>
    intro i kf b v h1 hi6 h2 h3
    have hv : v.toInt = i := by rw [h1]; exact Int32.toInt_ofNat_of_lt (by omega)
    cases kf with
    | zero => omega
    | succ kf =>
      unfold F_X8_stonesThatHit_L4
      rw [iLe, ec, if_pos (by omega)]
      rfl
  | succ q ih =>
    intro i kf b v h1 hi6 h2 h3
    have hv : v.toInt = i := by rw [h1]; exact Int32.toInt_ofNat_of_lt (by omega)
    cases kf with
    | zero => omega
    | succ kf =>
      have ha := few_at (n := n) (rm := 6) rs (p := v) (by omega) (by omega) (by omega)
      rw [show v.toInt.toNat = i by omega] at ha
      have hst := rs.2.2 i (by omega)
      obtain ⟨r, er, hr⟩ := x_near (n := n) hg h0 hd hO hK hn (p := m_stone m i) (q := w) hst.2 hw
      have hv2 : v + 1 = Int32.ofNat (i + 1) := by rw [h1]; exact (Int32.ofNat_add i 1).symm
      unfold F_X8_stonesThatHit_L4 orP hitP
      rw [iLe, ec, if_neg (by omega), ha, bindV, er, bindV, iLe, hr, h1]
      by_cases z : 0 < cntW (degM m) K d ((m_stone m i).toInt - w.toInt) ((m_stone m i).toInt + w.toInt)
      · rw [if_neg (by show ¬ _ ≤ (0 : Int); omega), decide_eq_true z, bf_t, ← h1]
        exact ih (i + 1) kf _ (v + 1) hv2 (by omega) (by omega) (by omega)
      · rw [if_pos (by show _ ≤ (0 : Int); omega), decide_eq_false z, bf_f, ← h1]
        exact ih (i + 1) kf _ (v + 1) hv2 (by omega) (by omega) (by omega)
theorem m_stones_L (hA : okA (m_asked m)) (hN : okN (m_notch m) (m_notches m)) (hS : (0 ≤ (m_stones m).toInt ∧ (m_stones m).toInt ≤ 6) ∧ ∀ i : Nat, (i : Int) < (m_stones m).toInt → 0 ≤ (m_stone m i).toInt ∧ (m_stone m i).toInt ≤ 179) (hn : 20000 ≤ n) {p1 p2 w : Int32} (h1 : 0 ≤ p1.toInt ∧ p1.toInt ≤ 9999) (h2 : 1 ≤ p2.toInt ∧ p2.toInt ≤ 1000) (hw : 0 ≤ w.toInt ∧ w.toInt ≤ 20) : ∀ (q i kf : Nat) (b v : Int32), v = Int32.ofNat i → i ≤ 6 → (m_stones m).toInt = i + q → q < kf → F_X9_hits_L28 n m p1 p2 w kf b v = some (orP (hitP m (daysOf p1 (F_X9_lastOf p1 p2)) p1 w) q i b, m) := by
  have hc := hS.1
  intro q
  induction q with
  | zero =>
    intro i kf b v e1 hi6 e2 e3
    have hv : v.toInt = i := by rw [e1]; exact Int32.toInt_ofNat_of_lt (by omega)
    cases kf with
    | zero => omega
    | succ kf =>
      unfold F_X9_hits_L28
      rw [iLe, if_pos (by omega)]
      rfl
  | succ q ih =>
    intro i kf b v e1 hi6 e2 e3
    have hv : v.toInt = i := by rw [e1]; exact Int32.toInt_ofNat_of_lt (by omega)
    cases kf with
    | zero => omega
    | succ kf =>
      have hv2 : v + 1 = Int32.ofNat (i + 1) := by rw [e1]; exact (Int32.ofNat_add i 1).symm
      unfold F_X9_hits_L28 orP
      rw [iLe, if_neg (by omega), gd_i (by omega) (by omega), nat_of hv, m_hit hA hN hn (hS.2 i (by omega)) hw h1 h2, bindV, Int32.or_zero]
      unfold hitP
      by_cases z : 0 < cntW (degM m) (daysOf p1 (F_X9_lastOf p1 p2)) p1 ((m_stone m i).toInt - w.toInt) ((m_stone m i).toInt + w.toInt)
      · rw [decide_eq_true z, bf_t, bf_t, ← e1]
        exact ih (i + 1) kf _ (v + 1) hv2 (by omega) (by omega) (by omega)
      · rw [decide_eq_false z, bf_f, bf_f]
        exact ih (i + 1) kf _ (v + 1) hv2 (by omega) (by omega) (by omega)
theorem rel_often (h : Rel x m ka ta mk) (o : Nat → Int32) : Rel (x_set_often x o) m ka ta mk := h
theorem ok_hits (h : Rel x m ka ta mk) (hn : 20000 ≤ n) (p1 p2 p3 : Int32) : Ok (F_X8_hits n x p1 p2 p3) (F_X9_hits n m p1 p2 p3) ka ta mk := by
  unfold F_X8_hits F_X9_hits
  simp only [bindE]
  rw [xDays, mDays, bf_d, bf_d, xIn p3 0 20 0 20 rfl rfl, xNear, bf_d, bf_d]
  by_cases h1 : (0 ≤ p1.toInt ∧ p1.toInt ≤ 9999) ∧ (1 ≤ p2.toInt ∧ p2.toInt ≤ 1000)
  · rw [if_pos h1, if_pos h1]
    by_cases h2 : 0 ≤ p3.toInt ∧ p3.toInt ≤ 20
    · rw [if_pos h2, if_pos h2]
      have r1 := h.1
      obtain ⟨a, b, c⟩ := daysOf_b h1.1 h1.2
      obtain ⟨o, eo, ho⟩ := x_gather r1 hn h1.1 h1.2
      have hc := r1.2.2.2.1.2.1
      have ex : F_X8_stonesThatHit n (x_set_often x o) p3 = some (orP (hitP m (daysOf p1 (F_X9_lastOf p1 p2)) p1 p3) (m_stones m).toInt.toNat 0 0) := x_stones (u := x_set_often x o) r1 hn h1.1.1 (by omega) ho b h2 (m_stones m).toInt.toNat 0 n 0 0 rfl (by omega) (by omega) (by omega)
      rw [eo, bindV, ex, bindV, m_stones_L r1.2.1 r1.2.2.1.1 ⟨hc, fun i hi => (r1.2.2.2.1.2.2 i hi).2⟩ hn h1.1 h1.2 h2 (m_stones m).toInt.toNat 0 n 0 0 rfl (by omega) (by omega) (by omega)]
      exact Ok.same (rel_often h o) _
    · rw [if_neg h2, if_neg h2]; exact bad h
  · rw [if_neg h1, if_neg h1]; exact bad h
theorem ok_meets (h : Rel x m ka ta mk) (hn : 20000 ≤ n) (p1 p2 p3 : Int32) : Ok (F_X8_meets n x p1 p2 p3) (F_X9_meets n m p1 p2 p3) ka ta mk := by
  have hR := h
  obtain ⟨⟨ra, oa, rn, rs, rest⟩, -⟩ := hR
  have hk := rs.2.1
  have ek : (m_stones m - 1).toInt = (m_stones m).toInt - 1 := tS (by show _ ≤ _ - (1 : Int); omega) (by show _ - (1 : Int) ≤ _; omega)
  have ec : (F_X0_count 6 (st_stones (x_now x)) - 1).toInt = (m_stones m).toInt - 1 := by
    have : F_X0_count 6 (st_stones (x_now x)) = m_stones m := rs.1
    rw [this, ek]
  unfold F_X8_meets F_X9_meets F_X8_isStone
  simp only [bindE]
  rw [xIn p1 0 _ 0 _ rfl ec, mIn p1 0 _ 0 _ rfl (by rw [Int32.toInt_toInt64, ek]), bf_d, bf_d, xDay, mDay, bf_d, bf_d, xIn p3 0 20 0 20 rfl rfl, xNear, bf_d, bf_d]
  by_cases h1 : 0 ≤ p1.toInt ∧ p1.toInt ≤ (m_stones m).toInt - 1
  · rw [if_pos h1, if_pos h1]
    by_cases h2 : 0 ≤ p2.toInt ∧ p2.toInt ≤ 9999
    · rw [if_pos h2, if_pos h2]
      by_cases h3 : 0 ≤ p3.toInt ∧ p3.toInt ≤ 20
      · rw [if_pos h3, if_pos h3, few_at (rm := 6) rs (by omega) (by omega) (by omega), bindV]
        have r1 := h.1
        have hst := (rs.2.2 p1.toInt.toNat (by omega)).2
        obtain ⟨a, b, c⟩ := daysOf_b (q := 1000) h2 ⟨by decide, by decide⟩
        have es : (m_stone m p1.toInt.toNat - p3).toInt = (m_stone m p1.toInt.toNat).toInt - p3.toInt := tS (by omega) (by omega)
        have ea : (m_stone m p1.toInt.toNat + p3).toInt = (m_stone m p1.toInt.toNat).toInt + p3.toInt := tA (by omega) (by omega)
        have hf : ∀ d, dayR d → F_X2_fits n x 6 (m_stone m p1.toInt.toNat - p3) (m_stone m p1.toInt.toNat + p3) 0 none d = some (decide (0 < cntW (degM m) 1 d ((m_stone m p1.toInt.toNat).toInt - p3.toInt) ((m_stone m p1.toInt.toNat).toInt + p3.toInt))) := by
          intro d hd
          rw [fits_6, x_deg r1 hn (day1 hd), bindV, xIn _ _ _ _ _ es ea]
          refine congrArg some ?_
          unfold cntW cntW
          by_cases z : (m_stone m p1.toInt.toNat).toInt - p3.toInt ≤ (degM m d).toInt ∧ (degM m d).toInt ≤ (m_stone m p1.toInt.toNat).toInt + p3.toInt
          · rw [decide_eq_true z, if_pos z]; rfl
          · rw [decide_eq_false z, if_neg z]; rfl
        rw [x_pick (f := fun d => decide (0 < cntW (degM m) 1 d ((m_stone m p1.toInt.toNat).toInt - p3.toInt) ((m_stone m p1.toInt.toNat).toInt + p3.toInt))) hf hn h2 ⟨by decide, by decide⟩, pick_first, bindV]
        have g1 : ∀ kf d, dayR d → ¬ (F_X9_lastOf p2 1000).toInt < d.toInt → F_X9_meets_L41 n m p1 p2 p3 (kf + 1) d = bf (decide (0 < cntW (degM m) 1 d ((m_stone m p1.toInt.toNat).toInt - p3.toInt) ((m_stone m p1.toInt.toNat).toInt + p3.toInt))) (some (d, m)) (F_X9_meets_L41 n m p1 p2 p3 kf (d + 1)) := by
          intro kf d hd q
          have hl := last_b (q := 1) hd ⟨by decide, by decide⟩
          replace hl : (F_X9_lastOf d 1).toInt = min (d.toInt + 1 - 1) 9999 := hl
          have h9 := hd.2
          have hh := hit_L (n := n) oa rn.1 hn (st := m_stone m p1.toInt.toNat) (w := p3) hst h3 d 1 (by omega) 1 n d hd.1 (by omega) (by omega)
          have hh' : F_X9_isHit n m (m_stone m p1.toInt.toNat) d 1 p3 = _ := hh
          conv => lhs; unfold F_X9_meets_L41
          rw [iLt, if_neg q, gd_i (by omega) (by omega), nat_toInt, hh', bindV]
        rw [loopFirst (m := m) (G := F_X9_meets_L41 n m p1 p2 p3) c (fun kf d q => by unfold F_X9_meets_L41; rw [iLt, if_pos q]) g1 _ n p2 h2.1 a (by omega)]
        exact Ok.same h _
      · rw [if_neg h3, if_neg h3]; exact bad h
    · rw [if_neg h2, if_neg h2]; exact bad h
  · rw [if_neg h1, if_neg h1]; exact bad h
/-! CHANCE -/
def nearP (m : MS) (K : Nat) (d w : Int32) (i : Nat) : Bool := decide (0 < cntW (degM m) K d ((i : Int) - w.toInt) ((i : Int) + w.toInt))
theorem x_chance {u : XS} {K : Nat} {d w : Int32} (hA : okA (m_asked m)) (hN : okN (m_notch m) (m_notches m)) (hn : 20000 ≤ n) (h0 : 0 ≤ d.toInt) (hd : d.toInt + K ≤ 10000) (hO : ∀ j : Nat, j < 181 → (x_often u j).toInt = occF (degM m) K d j) (hK : K ≤ 1000) (hw : 0 ≤ w.toInt ∧ w.toInt ≤ 20) : ∀ (q i kf : Nat) (c v : Int32), v.toInt = i → i + q = 180 → q < kf → F_X3_degreesThatHit_L4 n u w kf c v = some (cntP (nearP m K d w) q i c) := by
  have hg : ∀ d, dayR d → 0 ≤ (degM m d).toInt ∧ (degM m d).toInt ≤ 180 := fun d hd => by have := deg_b hA hN (day1 hd); omega
  intro q
  induction q with
  | zero =>
    intro i kf c v h1 h2 h3
    cases kf with
    | zero => omega
    | succ kf =>
      unfold F_X3_degreesThatHit_L4
      rw [iLe, if_pos (by show (180 : Int) ≤ _; omega)]
      rfl
  | succ q ih =>
    intro i kf c v h1 h2 h3
    cases kf with
    | zero => omega
    | succ kf =>
      obtain ⟨r, er, hr⟩ := x_near (n := n) hg h0 hd hO hK hn (p := v) (q := w) (by omega) hw
      unfold F_X3_degreesThatHit_L4 cntP nearP
      rw [iLe, if_neg (by show ¬ (180 : Int) ≤ _; omega), er, bindV, iLe, hr, h1]
      by_cases z : 0 < cntW (degM m) K d ((i : Int) - w.toInt) ((i : Int) + w.toInt)
      · rw [if_neg (by show ¬ _ ≤ (0 : Int); omega), decide_eq_true z, bf_t]
        exact ih (i + 1) kf _ (v + 1) (suc_I h1 (by omega)) (by omega) (by omega)
      · rw [if_pos (by show _ ≤ (0 : Int); omega), decide_eq_false z, bf_f]
        exact ih (i + 1) kf _ (v + 1) (suc_I h1 (by omega)) (by omega) (by omega)
theorem nar1 : vp_nar .boolean (1 : Int32) = 1 := rfl
theorem mark_L (K : Int32 → MS → (Nat → Int32) → Option (Int32 × MS)) (v1 v2 v5 : Int32) {w c : Int32} (hw : 0 ≤ w.toInt ∧ w.toInt ≤ 20) (hc : 0 ≤ c.toInt ∧ c.toInt ≤ 180) : ∀ (q kf : Nat) (v : Int32) (u : Nat → Int32), v.toInt + q = c.toInt + w.toInt + 1 → -100 ≤ v.toInt → q < kf → ∃ u', F_X9_chanceOf_L34 n K v1 v2 w v5 c kf v m u = K (v5 + 1) m u' ∧ ∀ j : Nat, j < 180 → u' j = if v.toInt ≤ j ∧ (j : Int) ≤ c.toInt + w.toInt then 1 else u j := by
  have ea : (c + w).toInt = c.toInt + w.toInt := tA (by omega) (by omega)
  intro q
  induction q with
  | zero =>
    intro kf v u h1 h2 h3
    cases kf with
    | zero => omega
    | succ kf =>
      unfold F_X9_chanceOf_L34
      rw [iLt, ea, if_pos (by omega)]
      exact ⟨u, rfl, fun j hj => (if_neg (by omega)).symm⟩
  | succ q ih =>
    intro kf v u h1 h2 h3
    cases kf with
    | zero => omega
    | succ kf =>
      have e1 : (v + 1).toInt = v.toInt + 1 := tA (by show _ ≤ _ + (1 : Int); omega) (by show _ + (1 : Int) ≤ _; omega)
      unfold F_X9_chanceOf_L34
      rw [iLt, ea, if_neg (by omega), mIn v 0 179 0 179 rfl rfl, bf_d]
      by_cases z : 0 ≤ v.toInt ∧ v.toInt ≤ 179
      · rw [if_pos z, gd_i (by omega) (by omega), nar1, nat_toInt]
        obtain ⟨u', e, hu⟩ := ih kf (v + 1) (upd u v.toInt.toNat 1) (by omega) (by omega) (by omega)
        refine ⟨u', e, fun j hj => ?_⟩
        rw [hu j hj, e1]
        by_cases y : j = v.toInt.toNat
        · subst y
          rw [if_neg (by omega), upd_s, if_pos (by omega)]
        · rw [upd_o y]
          by_cases y2 : v.toInt + 1 ≤ (j : Int) ∧ (j : Int) ≤ c.toInt + w.toInt
          · rw [if_pos y2, if_pos (by omega)]
          · rw [if_neg y2, if_neg (by omega)]
      · rw [if_neg z]
        obtain ⟨u', e, hu⟩ := ih kf (v + 1) u (by omega) (by omega) (by omega)
        refine ⟨u', e, fun j hj => ?_⟩
        rw [hu j hj, e1]
        by_cases y2 : v.toInt + 1 ≤ (j : Int) ∧ (j : Int) ≤ c.toInt + w.toInt
        · rw [if_pos y2, if_pos (by omega)]
        · rw [if_neg y2, if_neg (by omega)]
theorem tally_L (K : Int32 → MS → (Nat → Int32) → Option (Int32 × MS)) (v1 v2 v3 : Int32) {u : Nat → Int32} {P : Nat → Bool} (hu : ∀ j : Nat, j < 180 → u j = if P j then 1 else 0) : ∀ (q i kf : Nat) (c v : Int32), v.toInt = i → i + q = 180 → q < kf → F_X9_chanceOf_L80 n K m u v1 v2 v3 kf c v = some (cntP P q i c, m) := by
  intro q
  induction q with
  | zero =>
    intro i kf c v h1 h2 h3
    cases kf with
    | zero => omega
    | succ kf =>
      unfold F_X9_chanceOf_L80
      rw [iLe, if_pos (by show (180 : Int) ≤ _; omega)]
      rfl
  | succ q ih =>
    intro i kf c v h1 h2 h3
    cases kf with
    | zero => omega
    | succ kf =>
      unfold F_X9_chanceOf_L80 cntP
      rw [iLe, if_neg (by show ¬ (180 : Int) ≤ _; omega), gd_i (by omega) (by omega), nat_of h1, hu i (by omega), Int32.add_zero]
      cases P i
      · rw [bf_f]
        show (if (0 : Int32) = 0 then _ else _) = _
        rw [if_pos rfl]
        exact ih (i + 1) kf _ (v + 1) (suc_I h1 (by omega)) (by omega) (by omega)
      · rw [bf_t]
        show (if (1 : Int32) = 0 then _ else _) = _
        rw [if_neg one_n0]
        exact ih (i + 1) kf _ (v + 1) (suc_I h1 (by omega)) (by omega) (by omega)
theorem m_chance_L (hA : okA (m_asked m)) (hN : okN (m_notch m) (m_notches m)) (hn : 20000 ≤ n) (v1 v2 : Int32) (hl : (F_X9_lastOf v1 v2).toInt ≤ 9999) {w : Int32} (hw : 0 ≤ w.toInt ∧ w.toInt ≤ 20) {P : Nat → Bool} : ∀ (k kf : Nat) (d : Int32) (u : Nat → Int32) (Q : Nat → Bool), 0 ≤ d.toInt → d.toInt + k = (F_X9_lastOf v1 v2).toInt + 1 → k < kf → (∀ j : Nat, j < 180 → u j = if Q j then 1 else 0) → (∀ j : Nat, j < 180 → P j = (Q j || decide (0 < cntW (degM m) k d ((j : Int) - w.toInt) ((j : Int) + w.toInt)))) → F_X9_chanceOf_L10 n v1 v2 w kf d m u = some (cntP P 180 0 0, m) := by
  intro k
  induction k with
  | zero =>
    intro kf d u Q h0 h1 h2 h3 h4
    cases kf with
    | zero => omega
    | succ kf =>
      unfold F_X9_chanceOf_L10
      rw [iLt, if_pos (by omega)]
      have hP : ∀ j : Nat, j < 180 → u j = if P j then 1 else 0 := fun j hj => by
        rw [h3 j hj, h4 j hj]
        have : decide (0 < cntW (degM m) 0 d ((j : Int) - w.toInt) ((j : Int) + w.toInt)) = false := rfl
        rw [this, Bool.or_false]
      exact tally_L (F_X9_chanceOf_L10 n v1 v2 w kf) v1 v2 w hP 180 0 n 0 0 rfl rfl (by omega)
  | succ k ih =>
    intro kf d u Q h0 h1 h2 h3 h4
    cases kf with
    | zero => omega
    | succ kf =>
      have hd : dayR d := ⟨h0, by omega⟩
      have e := next_I hd
      have hb := deg_b hA hN (day1 hd)
      have es : (degM m d - w).toInt = (degM m d).toInt - w.toInt := tS (by omega) (by omega)
      unfold F_X9_chanceOf_L10
      rw [iLt, if_neg (by omega), m_deg hA hN hn (day1 hd), bindV]
      obtain ⟨u', e', hu⟩ := mark_L (n := n) (m := m) (F_X9_chanceOf_L10 n v1 v2 w kf) v1 v2 d hw (c := degM m d) (by omega) (2 * w.toInt + 1).toNat n (degM m d - w) u (by omega) (by omega) (by omega)
      rw [e']
      refine ih kf (d + 1) u' (fun j => Q j || decide ((degM m d).toInt - w.toInt ≤ j ∧ (j : Int) ≤ (degM m d).toInt + w.toInt)) (by omega) (by omega) (by omega) (fun j hj => ?_) (fun j hj => ?_)
      · rw [hu j hj, es, h3 j hj]
        by_cases y : (degM m d).toInt - w.toInt ≤ (j : Int) ∧ (j : Int) ≤ (degM m d).toInt + w.toInt
        · rw [if_pos y, decide_eq_true y, Bool.or_true]; rfl
        · rw [if_neg y, decide_eq_false y, Bool.or_false]
      · have cb := cnt_b (degM m) k (d + 1) ((j : Int) - w.toInt) ((j : Int) + w.toInt)
        rw [h4 j hj, cnt_succ, Bool.or_assoc]
        refine congrArg (Q j || ·) ?_
        by_cases y : (degM m d).toInt - w.toInt ≤ (j : Int) ∧ (j : Int) ≤ (degM m d).toInt + w.toInt
        · rw [decide_eq_true y, Bool.true_or, if_pos (by omega)]
          exact decide_eq_true (by omega)
        · rw [decide_eq_false y, Bool.false_or, if_neg (by omega), Int.zero_add]
theorem m_chance (hA : okA (m_asked m)) (hN : okN (m_notch m) (m_notches m)) (hn : 20000 ≤ n) {d q w : Int32} (h1 : 0 ≤ d.toInt ∧ d.toInt ≤ 9999) (h2 : 1 ≤ q.toInt ∧ q.toInt ≤ 1000) (hw : 0 ≤ w.toInt ∧ w.toInt ≤ 20) : F_X9_chanceOf n m d q w = some (cntP (nearP m (daysOf d (F_X9_lastOf d q)) d w) 180 0 0, m) := by
  obtain ⟨a, b, c⟩ := daysOf_b h1 h2
  exact m_chance_L hA hN hn d q c hw (daysOf d (F_X9_lastOf d q)) n d (fun _ => 0) (fun _ => false) h1.1 a (by omega) (fun j _ => rfl) (fun j _ => by rw [Bool.false_or]; rfl)
theorem ok_chance (h : Rel x m ka ta mk) (hn : 20000 ≤ n) (p1 p2 p3 : Int32) : Ok (F_X8_chance n x p1 p2 p3) (F_X9_chance n m p1 p2 p3) ka ta mk := by
  unfold F_X8_chance F_X9_chance
  simp only [bindE]
  rw [xDays, mDays, bf_d, bf_d, xIn p3 0 20 0 20 rfl rfl, xNear, bf_d, bf_d]
  by_cases h1 : (0 ≤ p1.toInt ∧ p1.toInt ≤ 9999) ∧ (1 ≤ p2.toInt ∧ p2.toInt ≤ 1000)
  · rw [if_pos h1, if_pos h1]
    by_cases h2 : 0 ≤ p3.toInt ∧ p3.toInt ≤ 20
    · rw [if_pos h2, if_pos h2]
      have r1 := h.1
      obtain ⟨a, b, c⟩ := daysOf_b h1.1 h1.2
      obtain ⟨o, eo, ho⟩ := x_gather r1 hn h1.1 h1.2
      have ex : F_X3_degreesThatHit n (x_set_often x o) p3 = some (cntP (nearP m (daysOf p1 (F_X9_lastOf p1 p2)) p1 p3) 180 0 0) := x_chance (u := x_set_often x o) r1.2.1 r1.2.2.1.1 hn h1.1.1 (by omega) ho b h2 180 0 n 0 0 rfl rfl (by omega)
      rw [eo, bindV, ex, bindV, m_chance r1.2.1 r1.2.2.1.1 hn h1.1 h1.2 h2]
      exact Ok.same (rel_often h o) _
    · rw [if_neg h2, if_neg h2]; exact bad h
  · rw [if_neg h1, if_neg h1]; exact bad h
/-! MEANT -/
theorem orP_same {P P' : Nat → Bool} : ∀ (q i : Nat) (w : Int32), (∀ j : Nat, i ≤ j → j < i + q → P j = P' j) → orP P q i w = orP P' q i w
  | 0, i, w, _ => rfl
  | q + 1, i, w, h => by
    unfold orP
    rw [h i (Nat.le_refl _) (by omega), orP_same q (i + 1) _ (fun j h1 h2 => h j (by omega) (by omega)), orP_same q (i + 1) w (fun j h1 h2 => h j (by omega) (by omega))]
theorem cntP_same {P P' : Nat → Bool} : ∀ (q i : Nat) (w : Int32), (∀ j : Nat, i ≤ j → j < i + q → P j = P' j) → cntP P q i w = cntP P' q i w
  | 0, i, w, _ => rfl
  | q + 1, i, w, h => by
    unfold cntP
    rw [h i (Nat.le_refl _) (by omega), cntP_same q (i + 1) _ (fun j h1 h2 => h j (by omega) (by omega)), cntP_same q (i + 1) w (fun j h1 h2 => h j (by omega) (by omega))]
def sixB (b0 b1 b2 b3 b4 b5 : Bool) (i : Nat) : Bool := match i with
  | 0 => b0
  | 1 => b1
  | 2 => b2
  | 3 => b3
  | 4 => b4
  | _ => b5
theorem bits_six : ∀ b0 b1 b2 b3 b4 b5 : Bool, ∀ c : Fin 7, F_J6_bitCount_0f7a4 (orP (sixB b0 b1 b2 b3 b4 b5) c.val 0 0) = cntP (sixB b0 b1 b2 b3 b4 b5) c.val 0 0 := by decide +kernel
theorem bits_count (P : Nat → Bool) (c : Nat) (hc : c ≤ 6) : F_J6_bitCount_0f7a4 (orP P c 0 0) = cntP P c 0 0 := by
  have hs : ∀ j : Nat, 0 ≤ j → j < 0 + c → P j = sixB (P 0) (P 1) (P 2) (P 3) (P 4) (P 5) j := fun j _ h2 => match j, h2 with
    | 0, _ => rfl
    | 1, _ => rfl
    | 2, _ => rfl
    | 3, _ => rfl
    | 4, _ => rfl
    | 5, _ => rfl
    | j + 6, h2 => by omega
  rw [orP_same c 0 0 hs, cntP_same c 0 0 hs]
  exact bits_six (P 0) (P 1) (P 2) (P 3) (P 4) (P 5) ⟨c, by omega⟩
theorem m_meant_L (hA : okA (m_asked m)) (hN : okN (m_notch m) (m_notches m)) (hS : (0 ≤ (m_stones m).toInt ∧ (m_stones m).toInt ≤ 6) ∧ ∀ i : Nat, (i : Int) < (m_stones m).toInt → 0 ≤ (m_stone m i).toInt ∧ (m_stone m i).toInt ≤ 179) (hs0 : ¬ m_stones m = 0) (hn : 20000 ≤ n) {p1 p2 w : Int32} (h1 : 0 ≤ p1.toInt ∧ p1.toInt ≤ 9999) (h2 : 1 ≤ p2.toInt ∧ p2.toInt ≤ 1000) (hw : 0 ≤ w.toInt ∧ w.toInt ≤ 20) : ∀ (q i kf : Nat) (b v : Int32), v.toInt = i → i ≤ 6 → (m_stones m).toInt = i + q → q < kf → F_X9_meant_L50 n m p1 p2 w kf b v = some (cntP (hitP m (daysOf p1 (F_X9_lastOf p1 p2)) p1 w) q i b * 1000 / m_stones m - cntP (nearP m (daysOf p1 (F_X9_lastOf p1 p2)) p1 w) 180 0 0 * 1000 / 180, m) := by
  have hc := hS.1
  intro q
  induction q with
  | zero =>
    intro i kf b v hv hi6 e2 e3
    cases kf with
    | zero => omega
    | succ kf =>
      unfold F_X9_meant_L50
      rw [iLe, if_pos (by omega), gd_d hs0, m_chance hA hN hn h1 h2 hw, bindV]
      rfl
  | succ q ih =>
    intro i kf b v hv hi6 e2 e3
    cases kf with
    | zero => omega
    | succ kf =>
      unfold F_X9_meant_L50
      rw [iLe, if_neg (by omega), gd_i (by omega) (by omega), nat_of hv, m_hit hA hN hn (hS.2 i (by omega)) hw h1 h2, bindV, Int32.add_zero]
      have ec : cntP (hitP m (daysOf p1 (F_X9_lastOf p1 p2)) p1 w) (q + 1) i b = bf (decide (0 < cntW (degM m) (daysOf p1 (F_X9_lastOf p1 p2)) p1 ((m_stone m i).toInt - w.toInt) ((m_stone m i).toInt + w.toInt))) (cntP (hitP m (daysOf p1 (F_X9_lastOf p1 p2)) p1 w) q (i + 1) (b + 1)) (cntP (hitP m (daysOf p1 (F_X9_lastOf p1 p2)) p1 w) q (i + 1) b) := rfl
      rw [ec]
      by_cases z : 0 < cntW (degM m) (daysOf p1 (F_X9_lastOf p1 p2)) p1 ((m_stone m i).toInt - w.toInt) ((m_stone m i).toInt + w.toInt)
      · rw [decide_eq_true z, bf_t, bf_t]
        exact ih (i + 1) kf _ (v + 1) (suc_I hv (by omega)) (by omega) (by omega) (by omega)
      · rw [decide_eq_false z, bf_f, bf_f]
        exact ih (i + 1) kf _ (v + 1) (suc_I hv (by omega)) (by omega) (by omega) (by omega)
theorem ok_meant (h : Rel x m ka ta mk) (hn : 20000 ≤ n) (p1 p2 p3 : Int32) : Ok (F_X8_meant n x p1 p2 p3) (F_X9_meant n m p1 p2 p3) ka ta mk := by
  unfold F_X8_meant F_X9_meant
  simp only [bindE]
  rw [xDays, mDays, bf_d, bf_d, xIn p3 0 20 0 20 rfl rfl, xNear, bf_d, bf_d]
  by_cases h1 : (0 ≤ p1.toInt ∧ p1.toInt ≤ 9999) ∧ (1 ≤ p2.toInt ∧ p2.toInt ≤ 1000)
  · rw [if_pos h1, if_pos h1]
    by_cases h2 : 0 ≤ p3.toInt ∧ p3.toInt ≤ 20
    · rw [if_pos h2, if_pos h2]
      have r1 := h.1
      have hc := r1.2.2.2.1.2.1
      have ec : F_X0_count 6 (st_stones (x_now x)) = m_stones m := r1.2.2.2.1.1
      rw [ec, iLe]
      by_cases z : m_stones m = 0
      · have z0 : (m_stones m).toInt = 0 := by rw [z]; rfl
        rw [if_neg (by show ¬ (1 : Int) ≤ _; omega), if_pos z]
        exact far_ok h _ (by decide)
      · have z0 : ¬ (m_stones m).toInt = 0 := fun q => z (eqI.mpr q)
        obtain ⟨a, b, c⟩ := daysOf_b h1.1 h1.2
        obtain ⟨o, eo, ho⟩ := x_gather r1 hn h1.1 h1.2
        have ex : F_X8_stonesThatHit n (x_set_often x o) p3 = some (orP (hitP m (daysOf p1 (F_X9_lastOf p1 p2)) p1 p3) (m_stones m).toInt.toNat 0 0) := x_stones (u := x_set_often x o) r1 hn h1.1.1 (by omega) ho b h2 (m_stones m).toInt.toNat 0 n 0 0 rfl (by omega) (by omega) (by omega)
        have ex2 : F_X3_degreesThatHit n (x_set_often x o) p3 = some (cntP (nearP m (daysOf p1 (F_X9_lastOf p1 p2)) p1 p3) 180 0 0) := x_chance (u := x_set_often x o) r1.2.1 r1.2.2.1.1 hn h1.1.1 (by omega) ho b h2 180 0 n 0 0 rfl rfl (by omega)
        rw [if_pos (by show (1 : Int) ≤ _; omega), if_neg z, eo, bindV, ex, bindV, gd_d z, ex2, bindV, bits_count _ _ (by omega), m_meant_L r1.2.1 r1.2.2.1.1 ⟨hc, fun i hi => (r1.2.2.2.1.2.2 i hi).2⟩ z hn h1.1 h1.2 h2 (m_stones m).toInt.toNat 0 n 0 0 rfl (by omega) (by omega) (by omega)]
        exact Ok.same (rel_often h o) _
    · rw [if_neg h2, if_neg h2]; exact far_ok h _ (by decide)
  · rw [if_neg h1, if_neg h1]; exact far_ok h _ (by decide)
/-! place -/
def cntA (u : Nat → Int32) (lo hi : Int) : Nat → Int
  | 0 => 0
  | k + 1 => cntA u lo hi k + if lo ≤ (u k).toInt ∧ (u k).toInt ≤ hi then 1 else 0
theorem cntA_b (u : Nat → Int32) (lo hi : Int) : ∀ k : Nat, 0 ≤ cntA u lo hi k ∧ cntA u lo hi k ≤ k
  | 0 => ⟨Int.le_refl _, Int.le_refl _⟩
  | k + 1 => by
    have := cntA_b u lo hi k
    unfold cntA
    split <;> omega
theorem cntA_same {u u' : Nat → Int32} (lo hi : Int) : ∀ k : Nat, (∀ i : Nat, i < k → u' i = u i) → cntA u' lo hi k = cntA u lo hi k
  | 0, _ => rfl
  | k + 1, h => by
    have ih := cntA_same (u := u) (u' := u') lo hi k fun i hi' => h i (by omega)
    unfold cntA
    rw [ih, h k (by omega)]
def fullF (c : Int → Int) : Nat → Int → Int32 → Int32 → Int32
  | 0, _, b, _ => b
  | q + 1, t, b, v => if c v.toInt ≤ t then fullF c q t b (v + 1) else fullF c q (c v.toInt) v (v + 1)
theorem x_full_L {u : XS} {K : Nat} {d w : Int32} (hA : okA (m_asked m)) (hN : okN (m_notch m) (m_notches m)) (hn : 20000 ≤ n) (h0 : 0 ≤ d.toInt) (hd : d.toInt + K ≤ 10000) (hO : ∀ j : Nat, j < 181 → (x_often u j).toInt = occF (degM m) K d j) (hK : K ≤ 1000) (hw : 0 ≤ w.toInt ∧ w.toInt ≤ 20) : ∀ (q i kf : Nat) (b mo v : Int32), v.toInt = i → i + q = 180 → q < kf → F_X3_fullest_L7 n u w kf b mo v = some (fullF (fun p => cntW (degM m) K d (p - w.toInt) (p + w.toInt)) q mo.toInt b v) := by
  have hg : ∀ d, dayR d → 0 ≤ (degM m d).toInt ∧ (degM m d).toInt ≤ 180 := fun d hd => by have := deg_b hA hN (day1 hd); omega
  intro q
  induction q with
  | zero =>
    intro i kf b mo v h1 h2 h3
    cases kf with
    | zero => omega
    | succ kf =>
      unfold F_X3_fullest_L7
      rw [iLe, if_pos (by show (180 : Int) ≤ _; omega)]
      rfl
  | succ q ih =>
    intro i kf b mo v h1 h2 h3
    cases kf with
    | zero => omega
    | succ kf =>
      obtain ⟨r, er, hr⟩ := x_near (n := n) hg h0 hd hO hK hn (p := v) (q := w) (by omega) hw
      unfold F_X3_fullest_L7 fullF
      rw [iLe, if_neg (by show ¬ (180 : Int) ≤ _; omega), er, bindV, iLe, hr]
      by_cases z : cntW (degM m) K d (v.toInt - w.toInt) (v.toInt + w.toInt) ≤ mo.toInt
      · rw [if_pos z, if_pos z]
        exact ih (i + 1) kf _ _ (v + 1) (suc_I h1 (by omega)) (by omega) (by omega)
      · rw [if_neg z, if_neg z, ← hr]
        exact ih (i + 1) kf _ _ (v + 1) (suc_I h1 (by omega)) (by omega) (by omega)
theorem seats_L (K : Int32 → Int32 → Int32 → Option (Int32 × MS)) (u : Nat → Int32) (v1 v2 b mo : Int32) {w v N : Int32} (hw : 0 ≤ w.toInt ∧ w.toInt ≤ 20) (hv : 0 ≤ v.toInt ∧ v.toInt ≤ 180) (hN : N.toInt ≤ 40) : ∀ (q i kf : Nat) (c p : Int32), p.toInt = i → N.toInt = i + q → q < kf → c.toInt = cntA u (v.toInt - w.toInt) (v.toInt + w.toInt) i → ∃ r, r.toInt = cntA u (v.toInt - w.toInt) (v.toInt + w.toInt) (i + q) ∧ F_X9_place_L99 n K m u v1 v2 w N b mo v kf c p = if r.toInt ≤ mo.toInt then K b mo (v + 1) else K v r (v + 1) := by
  have es : (v - w).toInt = v.toInt - w.toInt := tS (by omega) (by omega)
  have ea : (v + w).toInt = v.toInt + w.toInt := tA (by omega) (by omega)
  intro q
  induction q with
  | zero =>
    intro i kf c p h1 h2 h3 h4
    cases kf with
    | zero => omega
    | succ kf =>
      unfold F_X9_place_L99
      rw [iLe N p, if_pos (by omega), iLe]
      exact ⟨c, h4, rfl⟩
  | succ q ih =>
    intro i kf c p h1 h2 h3 h4
    cases kf with
    | zero => omega
    | succ kf =>
      have cb := cntA_b u (v.toInt - w.toInt) (v.toInt + w.toInt) i
      have e1 : (c + 1).toInt = c.toInt + 1 := tA (by show _ ≤ _ + (1 : Int); omega) (by show _ + (1 : Int) ≤ _; omega)
      unfold F_X9_place_L99
      rw [iLe N p, if_neg (by omega), gd_i (by omega) (by omega), nat_of h1, mIn (u i) _ _ (v.toInt - w.toInt) (v.toInt + w.toInt) (by rw [Int32.toInt_toInt64, es]) (by rw [Int32.toInt_toInt64, ea]), bf_d, Int32.add_zero]
      have ec : cntA u (v.toInt - w.toInt) (v.toInt + w.toInt) (i + 1) = cntA u (v.toInt - w.toInt) (v.toInt + w.toInt) i + if v.toInt - w.toInt ≤ (u i).toInt ∧ (u i).toInt ≤ v.toInt + w.toInt then 1 else 0 := rfl
      by_cases z : v.toInt - w.toInt ≤ (u i).toInt ∧ (u i).toInt ≤ v.toInt + w.toInt
      · rw [if_pos z]
        rw [if_pos z] at ec
        obtain ⟨r, r1, r2⟩ := ih (i + 1) kf (c + 1) (p + 1) (suc_I h1 (by omega)) (by omega) (by omega) (by rw [e1, h4, ec])
        exact ⟨r, by rw [r1, show i + 1 + q = i + (q + 1) by omega], r2⟩
      · rw [if_neg z]
        rw [if_neg z] at ec
        obtain ⟨r, r1, r2⟩ := ih (i + 1) kf c (p + 1) (suc_I h1 (by omega)) (by omega) (by omega) (by rw [h4, ec]; omega)
        exact ⟨r, by rw [r1, show i + 1 + q = i + (q + 1) by omega], r2⟩
theorem m_full_L (u : Nat → Int32) (v1 v2 : Int32) {w N : Int32} (hw : 0 ≤ w.toInt ∧ w.toInt ≤ 20) (hN : 0 ≤ N.toInt ∧ N.toInt ≤ 40) (hn : 20000 ≤ n) (K0 : Int32 → Int32 → MS → (Nat → Int32) → Option (Int32 × MS)) {c : Int → Int} (hc : ∀ p : Int, cntA u (p - w.toInt) (p + w.toInt) N.toInt.toNat = c p) : ∀ (q i kf : Nat) (b mo v : Int32), v.toInt = i → i + q = 180 → q < kf → F_X9_place_L85 n K0 m u v1 v2 w N kf b mo v = some (fullF c q mo.toInt b v, m) := by
  intro q
  induction q with
  | zero =>
    intro i kf b mo v h1 h2 h3
    cases kf with
    | zero => omega
    | succ kf =>
      unfold F_X9_place_L85
      rw [iLe, if_pos (by show (180 : Int) ≤ _; omega)]
      rfl
  | succ q ih =>
    intro i kf b mo v h1 h2 h3
    cases kf with
    | zero => omega
    | succ kf =>
      obtain ⟨r, r1, r2⟩ := seats_L (n := n) (m := m) (F_X9_place_L85 n K0 m u v1 v2 w N kf) u v1 v2 b mo hw (v := v) (by omega) hN.2 N.toInt.toNat 0 n 0 0 rfl (by omega) (by omega) rfl
      rw [Nat.zero_add, hc] at r1
      unfold F_X9_place_L85 fullF
      rw [iLe, if_neg (by show ¬ (180 : Int) ≤ _; omega), r2]
      by_cases z : c v.toInt ≤ mo.toInt
      · rw [if_pos z, if_pos (by rw [r1]; exact z)]
        exact ih (i + 1) kf _ _ (v + 1) (suc_I h1 (by omega)) (by omega) (by omega)
      · rw [if_neg z, if_neg (by rw [r1]; exact z), ← r1]
        exact ih (i + 1) kf _ _ (v + 1) (suc_I h1 (by omega)) (by omega) (by omega)
theorem m_place_L (hA : okA (m_asked m)) (hN : okN (m_notch m) (m_notches m)) (hn : 20000 ≤ n) (v1 v2 : Int32) (hl : (F_X9_lastOf v1 v2).toInt ≤ 9999) {w : Int32} (hw : 0 ≤ w.toInt ∧ w.toInt ≤ 20) {c : Int → Int} : ∀ (k i kf : Nat) (N d : Int32) (u : Nat → Int32), N.toInt = i → i + k ≤ 40 → 0 ≤ d.toInt → d.toInt + k = (F_X9_lastOf v1 v2).toInt + 1 → k < kf → (∀ p : Int, cntA u (p - w.toInt) (p + w.toInt) i + cntW (degM m) k d (p - w.toInt) (p + w.toInt) = c p) → F_X9_place_L46 n v1 v2 w kf N d m u = some (fullF c 180 (-1) 0 0, m) := by
  intro k
  induction k with
  | zero =>
    intro i kf N d u h1 h2 h3 h4 h5 h6
    cases kf with
    | zero => omega
    | succ kf =>
      unfold F_X9_place_L46
      rw [iLt, if_pos (by omega)]
      exact m_full_L u v1 v2 hw (by omega) hn (F_X9_place_L46 n v1 v2 w kf) (c := c) (fun p => by rw [← h6 p, h1]; unfold cntW; show cntA _ _ _ i = _; omega) 180 0 n 0 (-1) 0 rfl rfl (by omega)
  | succ k ih =>
    intro i kf N d u h1 h2 h3 h4 h5 h6
    cases kf with
    | zero => omega
    | succ kf =>
      have hd : dayR d := ⟨h3, by omega⟩
      have e := next_I hd
      unfold F_X9_place_L46
      rw [iLt, if_neg (by omega), m_deg hA hN hn (day1 hd), bindV, gd_i (by omega) (by omega), nat_of h1]
      refine ih (i + 1) kf (N + 1) (d + 1) _ (suc_I h1 (by omega)) (by omega) (by omega) (by omega) (by omega) fun p => ?_
      rw [← h6 p, cnt_succ]
      have ec : cntA (upd u i (degM m d)) (p - w.toInt) (p + w.toInt) (i + 1) = cntA (upd u i (degM m d)) (p - w.toInt) (p + w.toInt) i + if p - w.toInt ≤ (upd u i (degM m d) i).toInt ∧ (upd u i (degM m d) i).toInt ≤ p + w.toInt then 1 else 0 := rfl
      rw [ec, upd_s, cntA_same (u := u) _ _ i (fun j hj => upd_o (by omega))]
      omega
theorem ok_place (h : Rel x m ka ta mk) (hn : 20000 ≤ n) (p1 p2 p3 : Int32) : Ok (F_X8_place n x p1 p2 p3) (F_X9_place n m p1 p2 p3) ka ta mk := by
  unfold F_X8_place F_X9_place
  simp only [bindE]
  rw [xDay, mDay, bf_d, bf_d, xIn p2 1 40 1 40 rfl rfl, mIn p2 1 40 1 40 rfl rfl, bf_d, bf_d, xIn p3 0 20 0 20 rfl rfl, xNear, bf_d, bf_d]
  by_cases h1 : 0 ≤ p1.toInt ∧ p1.toInt ≤ 9999
  · rw [if_pos h1, if_pos h1]
    by_cases h2 : 1 ≤ p2.toInt ∧ p2.toInt ≤ 40
    · rw [if_pos h2, if_pos h2]
      by_cases h3 : 0 ≤ p3.toInt ∧ p3.toInt ≤ 20
      · rw [if_pos h3, if_pos h3]
        have r1 := h.1
        have h2' : 1 ≤ p2.toInt ∧ p2.toInt ≤ 1000 := by omega
        have hl := last_b h1 h2'
        obtain ⟨a, b, c⟩ := daysOf_b h1 h2'
        obtain ⟨o, eo, ho⟩ := x_gather r1 hn h1 h2'
        have cb := cnt_b (degM m) (daysOf p1 (F_X9_lastOf p1 p2)) p1 (0 - p3.toInt) (0 + p3.toInt)
        have ex : F_X3_fullest n (x_set_often x o) p3 = some (fullF (fun p => cntW (degM m) (daysOf p1 (F_X9_lastOf p1 p2)) p1 (p - p3.toInt) (p + p3.toInt)) 180 0 0 0) := x_full_L (u := x_set_often x o) r1.2.1 r1.2.2.1.1 hn h1.1 (by omega) ho b h3 180 0 n 0 0 0 rfl rfl (by omega)
        have em := m_place_L (n := n) r1.2.1 r1.2.2.1.1 hn p1 p2 c h3 (c := fun p => cntW (degM m) (daysOf p1 (F_X9_lastOf p1 p2)) p1 (p - p3.toInt) (p + p3.toInt)) (daysOf p1 (F_X9_lastOf p1 p2)) 0 n 0 p1 (fun _ => 0) rfl (by omega) h1.1 a (by omega) (fun p => by show (0 : Int) + _ = _; omega)
        rw [eo, bindV, ex, bindV, em]
        refine Ok.eq (rel_often h o) ?_
        have st : ∀ t : Int, fullF (fun p => cntW (degM m) (daysOf p1 (F_X9_lastOf p1 p2)) p1 (p - p3.toInt) (p + p3.toInt)) 180 t 0 0 = if cntW (degM m) (daysOf p1 (F_X9_lastOf p1 p2)) p1 (0 - p3.toInt) (0 + p3.toInt) ≤ t then fullF (fun p => cntW (degM m) (daysOf p1 (F_X9_lastOf p1 p2)) p1 (p - p3.toInt) (p + p3.toInt)) 179 t 0 (0 + 1) else fullF (fun p => cntW (degM m) (daysOf p1 (F_X9_lastOf p1 p2)) p1 (p - p3.toInt) (p + p3.toInt)) 179 (cntW (degM m) (daysOf p1 (F_X9_lastOf p1 p2)) p1 (0 - p3.toInt) (0 + p3.toInt)) 0 (0 + 1) := fun t => rfl
        rw [st 0, st (-1), if_neg (show ¬ cntW (degM m) (daysOf p1 (F_X9_lastOf p1 p2)) p1 (0 - p3.toInt) (0 + p3.toInt) ≤ -1 by omega)]
        by_cases z : cntW (degM m) (daysOf p1 (F_X9_lastOf p1 p2)) p1 (0 - p3.toInt) (0 + p3.toInt) ≤ 0
        · rw [if_pos z, show cntW (degM m) (daysOf p1 (F_X9_lastOf p1 p2)) p1 (0 - p3.toInt) (0 + p3.toInt) = 0 by omega]
        · rw [if_neg z]
      · rw [if_neg h3, if_neg h3]; exact bad h
    · rw [if_neg h2, if_neg h2]; exact bad h
  · rw [if_neg h1, if_neg h1]; exact bad h
end SO
