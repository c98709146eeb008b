/-! ===== the told sums, as the reference writes them; the class's are the same ===== -/
theorem lnV_r {nt : Nat → Nat → Int32} {c : Int32} (h : okN nt c) (d : Int) : ∀ k : Nat, (k : Int) ≤ c.toInt → 0 ≤ (lnV nt d k).toInt ∧ (lnV nt d k).toInt ≤ 30
  | 0, _ => ⟨by show (0 : Int) ≤ 0; omega, by show (0 : Int) ≤ 30; omega⟩
  | k + 1, hk => by
    have ih := lnV_r h d k (by omega)
    have h2 := (h.2 k (by omega)).2
    unfold lnV
    split
    · split
      · exact ih
      · exact h2
    · exact ih
theorem lnV_out {nt : Nat → Nat → Int32} {c : Int32} (h : okN nt c) {d : Int} (hd : d < 0 ∨ 179 < d) : ∀ k : Nat, (k : Int) ≤ c.toInt → lnV nt d k = 0
  | 0, _ => rfl
  | k + 1, hk => by
    have ih := lnV_out h hd k (by omega)
    have h2 := (h.2 k (by omega)).1
    unfold lnV
    rw [if_neg (by omega)]
    exact ih
/-- where the SKY LINE is above 0, a NOTCH makes it -/
theorem lnV_made {nt : Nat → Nat → Int32} {c : Int32} (h : okN nt c) {d : Int} : ∀ k : Nat, (k : Int) ≤ c.toInt → 0 < (lnV nt d k).toInt → ∃ i : Nat, i < k ∧ (nt i 0).toInt ≤ d ∧ d ≤ (nt i 1).toInt ∧ nt i 2 = lnV nt d k
  | 0, _, h0 => absurd h0 (by show ¬ (0 : Int) < 0; omega)
  | k + 1, hk, h0 => by
    unfold lnV at h0 ⊢
    split
    · rename_i hin
      rw [if_pos hin] at h0
      split
      · rename_i hle
        rw [if_pos hle] at h0
        obtain ⟨i, h1, h2, h3, h4⟩ := lnV_made h k (by omega) h0
        exact ⟨i, by omega, h2, h3, h4⟩
      · exact ⟨k, by omega, hin.1, hin.2, rfl⟩
    · rename_i hin
      rw [if_neg hin] at h0
      obtain ⟨i, h1, h2, h3, h4⟩ := lnV_made h k (by omega) h0
      exact ⟨i, by omega, h2, h3, h4⟩
def ageM (m : MS) (d : Int32) : Int32 := jrem (100 * d + m_asked m 0) 2953
def litM (m : MS) (d : Int32) : Int32 := if 1476 < ageM m d then 100 * (2953 - ageM m d) / 1477 else 100 * ageM m d / 1476
def outM (m : MS) (d : Int32) : Int32 := if 3396 < jrem (m_asked m 2 + d) 6793 then 18 + (6793 - jrem (m_asked m 2 + d) 6793) * 10 / 3397 else 18 + jrem (m_asked m 2 + d) 6793 * 10 / 3396
def wavM (m : MS) (d : Int32) : Int32 := jrem (100 * d + m_asked m 1) 2732
def slM (m : MS) (d : Int32) : Int32 := if 683 < wavM m d then (if 2049 < wavM m d then outM m d * (wavM m d - 2732) / 683 else outM m d * (1366 - wavM m d) / 683) else outM m d * wavM m d / 683
def riseM (m : MS) (d : Int32) : Int32 := F_X9_mod (360 + ageM m d * 1440 / 2953 - 3 * slM m d) 1440
def wayM (m : MS) (d : Int32) : Int32 := 90 - 2 * slM m d
def lineM (m : MS) (p : Int) : Int32 := lnV (m_notch m) p (m_notches m).toInt.toNat
def ovF (L : Int → Int32) (w : Int) : Nat → Int → Int
  | 0, j => j
  | f + 1, j => if 5 * (L (w + j / 4)).toInt ≤ j then j else ovF L w f (j + 1)
def ovM (m : MS) (d : Int32) : Int32 := Int32.ofInt (ovF (lineM m) (wayM m d).toInt 150 0)
def upM (m : MS) (d : Int32) : Int32 := jrem (riseM m d + ovM m d) 1440
def laterM (m : MS) (d : Int32) : Int32 := F_X9_mod (upM m (d + 1) - upM m d) 1440
def degM (m : MS) (d : Int32) : Int32 := wayM m d + ovM m d / 4
def dayR (d : Int32) : Prop := 0 ≤ d.toInt ∧ d.toInt ≤ 9999
section MN
variable {a : ST} {m : MS} {n : Nat} {d : Int32}
theorem hundred (h : 0 ≤ d.toInt ∧ d.toInt ≤ 10000) {q : Int32} (hq : 0 ≤ q.toInt ∧ q.toInt ≤ 9999) : (100 * d + q).toInt = 100 * d.toInt + q.toInt := by
  have e : (100 * d).toInt = 100 * d.toInt := tM (by show _ ≤ (100 : Int) * _; omega) (by show (100 : Int) * _ ≤ _; omega)
  rw [tA (by rw [e]; omega) (by rw [e]; omega), e]
theorem age_r (hA : okA (m_asked m)) (h : 0 ≤ d.toInt ∧ d.toInt ≤ 10000) : (ageM m d).toInt = (100 * d.toInt + (m_asked m 0).toInt) % 2953 := by
  have e := hundred h hA.1
  unfold ageM
  have h1 := hA.1
  rw [tR (by rw [e]; omega) (by decide), e]
  rfl
theorem age_b (hA : okA (m_asked m)) (h : 0 ≤ d.toInt ∧ d.toInt ≤ 10000) : 0 ≤ (ageM m d).toInt ∧ (ageM m d).toInt ≤ 2952 := by
  rw [age_r hA h]; omega
theorem lit_b (hA : okA (m_asked m)) (h : 0 ≤ d.toInt ∧ d.toInt ≤ 10000) : 0 ≤ (litM m d).toInt ∧ (litM m d).toInt ≤ 100 := by
  have hb := age_b hA h
  unfold litM
  rw [iLt]
  show 0 ≤ (if (1476 : Int) < _ then _ else _ : Int32).toInt ∧ (if (1476 : Int) < _ then _ else _ : Int32).toInt ≤ 100
  split
  · have e1 : (2953 - ageM m d).toInt = 2953 - (ageM m d).toInt := tS (by show _ ≤ (2953 : Int) - _; omega) (by show (2953 : Int) - _ ≤ _; omega)
    have e2 : (100 * (2953 - ageM m d)).toInt = 100 * (2953 - (ageM m d).toInt) := by rw [← e1]; exact tM (by rw [e1]; show _ ≤ (100 : Int) * _; omega) (by rw [e1]; show (100 : Int) * _ ≤ _; omega)
    rw [tD (by rw [e2]; omega) (by decide), e2]
    show 0 ≤ _ / (1477 : Int) ∧ _ / (1477 : Int) ≤ 100
    omega
  · have e2 : (100 * ageM m d).toInt = 100 * (ageM m d).toInt := tM (by show _ ≤ (100 : Int) * _; omega) (by show (100 : Int) * _ ≤ _; omega)
    rw [tD (by rw [e2]; omega) (by decide), e2]
    show 0 ≤ _ / (1476 : Int) ∧ _ / (1476 : Int) ≤ 100
    omega
theorem out_b (hA : okA (m_asked m)) (h : 0 ≤ d.toInt ∧ d.toInt ≤ 10000) : 18 ≤ (outM m d).toInt ∧ (outM m d).toInt ≤ 28 := by
  have h2 := hA.2.2.1
  have e : (m_asked m 2 + d).toInt = (m_asked m 2).toInt + d.toInt := tA (by omega) (by omega)
  have er : (jrem (m_asked m 2 + d) 6793).toInt = ((m_asked m 2).toInt + d.toInt) % 6793 := by rw [tR (by rw [e]; omega) (by decide), e]; rfl
  have hb : 0 ≤ (jrem (m_asked m 2 + d) 6793).toInt ∧ (jrem (m_asked m 2 + d) 6793).toInt ≤ 6792 := by rw [er]; omega
  unfold outM
  generalize jrem (m_asked m 2 + d) 6793 = r at hb ⊢
  rw [iLt]
  show 18 ≤ (if (3396 : Int) < _ then _ else _ : Int32).toInt ∧ (if (3396 : Int) < _ then _ else _ : Int32).toInt ≤ 28
  split
  · have e1 : (6793 - r).toInt = 6793 - r.toInt := tS (by show _ ≤ (6793 : Int) - _; omega) (by show (6793 : Int) - _ ≤ _; omega)
    have e2 : ((6793 - r) * 10).toInt = (6793 - r.toInt) * 10 := by rw [← e1]; exact tM (by rw [e1]; show _ ≤ _ * (10 : Int); omega) (by rw [e1]; show _ * (10 : Int) ≤ _; omega)
    have e3 : ((6793 - r) * 10 / 3397).toInt = (6793 - r.toInt) * 10 / 3397 := by rw [tD (by rw [e2]; omega) (by decide), e2]; rfl
    rw [tA (by rw [e3]; show _ ≤ (18 : Int) + _; omega) (by rw [e3]; show (18 : Int) + _ ≤ _; omega), e3]
    show 18 ≤ (18 : Int) + _ ∧ (18 : Int) + _ ≤ 28
    omega
  · have e2 : (r * 10).toInt = r.toInt * 10 := tM (by show _ ≤ _ * (10 : Int); omega) (by show _ * (10 : Int) ≤ _; omega)
    have e3 : (r * 10 / 3396).toInt = r.toInt * 10 / 3396 := by rw [tD (by rw [e2]; omega) (by decide), e2]; rfl
    rw [tA (by rw [e3]; show _ ≤ (18 : Int) + _; omega) (by rw [e3]; show (18 : Int) + _ ≤ _; omega), e3]
    show 18 ≤ (18 : Int) + _ ∧ (18 : Int) + _ ≤ 28
    omega
theorem wav_b (hA : okA (m_asked m)) (h : 0 ≤ d.toInt ∧ d.toInt ≤ 10000) : 0 ≤ (wavM m d).toInt ∧ (wavM m d).toInt ≤ 2731 := by
  have e := hundred h hA.2.1
  have h1 := hA.2.1
  unfold wavM
  rw [tR (by rw [e]; omega) (by decide), e]
  show 0 ≤ _ % (2732 : Int) ∧ _ % (2732 : Int) ≤ 2731
  omega
/-- OUT times a wave -/
theorem waved {o t : Int32} (ho : 18 ≤ o.toInt ∧ o.toInt ≤ 28) (ht : -683 ≤ t.toInt ∧ t.toInt ≤ 683) : -28 ≤ (o * t / 683).toInt ∧ (o * t / 683).toInt ≤ 28 := by
  by_cases h0 : 0 ≤ t.toInt
  · have p1 : o.toInt * t.toInt ≤ 28 * t.toInt := Int.mul_le_mul_of_nonneg_right ho.2 h0
    have p0 : 0 ≤ o.toInt * t.toInt := Int.mul_nonneg (by omega) h0
    have e : (o * t).toInt = o.toInt * t.toInt := tM (by omega) (by omega)
    rw [tD (by rw [e]; omega) (by decide), e]
    show -28 ≤ _ / (683 : Int) ∧ _ / (683 : Int) ≤ 28
    omega
  · have p1 : 28 * t.toInt ≤ o.toInt * t.toInt := Int.mul_le_mul_of_nonpos_right ho.2 (by omega)
    have p0 : o.toInt * t.toInt < 0 := Int.mul_neg_of_pos_of_neg (by omega) (by omega)
    have e : (o * t).toInt = o.toInt * t.toInt := tM (by omega) (by omega)
    rw [tDn (by rw [e]; omega) (by decide), e]
    show -28 ≤ -(_ / (683 : Int)) ∧ -(_ / (683 : Int)) ≤ 28
    omega
theorem sl_b (hA : okA (m_asked m)) (h : 0 ≤ d.toInt ∧ d.toInt ≤ 10000) : -28 ≤ (slM m d).toInt ∧ (slM m d).toInt ≤ 28 := by
  have ho := out_b hA h
  have ht := wav_b hA h
  unfold slM
  rw [iLt, iLt]
  by_cases c1 : (683 : Int32).toInt < (wavM m d).toInt
  · rw [if_pos c1]
    replace c1 : 683 < (wavM m d).toInt := c1
    by_cases c2 : (2049 : Int32).toInt < (wavM m d).toInt
    · rw [if_pos c2]
      replace c2 : 2049 < (wavM m d).toInt := c2
      have e : (wavM m d - 2732).toInt = (wavM m d).toInt - 2732 := tS (by show _ ≤ _ - (2732 : Int); omega) (by show _ - (2732 : Int) ≤ _; omega)
      exact waved ho (by rw [e]; omega)
    · rw [if_neg c2]
      replace c2 : ¬ 2049 < (wavM m d).toInt := c2
      have e : (1366 - wavM m d).toInt = 1366 - (wavM m d).toInt := tS (by show _ ≤ (1366 : Int) - _; omega) (by show (1366 : Int) - _ ≤ _; omega)
      exact waved ho (by rw [e]; omega)
  · rw [if_neg c1]
    replace c1 : ¬ 683 < (wavM m d).toInt := c1
    exact waved ho (by omega)
theorem way_r (hA : okA (m_asked m)) (h : 0 ≤ d.toInt ∧ d.toInt ≤ 10000) : (wayM m d).toInt = 90 - 2 * (slM m d).toInt := by
  have hs := sl_b hA h
  have e : (2 * slM m d).toInt = 2 * (slM m d).toInt := tM (by show _ ≤ (2 : Int) * _; omega) (by show (2 : Int) * _ ≤ _; omega)
  unfold wayM
  rw [tS (by rw [e]; show _ ≤ (90 : Int) - _; omega) (by rw [e]; show (90 : Int) - _ ≤ _; omega), e]
  rfl
theorem way_b (hA : okA (m_asked m)) (h : 0 ≤ d.toInt ∧ d.toInt ≤ 10000) : 34 ≤ (wayM m d).toInt ∧ (wayM m d).toInt ≤ 146 := by
  have hs := sl_b hA h
  rw [way_r hA h]
  omega
theorem rise_b : 0 ≤ (riseM m d).toInt ∧ (riseM m d).toInt ≤ 1439 := by
  unfold riseM
  rw [tMod (by decide)]
  show 0 ≤ _ % (1440 : Int) ∧ _ % (1440 : Int) ≤ 1439
  omega
/-! OVER -/
theorem ovF_spec {L : Int → Int32} (hL : ∀ p, 0 ≤ (L p).toInt ∧ (L p).toInt ≤ 30) (w : Int) : ∀ (f : Nat) (j : Int), 0 ≤ j → j ≤ 150 → 150 ≤ j + f → j ≤ ovF L w f j ∧ ovF L w f j ≤ 150 ∧ 5 * (L (w + ovF L w f j / 4)).toInt ≤ ovF L w f j ∧ ∀ i, j ≤ i → i < ovF L w f j → ¬ 5 * (L (w + i / 4)).toInt ≤ i
  | 0, j, h0, h1, h2 => by
    have := hL (w + j / 4)
    unfold ovF
    exact ⟨Int.le_refl _, h1, by omega, fun i a b => by omega⟩
  | f + 1, j, h0, h1, h2 => by
    unfold ovF
    split
    · rename_i h
      exact ⟨Int.le_refl _, h1, h, fun i a b => by omega⟩
    · rename_i h
      have := hL (w + j / 4)
      obtain ⟨a, b, c, d⟩ := ovF_spec hL w f (j + 1) (by omega) (by omega) (by omega)
      refine ⟨by omega, b, c, fun i h3 h4 => ?_⟩
      by_cases e : i = j
      · rw [e]; exact h
      · exact d i (by omega) h4
theorem lineM_r (hN : okN (m_notch m) (m_notches m)) (p : Int) : 0 ≤ (lineM m p).toInt ∧ (lineM m p).toInt ≤ 30 := lnV_r hN p _ (by have := hN.1; omega)
theorem lineM_out (hN : okN (m_notch m) (m_notches m)) {p : Int} (h : p < 0 ∨ 179 < p) : lineM m p = 0 := lnV_out hN h _ (by have := hN.1; omega)
theorem ov_spec (hN : okN (m_notch m) (m_notches m)) (d : Int32) : (ovM m d).toInt = ovF (lineM m) (wayM m d).toInt 150 0 ∧ 0 ≤ (ovM m d).toInt ∧ (ovM m d).toInt ≤ 150 ∧ 5 * (lineM m ((wayM m d).toInt + (ovM m d).toInt / 4)).toInt ≤ (ovM m d).toInt ∧ ∀ i, 0 ≤ i → i < (ovM m d).toInt → ¬ 5 * (lineM m ((wayM m d).toInt + i / 4)).toInt ≤ i := by
  obtain ⟨a, b, c, e⟩ := ovF_spec (lineM_r hN) (wayM m d).toInt 150 0 (by omega) (by omega) (by omega)
  have h : (ovM m d).toInt = ovF (lineM m) (wayM m d).toInt 150 0 := Int32.toInt_ofInt_of_le (by omega) (by omega)
  rw [h]
  exact ⟨rfl, a, b, c, e⟩
theorem deg_r (hA : okA (m_asked m)) (hN : okN (m_notch m) (m_notches m)) (h : 0 ≤ d.toInt ∧ d.toInt ≤ 10000) : (degM m d).toInt = (wayM m d).toInt + (ovM m d).toInt / 4 := by
  have hw := way_b hA h
  obtain ⟨-, o1, o2, -, -⟩ := ov_spec hN d
  have e : (ovM m d / 4).toInt = (ovM m d).toInt / 4 := tD o1 (by decide)
  unfold degM
  rw [tA (by rw [e]; omega) (by rw [e]; omega), e]
theorem deg_b (hA : okA (m_asked m)) (hN : okN (m_notch m) (m_notches m)) (h : 0 ≤ d.toInt ∧ d.toInt ≤ 10000) : 34 ≤ (degM m d).toInt ∧ (degM m d).toInt ≤ 180 := by
  have hw := way_b hA h
  obtain ⟨-, o1, o2, -, o4⟩ := ov_spec hN d
  rw [deg_r hA hN h]
  refine ⟨by omega, ?_⟩
  by_cases h0 : (ovM m d).toInt = 0
  · omega
  · have h1 := o4 ((ovM m d).toInt - 1) (by omega) (by omega)
    have h2 : ¬ 179 < (wayM m d).toInt + ((ovM m d).toInt - 1) / 4 := fun q => by
      rw [lineM_out hN (Or.inr q)] at h1
      exact h1 (by show 5 * (0 : Int) ≤ _; omega)
    omega
theorem up_b (hN : okN (m_notch m) (m_notches m)) : 0 ≤ (upM m d).toInt ∧ (upM m d).toInt ≤ 1439 := by
  have hr := rise_b (m := m) (d := d)
  obtain ⟨-, o1, o2, -, -⟩ := ov_spec hN d
  have e : (riseM m d + ovM m d).toInt = (riseM m d).toInt + (ovM m d).toInt := tA (by omega) (by omega)
  unfold upM
  rw [tR (by rw [e]; omega) (by decide), e]
  show 0 ≤ _ % (1440 : Int) ∧ _ % (1440 : Int) ≤ 1439
  omega
theorem later_b : 0 ≤ (laterM m d).toInt ∧ (laterM m d).toInt ≤ 1439 := by
  unfold laterM
  rw [tMod (by decide)]
  show 0 ≤ _ % (1440 : Int) ∧ _ % (1440 : Int) ≤ 1439
  omega
/-! the reference's -/
theorem m_age (n : Nat) (m : MS) (d : Int32) : F_X9_age n m d = some (ageM m d) := by
  unfold F_X9_age
  rw [gd_i (by decide) (by decide)]
  rfl
theorem m_out (n : Nat) (m : MS) (d : Int32) : F_X9_out n m d = some (outM m d) := by
  unfold F_X9_out outM
  rw [gd_i (by decide) (by decide)]
  show (if 3396 < jrem (m_asked m 2 + d) 6793 then _ else _) = _
  split <;> rfl
theorem m_slant (n : Nat) (m : MS) (d : Int32) : F_X9_slantOf n m d = some (slM m d) := by
  unfold F_X9_slantOf slM
  rw [gd_i (by decide) (by decide), m_out, bindV]
  show (if 683 < wavM m d then (if 2049 < wavM m d then _ else _) else _) = _
  split
  · split <;> rfl
  · rfl
theorem m_rise (n : Nat) (m : MS) (d : Int32) : F_X9_rise n m d = some (riseM m d) := by
  unfold F_X9_rise riseM
  rw [m_age, bindV, m_slant, bindV]
theorem m_way (n : Nat) (m : MS) (d : Int32) : F_X9_way n m d = some (wayM m d) := by
  unfold F_X9_way wayM
  rw [m_slant, bindV]
theorem m_lit (n : Nat) (m : MS) (d : Int32) : F_X9_lit n m d = some (litM m d) := by
  unfold F_X9_lit litM
  rw [m_age, bindV]
  split <;> rfl
theorem m_line_L (hN : okN (m_notch m) (m_notches m)) (n : Nat) (p : Int32) : ∀ (kf i : Nat) (w v : Int32), v.toInt = i → (i : Int) ≤ (m_notches m).toInt → (m_notches m).toInt < i + kf → w = lnV (m_notch m) p.toInt i → F_X9_lineAt_L4 n m p kf w v = some (lineM m p.toInt)
  | 0, i, w, v, h1, h2, h3, h4 => by omega
  | kf + 1, i, w, v, h1, h2, h3, h4 => by
    have hc := hN.1
    unfold F_X9_lineAt_L4
    rw [iLe, h1]
    by_cases c : (m_notches m).toInt ≤ (i : Int)
    · rw [if_pos c, h4]
      have e : (m_notches m).toInt.toNat = i := by omega
      unfold lineM
      rw [e]
    · rw [if_neg c]
      have hv : v.toNatClampNeg = i := by rw [nat_toInt, h1]; omega
      have hv2 : (v + 1).toInt = ((i + 1 : Nat) : Int) := by
        rw [tA (by rw [h1]; show _ ≤ _ + (1 : Int); omega) (by rw [h1]; show _ + (1 : Int) ≤ _; omega), h1]
        rfl
      have g8 : inb v 8 = true := inb_t (by omega) (by rw [h1]; omega)
      rw [g8, hv]
      show bf (F_X9_in (Int32.toInt64 p) (Int32.toInt64 (m_notch m i 0)) (Int32.toInt64 (m_notch m i 1))) (if m_notch m i 2 ≤ w then F_X9_lineAt_L4 n m p kf w (v + 1) else F_X9_lineAt_L4 n m p kf (m_notch m i 2) (v + 1)) (F_X9_lineAt_L4 n m p kf w (v + 1)) = _
      rw [in_eq, Int32.toInt_toInt64, Int32.toInt_toInt64, Int32.toInt_toInt64, bf_d]
      by_cases c1 : (m_notch m i 0).toInt ≤ p.toInt ∧ p.toInt ≤ (m_notch m i 1).toInt
      · rw [if_pos c1]
        by_cases c2 : m_notch m i 2 ≤ w
        · rw [if_pos c2]
          exact m_line_L hN n p kf (i + 1) _ _ hv2 (by omega) (by omega) (by unfold lnV; rw [if_pos c1, ← h4, if_pos c2])
        · rw [if_neg c2]
          exact m_line_L hN n p kf (i + 1) _ _ hv2 (by omega) (by omega) (by unfold lnV; rw [if_pos c1, ← h4, if_neg c2])
      · rw [if_neg c1]
        exact m_line_L hN n p kf (i + 1) _ _ hv2 (by omega) (by omega) (by unfold lnV; rw [if_neg c1, ← h4])
theorem m_line (hN : okN (m_notch m) (m_notches m)) (hn : 20000 ≤ n) (p : Int32) : F_X9_lineAt n m p = some (lineM m p.toInt) := by
  have hc := hN.1
  exact m_line_L hN n p n 0 0 0 rfl (by omega) (by omega) rfl
theorem m_over_L (hA : okA (m_asked m)) (hN : okN (m_notch m) (m_notches m)) (hn : 20000 ≤ n) (h : 0 ≤ d.toInt ∧ d.toInt ≤ 10000) : ∀ (f kf : Nat) (v : Int32), 0 ≤ v.toInt → v.toInt + f = 150 → f < kf → F_X9_over_L8 n m d (wayM m d) kf v = some (Int32.ofInt (ovF (lineM m) (wayM m d).toInt f v.toInt)) := by
  intro f
  have hw := way_b hA h
  induction f with
  | zero =>
    intro kf v h0 h1 h2
    cases kf with
    | zero => omega
    | succ kf =>
      have e4 : (v / 4).toInt = v.toInt / 4 := tD h0 (by decide)
      have e5 : (v / 5).toInt = v.toInt / 5 := tD h0 (by decide)
      have ew : (wayM m d + v / 4).toInt = (wayM m d).toInt + v.toInt / 4 := by rw [tA (by rw [e4]; omega) (by rw [e4]; omega), e4]
      have hl := lineM_r hN ((wayM m d).toInt + v.toInt / 4)
      unfold F_X9_over_L8 ovF
      rw [m_line hN hn, bindV, ew, iLe, e5, if_pos (by omega), Int32.ofInt_toInt]
  | succ f ih =>
    intro kf v h0 h1 h2
    cases kf with
    | zero => omega
    | succ kf =>
      have e4 : (v / 4).toInt = v.toInt / 4 := tD h0 (by decide)
      have e5 : (v / 5).toInt = v.toInt / 5 := tD h0 (by decide)
      have ew : (wayM m d + v / 4).toInt = (wayM m d).toInt + v.toInt / 4 := by rw [tA (by rw [e4]; omega) (by rw [e4]; omega), e4]
      have e1 : (v + 1).toInt = v.toInt + 1 := tA (by show _ ≤ _ + (1 : Int); omega) (by show _ + (1 : Int) ≤ _; omega)
      unfold F_X9_over_L8 ovF
      rw [m_line hN hn, bindV, ew, iLe, e5]
      by_cases c : 5 * (lineM m ((wayM m d).toInt + v.toInt / 4)).toInt ≤ v.toInt
      · rw [if_pos c, if_pos (by omega), Int32.ofInt_toInt]
      · rw [if_neg c, if_neg (by omega), ← e1]
        exact ih kf (v + 1) (by omega) (by omega) (by omega)
theorem m_over (hA : okA (m_asked m)) (hN : okN (m_notch m) (m_notches m)) (hn : 20000 ≤ n) (h : 0 ≤ d.toInt ∧ d.toInt ≤ 10000) : F_X9_over n m d = some (ovM m d) := by
  unfold F_X9_over
  rw [m_way, bindV]
  exact m_over_L hA hN hn h 150 n 0 (by decide) (by decide) (by omega)
theorem m_up (hA : okA (m_asked m)) (hN : okN (m_notch m) (m_notches m)) (hn : 20000 ≤ n) (h : 0 ≤ d.toInt ∧ d.toInt ≤ 10000) : F_X9_up n m d = some (upM m d) := by
  unfold F_X9_up
  rw [m_rise, bindV, m_over hA hN hn h, bindV]
  rfl
theorem next_I (h : dayR d) : (d + 1).toInt = d.toInt + 1 := tA (by have := h.1; show _ ≤ _ + (1 : Int); omega) (by have := h.2; show _ + (1 : Int) ≤ _; omega)
theorem day1 (h : dayR d) : 0 ≤ d.toInt ∧ d.toInt ≤ 10000 := ⟨h.1, by have := h.2; omega⟩
theorem m_later (hA : okA (m_asked m)) (hN : okN (m_notch m) (m_notches m)) (hn : 20000 ≤ n) (h : dayR d) : F_X9_later n m d = some (laterM m d) := by
  unfold F_X9_later
  rw [m_up hA hN hn (by rw [next_I h]; have := h.1; have := h.2; omega), bindV, m_up hA hN hn (day1 h), bindV]
  rfl
theorem m_deg (hA : okA (m_asked m)) (hN : okN (m_notch m) (m_notches m)) (hn : 20000 ≤ n) (h : 0 ≤ d.toInt ∧ d.toInt ≤ 10000) : F_X9_degreeUp n m d = some (degM m d) := by
  unfold F_X9_degreeUp
  rw [m_way, bindV, m_over hA hN hn h, bindV]
  rfl
end MN
