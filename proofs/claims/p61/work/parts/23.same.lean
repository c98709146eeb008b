/-! ===== the class's sums are the reference's ===== -/
section XM
variable {x : XS} {m : MS} {n : Nat} {d : Int32}
theorem x_age (h : RS (x_now x) m) (d : Int32) : F_X2_ageOf x d = ageM m d := by
  unfold F_X2_ageOf ageM
  rw [h.1.1]
theorem x_lit (h : RS (x_now x) m) (d : Int32) : F_X2_litOf x d = litM m d := by
  unfold F_X2_litOf litM
  rw [x_age h]
theorem x_out (h : RS (x_now x) m) (d : Int32) : F_X2_outOf x d = outM m d := by
  unfold F_X2_outOf outM
  rw [h.1.2.2.1]
theorem x_slant (h : RS (x_now x) m) (d : Int32) : F_X2_slantOf x d = slM m d := by
  unfold F_X2_slantOf slM wavM
  rw [x_out h, h.1.2.1]
theorem x_riseBy (a s : Int32) : F_X2_riseBy a s = F_X9_mod (360 + a * 1440 / 2953 - 3 * s) 1440 := floorMod_eq (by decide)
theorem x_rise (h : RS (x_now x) m) (d : Int32) : F_X2_riseOf x d = riseM m d := by
  unfold F_X2_riseOf riseM
  rw [x_riseBy, x_age h, x_slant h]
theorem x_way (h : RS (x_now x) m) (d : Int32) : F_X2_wayOf x d = wayM m d := by
  unfold F_X2_wayOf F_X2_wayBy wayM
  rw [x_slant h]
theorem x_line (h : RN (st_hill (x_now x)) (m_notch m) (m_notches m)) (p : Int32) : F_X1_lineAt n (st_hill (x_now x)) p = some (lineM m p.toInt) := by
  unfold F_X1_lineAt
  rw [iLt, iLe]
  by_cases h1 : p.toInt < (0 : Int32).toInt
  · rw [if_pos h1, lineM_out h.1 (Or.inl h1)]
  · rw [if_neg h1]
    replace h1 : ¬ p.toInt < 0 := h1
    by_cases h2 : (180 : Int32).toInt ≤ p.toInt
    · rw [if_pos h2]
      replace h2 : 180 ≤ p.toInt := h2
      rw [lineM_out h.1 (Or.inr (by omega))]
    · rw [if_neg h2]
      replace h2 : ¬ 180 ≤ p.toInt := h2
      have h5 := h.2.2.2 p.toInt.toNat (by omega)
      rw [gd_i (by omega) (by omega), nat_toInt, h5]
      unfold lineM
      rw [Int.toNat_of_nonneg (by omega)]
theorem x_over_L (hA : okA (m_asked m)) (hN : RN (st_hill (x_now x)) (m_notch m) (m_notches m)) (h : 0 ≤ d.toInt ∧ d.toInt ≤ 10000) : ∀ (kf : Nat) (v : Int32), 0 ≤ v.toInt → v.toInt % 4 = 0 → v.toInt ≤ (ovM m d).toInt → 150 < v.toInt + kf → F_X1_overFrom_L6 n (st_hill (x_now x)) (wayM m d) 150 kf v = some (ovM m d)
  | 0, v, h0, h1, h2, h3 => by
    obtain ⟨-, o1, o2, o3, o4⟩ := ov_spec hN.1 d
    omega
  | kf + 1, v, h0, h1, h2, h3 => by
    obtain ⟨-, o1, o2, o3, o4⟩ := ov_spec hN.1 d
    have hw := way_b hA h
    have e4 : (v / 4).toInt = v.toInt / 4 := tD h0 (by decide)
    have ew : (wayM m d + v / 4).toInt = (wayM m d).toInt + v.toInt / 4 := by rw [tA (by rw [e4]; omega) (by rw [e4]; omega), e4]
    have hl := lineM_r hN.1 ((wayM m d).toInt + v.toInt / 4)
    have ea : (v + 4).toInt = v.toInt + 4 := tA (by show _ ≤ _ + (4 : Int); omega) (by show _ + (4 : Int) ≤ _; omega)
    unfold F_X1_overFrom_L6
    rw [iLt]
    rw [if_neg (by show ¬ (150 : Int) < _; omega), x_line hN, bindV, ew]
    have e5 : (5 * lineM m ((wayM m d).toInt + v.toInt / 4)).toInt = 5 * (lineM m ((wayM m d).toInt + v.toInt / 4)).toInt := tM (by show _ ≤ (5 : Int) * _; omega) (by show (5 : Int) * _ ≤ _; omega)
    have em := max_I v (5 * lineM m ((wayM m d).toInt + v.toInt / 4))
    rw [e5] at em
    generalize F_J9_max_7cf53 v (5 * lineM m ((wayM m d).toInt + v.toInt / 4)) = c at em ⊢
    rw [iLe, ea]
    by_cases hc : v.toInt + 4 ≤ c.toInt
    · rw [if_pos hc]
      have hstep : v.toInt + 4 ≤ (ovM m d).toInt := by
        by_cases q : (ovM m d).toInt < v.toInt + 4
        · exfalso
          have e : (ovM m d).toInt / 4 = v.toInt / 4 := by omega
          rw [e] at o3
          omega
        · omega
      exact x_over_L hA hN h kf (v + 4) (by omega) (by omega) (by omega) (by omega)
    · rw [if_neg hc]
      have e : c.toInt / 4 = v.toInt / 4 := by omega
      refine congrArg some (Int32.toInt_inj.mp ?_)
      rcases Int.lt_or_le c.toInt (ovM m d).toInt with q | q
      · exact absurd (by rw [e]; omega) (o4 c.toInt (by omega) q)
      · rcases Int.lt_or_le (ovM m d).toInt c.toInt with r | r
        · exfalso
          have e2 : (ovM m d).toInt / 4 = v.toInt / 4 := by omega
          rw [e2] at o3
          omega
        · omega
theorem x_overFrom (hR : RS (x_now x) m) (hn : 20000 ≤ n) (h : 0 ≤ d.toInt ∧ d.toInt ≤ 10000) : F_X1_overFrom n (st_hill (x_now x)) (wayM m d) = some (ovM m d) := by
  obtain ⟨-, o1, -, -, -⟩ := ov_spec hR.2.2.1.1 d
  exact x_over_L hR.2.1 hR.2.2.1 h n 0 (by decide) (by decide) o1 (by show 150 < (0 : Int) + _; omega)
theorem x_over (hR : RS (x_now x) m) (hn : 20000 ≤ n) (h : 0 ≤ d.toInt ∧ d.toInt ≤ 10000) : F_X2_overOf n x d = some (ovM m d) := by
  unfold F_X2_overOf
  rw [x_way hR, x_overFrom hR hn h, bindV]
theorem x_up (hR : RS (x_now x) m) (hn : 20000 ≤ n) (h : 0 ≤ d.toInt ∧ d.toInt ≤ 10000) : F_X2_upOf n x d = some (upM m d) := by
  have hw : F_X2_wayBy (F_X2_slantOf x d) = wayM m d := x_way hR d
  have hr : F_X2_riseBy (F_X2_ageOf x d) (F_X2_slantOf x d) = riseM m d := x_rise hR d
  unfold F_X2_upOf
  rw [hw, x_overFrom hR hn h, bindV, hr]
  rfl
theorem x_later (hR : RS (x_now x) m) (hn : 20000 ≤ n) (h : dayR d) (h9 : d.toInt < 9999) : F_X2_laterOf n x d = some (laterM m d) := by
  unfold F_X2_laterOf
  rw [iLt, if_pos (show d.toInt < (9999 : Int32).toInt from h9), x_up hR hn (by rw [next_I h]; have := h.1; omega), bindV, x_up hR hn (day1 h), bindV, floorMod_eq (by decide)]
  rfl
theorem x_later9 (h9 : ¬ d.toInt < 9999) : F_X2_laterOf n x d = some 0 := by
  unfold F_X2_laterOf
  rw [iLt, if_neg (show ¬ d.toInt < (9999 : Int32).toInt from h9)]
theorem x_deg (hR : RS (x_now x) m) (hn : 20000 ≤ n) (h : 0 ≤ d.toInt ∧ d.toInt ≤ 10000) : F_X2_degreeOf n x d = some (degM m d) := by
  unfold F_X2_degreeOf
  rw [x_way hR, x_overFrom hR hn h, bindV]
  rfl
/-! SHINES -/
def shI (u f t : Int) : Int := max (min t (u + 599) - max f u + 1) 0 + max (min t (u - 841) - f + 1) 0
def shM (m : MS) (d f t : Int32) : Int32 := Int32.ofInt (shI (upM m d).toInt f.toInt t.toInt)
def minR (f t : Int32) : Prop := 0 ≤ f.toInt ∧ f.toInt ≤ t.toInt ∧ t.toInt ≤ 1439
theorem mnL {a b : Int} (h : a ≤ b) : min a b = a := by omega
theorem mnR {a b : Int} (h : b ≤ a) : min a b = b := by omega
theorem mxL {a b : Int} (h : b ≤ a) : max a b = a := by omega
theorem mxR {a b : Int} (h : a ≤ b) : max a b = b := by omega
theorem mn_b {a b lo hi : Int} (h1 : lo ≤ a) (h2 : lo ≤ b) (h3 : a ≤ hi) : lo ≤ min a b ∧ min a b ≤ hi := by omega
theorem mx_b {a b lo hi : Int} (h1 : lo ≤ a) (h2 : a ≤ hi) (h3 : b ≤ hi) : lo ≤ max a b ∧ max a b ≤ hi := by omega
theorem mx_c {a b lo hi : Int} (h1 : lo ≤ b) (h2 : a ≤ hi) (h3 : b ≤ hi) : lo ≤ max a b ∧ max a b ≤ hi := by omega
theorem shI_b {u f t : Int} (h1 : 0 ≤ f) (h2 : f ≤ t + 1) (h3 : t ≤ 1439) : 0 ≤ shI u f t ∧ shI u f t ≤ 1440 := by
  have p1 : min t (u + 599) ≤ t := by omega
  have q1 : f ≤ max f u := by omega
  have q2 : u ≤ max f u := by omega
  have r1 : min t (u - 841) ≤ t := by omega
  have r2 : min t (u - 841) ≤ u - 841 := by omega
  unfold shI
  generalize min t (u + 599) = p at p1 ⊢
  generalize max f u = q at q1 q2 ⊢
  generalize min t (u - 841) = r at r1 r2 ⊢
  omega
theorem shI_0 {u f v : Int} (hu : 0 ≤ u ∧ u ≤ 1439) (f0 : 0 ≤ f) (hf : f ≤ v) (hv : v ≤ 1439) (c : 600 ≤ (v - u) % 1440) : shI u f (v - 1) = shI u f v := by
  have a : u + 600 ≤ v ∨ (u - 840 ≤ v ∧ v ≤ u - 1) := by omega
  clear c
  unfold shI
  rcases a with a | ⟨a, b⟩
  · rw [mnR (show u + 599 ≤ v - 1 by omega), mnR (show u + 599 ≤ v by omega), mnR (show u - 841 ≤ v - 1 by omega), mnR (show u - 841 ≤ v by omega)]
  · rw [mnR (show u - 841 ≤ v - 1 by omega), mnR (show u - 841 ≤ v by omega), mnL (show v - 1 ≤ u + 599 by omega), mnL (show v ≤ u + 599 by omega), mxR (show f ≤ u by omega), mxR (show v - 1 - u + 1 ≤ 0 by omega), mxR (show v - u + 1 ≤ 0 by omega)]
theorem shI_1 {u f v : Int} (hu : 0 ≤ u ∧ u ≤ 1439) (f0 : 0 ≤ f) (hf : f ≤ v) (hv : v ≤ 1439) (c : ¬ 600 ≤ (v - u) % 1440) : shI u f (v - 1) + 1 = shI u f v := by
  have a : (u ≤ v ∧ v ≤ u + 599) ∨ v ≤ u - 841 := by omega
  clear c
  unfold shI
  rcases a with ⟨a, b⟩ | a
  · have g : max f u ≤ v := by omega
    rw [mnL (show v - 1 ≤ u + 599 by omega), mnL (show v ≤ u + 599 by omega), mnR (show u - 841 ≤ v - 1 by omega), mnR (show u - 841 ≤ v by omega)]
    generalize max f u = w at g ⊢
    rw [mxL (show 0 ≤ v - 1 - w + 1 by omega), mxL (show 0 ≤ v - w + 1 by omega)]
    generalize max (u - 841 - f + 1) 0 = z
    omega
  · rw [mnL (show v - 1 ≤ u + 599 by omega), mnL (show v ≤ u + 599 by omega), mnL (show v - 1 ≤ u - 841 by omega), mnL (show v ≤ u - 841 by omega), mxR (show f ≤ u by omega), mxR (show v - 1 - u + 1 ≤ 0 by omega), mxR (show v - u + 1 ≤ 0 by omega), mxL (show 0 ≤ v - 1 - f + 1 by omega), mxL (show 0 ≤ v - f + 1 by omega)]
    omega
theorem shM_I {f t : Int32} (hN : okN (m_notch m) (m_notches m)) (hm : minR f t) : (shM m d f t).toInt = shI (upM m d).toInt f.toInt t.toInt := by
  have hu := up_b (d := d) hN
  obtain ⟨h1, h2, h3⟩ := hm
  have hb := shI_b (u := (upM m d).toInt) h1 (by omega : f.toInt ≤ t.toInt + 1) h3
  exact Int32.toInt_ofInt_of_le (by omega) (by omega)
theorem shM_b {f t : Int32} (hN : okN (m_notch m) (m_notches m)) (hm : minR f t) : 0 ≤ (shM m d f t).toInt ∧ (shM m d f t).toInt ≤ 1440 := by
  rw [shM_I hN hm]
  obtain ⟨h1, h2, h3⟩ := hm
  exact shI_b h1 (by omega) h3
theorem m_shines_L (hN : okN (m_notch m) (m_notches m)) {f t : Int32} (hm : minR f t) : ∀ (kf : Nat) (w v : Int32), f.toInt ≤ v.toInt → v.toInt ≤ t.toInt + 1 → t.toInt + 1 < v.toInt + kf → w.toInt = shI (upM m d).toInt f.toInt (v.toInt - 1) → F_X9_shinesIn_L13 n m d f t (upM m d) kf w v = some (shM m d f t)
  | 0, w, v, h1, h2, h3, h4 => by omega
  | kf + 1, w, v, h1, h2, h3, h4 => by
    have hu := up_b (d := d) hN
    have hs := shM_I (d := d) hN hm
    obtain ⟨q1, q2, q3⟩ := hm
    unfold F_X9_shinesIn_L13
    rw [iLt]
    by_cases c : t.toInt < v.toInt
    · rw [if_pos c]
      refine congrArg some (Int32.toInt_inj.mp ?_)
      rw [hs, h4, show v.toInt - 1 = t.toInt by omega]
    · rw [if_neg c]
      have e1 : (v + 1).toInt = v.toInt + 1 := tA (by show _ ≤ _ + (1 : Int); omega) (by show _ + (1 : Int) ≤ _; omega)
      have es : (v - upM m d).toInt = v.toInt - (upM m d).toInt := tS (by omega) (by omega)
      have em : (F_X9_mod (v - upM m d) 1440).toInt = (v.toInt - (upM m d).toInt) % 1440 := by rw [tMod (by decide), es]; rfl
      rw [iLe, em]
      have hw : 0 ≤ w.toInt ∧ w.toInt ≤ 1440 := by rw [h4]; exact shI_b q1 (by omega) (by omega)
      by_cases c2 : (600 : Int32).toInt ≤ (v.toInt - (upM m d).toInt) % 1440
      · rw [if_pos c2]
        replace c2 : 600 ≤ (v.toInt - (upM m d).toInt) % 1440 := c2
        have e0 : (w + 0).toInt = w.toInt := by rw [Int32.add_zero]
        refine m_shines_L hN ⟨q1, q2, q3⟩ kf _ _ (by omega) (by omega) (by omega) ?_
        rw [e0, e1, h4, show v.toInt + 1 - 1 = v.toInt by omega]
        exact shI_0 hu q1 h1 (by omega) c2
      · rw [if_neg c2]
        replace c2 : ¬ 600 ≤ (v.toInt - (upM m d).toInt) % 1440 := c2
        have e0 : (w + 1).toInt = w.toInt + 1 := tA (by show _ ≤ _ + (1 : Int); omega) (by show _ + (1 : Int) ≤ _; omega)
        refine m_shines_L hN ⟨q1, q2, q3⟩ kf _ _ (by omega) (by omega) (by omega) ?_
        rw [e0, e1, h4, show v.toInt + 1 - 1 = v.toInt by omega]
        exact shI_1 hu q1 h1 (by omega) c2
theorem m_shines (hA : okA (m_asked m)) (hN : okN (m_notch m) (m_notches m)) (hn : 20000 ≤ n) (h : 0 ≤ d.toInt ∧ d.toInt ≤ 10000) {f t : Int32} (hm : minR f t) : F_X9_shinesIn n m d f t = some (shM m d f t) := by
  have hu := up_b (d := d) hN
  unfold F_X9_shinesIn
  rw [m_up hA hN hn h, bindV]
  have hm' := hm
  obtain ⟨q1, q2, q3⟩ := hm'
  exact m_shines_L hN hm n 0 f (by omega) (by omega) (by omega) (by show (0 : Int) = _; unfold shI; omega)
theorem x_shinesFrom (hN : okN (m_notch m) (m_notches m)) {f t : Int32} (hm : minR f t) : F_X2_shinesFrom (upM m d) f t = shM m d f t := by
  have hu := up_b (d := d) hN
  have hs := shM_I (d := d) hN hm
  obtain ⟨q1, q2, q3⟩ := hm
  refine Int32.toInt_inj.mp ?_
  rw [hs]
  unfold F_X2_shinesFrom
  generalize upM m d = u at hu ⊢
  have a1 : (u + 600).toInt = u.toInt + 600 := tA (by show _ ≤ _ + (600 : Int); omega) (by show _ + (600 : Int) ≤ _; omega)
  have a2 : (u + 600 - 1).toInt = u.toInt + 599 := by rw [tS (by rw [a1]; show _ ≤ _ - (1 : Int); omega) (by rw [a1]; show _ - (1 : Int) ≤ _; omega), a1]; show _ - (1 : Int) = _; omega
  have a3 : (u + 600 - 1 - 1440).toInt = u.toInt - 841 := by rw [tS (by rw [a2]; show _ ≤ _ - (1440 : Int); omega) (by rw [a2]; show _ - (1440 : Int) ≤ _; omega), a2]; show _ - (1440 : Int) = _; omega
  have b1 := min_I t (u + 600 - 1)
  have b2 := max_I f u
  have b3 := min_I t (u + 600 - 1 - 1440)
  rw [a2] at b1
  rw [a3] at b3
  generalize F_J9_min_7cf53 t (u + 600 - 1) = p at b1 ⊢
  generalize F_J9_max_7cf53 f u = q at b2 ⊢
  generalize F_J9_min_7cf53 t (u + 600 - 1 - 1440) = r at b3 ⊢
  have p1 : 0 ≤ p.toInt ∧ p.toInt ≤ 1439 := by rw [b1]; exact mn_b (by omega) (by omega) (by omega)
  have p2 : 0 ≤ q.toInt ∧ q.toInt ≤ 1439 := by rw [b2]; exact mx_b (by omega) (by omega) (by omega)
  have p3 : -841 ≤ r.toInt ∧ r.toInt ≤ 1439 := by rw [b3]; exact mn_b (by omega) (by omega) (by omega)
  have c1 : (p - q).toInt = p.toInt - q.toInt := tS (by omega) (by omega)
  have c2 : (p - q + 1).toInt = p.toInt - q.toInt + 1 := by rw [tA (by rw [c1]; show _ ≤ _ + (1 : Int); omega) (by rw [c1]; show _ + (1 : Int) ≤ _; omega), c1]; rfl
  have c3 : (r - f).toInt = r.toInt - f.toInt := tS (by omega) (by omega)
  have c4 : (r - f + 1).toInt = r.toInt - f.toInt + 1 := by rw [tA (by rw [c3]; show _ ≤ _ + (1 : Int); omega) (by rw [c3]; show _ + (1 : Int) ≤ _; omega), c3]; rfl
  have d1 := max_I (p - q + 1) 0
  have d2 := max_I (r - f + 1) 0
  rw [c2, Int32.toInt_zero] at d1
  rw [c4, Int32.toInt_zero] at d2
  generalize F_J9_max_7cf53 (p - q + 1) 0 = y at d1 ⊢
  generalize F_J9_max_7cf53 (r - f + 1) 0 = z at d2 ⊢
  have p4 : 0 ≤ y.toInt ∧ y.toInt ≤ 1440 := by rw [d1]; exact mx_c (by omega) (by omega) (by omega)
  have p5 : 0 ≤ z.toInt ∧ z.toInt ≤ 1440 := by rw [d2]; exact mx_c (by omega) (by omega) (by omega)
  rw [tA (by omega) (by omega)]
  unfold shI
  rw [d1, d2, b1, b2, b3]
theorem x_shines (hR : RS (x_now x) m) (hn : 20000 ≤ n) (h : 0 ≤ d.toInt ∧ d.toInt ≤ 10000) {f t : Int32} (hm : minR f t) : F_X2_shinesOf n x d f t = some (shM m d f t) := by
  unfold F_X2_shinesOf
  rw [x_up hR hn h, bindV, x_shinesFrom hR.2.2.1.1 hm]
def liM (m : MS) (d f t : Int32) : Int32 := shM m d f t * litM m d / 100
theorem m_light (hA : okA (m_asked m)) (hN : okN (m_notch m) (m_notches m)) (hn : 20000 ≤ n) (h : 0 ≤ d.toInt ∧ d.toInt ≤ 10000) {f t : Int32} (hm : minR f t) : F_X9_lightIn n m d f t = some (liM m d f t) := by
  unfold F_X9_lightIn
  rw [m_shines hA hN hn h hm, bindV, m_lit, bindV]
  rfl
theorem x_light (hR : RS (x_now x) m) (hn : 20000 ≤ n) (h : 0 ≤ d.toInt ∧ d.toInt ≤ 10000) {f t : Int32} (hm : minR f t) : F_X2_lightOf n x d f t = some (liM m d f t) := by
  unfold F_X2_lightOf
  rw [x_up hR hn h, bindV, x_shinesFrom hR.2.2.1.1 hm, x_lit hR]
  rfl
theorem li_b (hA : okA (m_asked m)) (hN : okN (m_notch m) (m_notches m)) (h : 0 ≤ d.toInt ∧ d.toInt ≤ 10000) {f t : Int32} (hm : minR f t) : 0 ≤ (liM m d f t).toInt ∧ (liM m d f t).toInt ≤ 1440 := by
  have hs := shM_b (d := d) hN hm
  have hl := lit_b hA h
  have p0 : 0 ≤ (shM m d f t).toInt * (litM m d).toInt := Int.mul_nonneg hs.1 hl.1
  have p1 : (shM m d f t).toInt * (litM m d).toInt ≤ (shM m d f t).toInt * 100 := Int.mul_le_mul_of_nonneg_left hl.2 hs.1
  have e : (shM m d f t * litM m d).toInt = (shM m d f t).toInt * (litM m d).toInt := tM (by omega) (by omega)
  unfold liM
  rw [tD (by rw [e]; omega) (by decide), e]
  show 0 ≤ _ / (100 : Int) ∧ _ / (100 : Int) ≤ 1440
  omega
/-! BEHIND -/
def behF (L : Int32) (nt : Nat → Nat → Int32) (p : Int) : Nat → Nat → Int32
  | 0, _ => -1
  | f + 1, i => if nt i 2 = L ∧ (nt i 0).toInt ≤ p ∧ p ≤ (nt i 1).toInt then Int32.ofInt i else behF L nt p f (i + 1)
def behM (m : MS) (d : Int32) : Int32 := if (ovM m d).toInt = 0 then -1 else behF (lineM m ((wayM m d).toInt + ((ovM m d).toInt - 1) / 4)) (m_notch m) ((wayM m d).toInt + ((ovM m d).toInt - 1) / 4) (m_notches m).toInt.toNat 0
theorem behF_none (L : Int32) (nt : Nat → Nat → Int32) (p : Int) : ∀ (f i : Nat), (∀ j : Nat, i ≤ j → j < i + f → ¬ (nt j 2 = L ∧ (nt j 0).toInt ≤ p ∧ p ≤ (nt j 1).toInt)) → behF L nt p f i = -1
  | 0, i, _ => rfl
  | f + 1, i, h => by
    unfold behF
    rw [if_neg (h i (Nat.le_refl _) (by omega))]
    exact behF_none L nt p f (i + 1) fun j h1 h2 => h j (by omega) (by omega)
theorem m_beh_L (hN : okN (m_notch m) (m_notches m)) (d' o p L : Int32) : ∀ (f i : Nat) (kf : Nat) (v : Int32), v.toInt = i → (m_notches m).toInt = i + f → f < kf → (∃ j : Nat, i ≤ j ∧ (j : Int) < (m_notches m).toInt ∧ m_notch m j 2 = L ∧ (m_notch m j 0).toInt ≤ p.toInt ∧ p.toInt ≤ (m_notch m j 1).toInt) → F_X9_behindOf_L34 n m d' o p L kf v = some (behF L (m_notch m) p.toInt f i) := by
  intro f
  have hc := hN.1
  induction f with
  | zero =>
    intro i kf v h1 h2 h3 h4
    obtain ⟨j, j1, j2, -⟩ := h4
    omega
  | succ f ih =>
    intro i kf v h1 h2 h3 h4
    cases kf with
    | zero => omega
    | succ kf =>
      have hv : v.toNatClampNeg = i := by rw [nat_toInt, h1]; omega
      have hv2 : (v + 1).toInt = ((i + 1 : Nat) : Int) := by
        rw [tA (by rw [h1]; show _ ≤ _ + (1 : Int); omega) (by rw [h1]; show _ + (1 : Int) ≤ _; omega), h1]
        rfl
      have g8 : inb v 8 = true := inb_t (by omega) (by rw [h1]; omega)
      have hvi : v = Int32.ofInt i := by rw [← h1, Int32.ofInt_toInt]
      unfold F_X9_behindOf_L34 behF
      rw [g8, hv]
      show (if m_notch m i 2 = L then bf (F_X9_in (Int32.toInt64 p) (Int32.toInt64 (m_notch m i 0)) (Int32.toInt64 (m_notch m i 1))) (some v) (F_X9_behindOf_L34 n m d' o p L kf (v + 1)) else F_X9_behindOf_L34 n m d' o p L kf (v + 1)) = _
      have rest : ¬ (m_notch m i 2 = L ∧ (m_notch m i 0).toInt ≤ p.toInt ∧ p.toInt ≤ (m_notch m i 1).toInt) → F_X9_behindOf_L34 n m d' o p L kf (v + 1) = some (behF L (m_notch m) p.toInt f (i + 1)) := by
        intro hno
        refine ih (i + 1) kf (v + 1) hv2 (by omega) (by omega) ?_
        obtain ⟨j, j1, j2, j3⟩ := h4
        by_cases e : j = i
        · subst e; exact absurd j3 hno
        · exact ⟨j, by omega, j2, j3⟩
      rw [in_eq, Int32.toInt_toInt64, Int32.toInt_toInt64, Int32.toInt_toInt64, bf_d]
      by_cases c1 : m_notch m i 2 = L
      · rw [if_pos c1]
        by_cases c2 : (m_notch m i 0).toInt ≤ p.toInt ∧ p.toInt ≤ (m_notch m i 1).toInt
        · rw [if_pos c2, if_pos ⟨c1, c2⟩, hvi]
        · rw [if_neg c2, if_neg (fun q => c2 q.2)]
          exact rest (fun q => c2 q.2)
      · rw [if_neg c1, if_neg (fun q => c1 q.1)]
        exact rest (fun q => c1 q.1)
theorem beh_at (hA : okA (m_asked m)) (hN : okN (m_notch m) (m_notches m)) (h : 0 ≤ d.toInt ∧ d.toInt ≤ 10000) (h0 : ¬ (ovM m d).toInt = 0) : (wayM m d + (ovM m d - 1) / 4).toInt = (wayM m d).toInt + ((ovM m d).toInt - 1) / 4 := by
  have hw := way_b hA h
  obtain ⟨-, o1, o2, -, -⟩ := ov_spec hN d
  have e1 : (ovM m d - 1).toInt = (ovM m d).toInt - 1 := tS (by show _ ≤ _ - (1 : Int); omega) (by show _ - (1 : Int) ≤ _; omega)
  have e4 : ((ovM m d - 1) / 4).toInt = ((ovM m d).toInt - 1) / 4 := by rw [tD (by rw [e1]; omega) (by decide), e1]; rfl
  rw [tA (by rw [e4]; omega) (by rw [e4]; omega), e4]
theorem beh_made (hN : okN (m_notch m) (m_notches m)) (h0 : ¬ (ovM m d).toInt = 0) : ∃ j : Nat, (j : Int) < (m_notches m).toInt ∧ m_notch m j 2 = lineM m ((wayM m d).toInt + ((ovM m d).toInt - 1) / 4) ∧ (m_notch m j 0).toInt ≤ (wayM m d).toInt + ((ovM m d).toInt - 1) / 4 ∧ (wayM m d).toInt + ((ovM m d).toInt - 1) / 4 ≤ (m_notch m j 1).toInt := by
  have hc := hN.1
  obtain ⟨-, o1, o2, o3, o4⟩ := ov_spec hN d
  have h1 := o4 ((ovM m d).toInt - 1) (by omega) (by omega)
  obtain ⟨j, j1, j2, j3, j4⟩ := lnV_made hN (d := (wayM m d).toInt + ((ovM m d).toInt - 1) / 4) (m_notches m).toInt.toNat (by omega) (by unfold lineM at h1; omega)
  exact ⟨j, by omega, j4, j2, j3⟩
theorem m_behind (hA : okA (m_asked m)) (hN : okN (m_notch m) (m_notches m)) (hn : 20000 ≤ n) (h : 0 ≤ d.toInt ∧ d.toInt ≤ 10000) : F_X9_behindOf n m d = some (behM m d) := by
  have hc := hN.1
  obtain ⟨-, o1, o2, -, -⟩ := ov_spec hN d
  have e1 : (ovM m d - 1).toInt = (ovM m d).toInt - 1 := tS (by show _ ≤ _ - (1 : Int); omega) (by show _ - (1 : Int) ≤ _; omega)
  unfold F_X9_behindOf behM
  rw [m_over hA hN hn h, bindV, iLe, e1, Int32.toInt_zero]
  by_cases h0 : (ovM m d).toInt = 0
  · rw [if_pos h0, if_neg (by omega)]
  · have ha := beh_at hA hN h h0
    rw [if_neg h0, if_pos (by omega), m_way, bindV, m_line hN hn, bindV, ha]
    obtain ⟨j, j1, j2, j3, j4⟩ := beh_made hN h0
    have := m_beh_L (n := n) hN d (ovM m d - 1) (wayM m d + (ovM m d - 1) / 4) (lineM m ((wayM m d).toInt + ((ovM m d).toInt - 1) / 4)) (m_notches m).toInt.toNat 0 n 0 rfl (by omega) (by omega) ⟨j, by omega, j1, j2, by rw [ha]; exact j3, by rw [ha]; exact j4⟩
    rw [ha] at this
    exact this
theorem few_at {f : FW} {rm : Nat} {lo hi : Int} {c : Int32} {g : Nat → Int32} (hF : RF f rm lo hi c g) {p : Int32} (h0 : 0 ≤ p.toInt) (h1 : p.toInt < c.toInt) (hr : rm < 2147483648) : F_X0_at n rm f p = some (g p.toInt.toNat) := by
  obtain ⟨e, hc, hi'⟩ := hF
  have er : (Int32.ofNat rm).toInt = rm := Int32.toInt_ofNat_of_lt hr
  unfold F_X0_at
  rw [iLt, iLe, iLe, e, er, Int32.toInt_zero, if_neg (by omega), if_neg (by omega), if_neg (by omega), gd_i (by omega) (by omega), nat_toInt, (hi' p.toInt.toNat (by omega)).1]
theorem notch_at {hl : HL} {nt : Nat → Nat → Int32} {k : Int32} (h : RN hl nt k) {p : Int32} (h0 : 0 ≤ p.toInt) (h1 : p.toInt < k.toInt) : F_X0_at n 8 (hl_fr hl) p = some (nt p.toInt.toNat 0) ∧ F_X0_at n 8 (hl_to hl) p = some (nt p.toInt.toNat 1) ∧ F_X0_at n 8 (hl_he hl) p = some (nt p.toInt.toNat 2) := by
  obtain ⟨hk, ⟨e1, e2, e3⟩, hi, -⟩ := h
  have hc := hk.1
  obtain ⟨q1, q2, q3⟩ := hi p.toInt.toNat (by omega)
  have e8 : (Int32.ofNat 8).toInt = 8 := rfl
  unfold F_X0_at
  refine ⟨?_, ?_, ?_⟩
  · rw [iLt, iLe, iLe, e1, e8, Int32.toInt_zero, if_neg (by omega), if_neg (by omega), if_neg (by omega), gd_i (by omega) (by omega), nat_toInt, q1]
  · rw [iLt, iLe, iLe, e2, e8, Int32.toInt_zero, if_neg (by omega), if_neg (by omega), if_neg (by omega), gd_i (by omega) (by omega), nat_toInt, q2]
  · rw [iLt, iLe, iLe, e3, e8, Int32.toInt_zero, if_neg (by omega), if_neg (by omega), if_neg (by omega), gd_i (by omega) (by omega), nat_toInt, q3]
theorem x_beh_L (hR : RN (st_hill (x_now x)) (m_notch m) (m_notches m)) (p : Int32) : ∀ (f i kf : Nat) (v : Int32), v.toInt = i → (m_notches m).toInt = i + f → f < kf → F_X1_makerOf_L2 n (st_hill (x_now x)) p kf v = some (behF (lineM m p.toInt) (m_notch m) p.toInt f i) := by
  intro f
  have hc := hR.1.1
  have ec : (F_X1_count (st_hill (x_now x))).toInt = (m_notches m).toInt := congrArg Int32.toInt hR.2.1.1
  induction f with
  | zero =>
    intro i kf v h1 h2 h3
    cases kf with
    | zero => omega
    | succ kf =>
      unfold F_X1_makerOf_L2 behF
      rw [iLe, ec, if_pos (by omega)]
  | succ f ih =>
    intro i kf v h1 h2 h3
    cases kf with
    | zero => omega
    | succ kf =>
      have hv2 : (v + 1).toInt = ((i + 1 : Nat) : Int) := by
        rw [tA (by rw [h1]; show _ ≤ _ + (1 : Int); omega) (by rw [h1]; show _ + (1 : Int) ≤ _; omega), h1]
        rfl
      have hvi : v = Int32.ofInt i := by rw [← h1, Int32.ofInt_toInt]
      obtain ⟨a1, a2, a3⟩ := notch_at (n := n) hR (p := v) (by omega) (by omega)
      rw [show v.toInt.toNat = i by omega] at a1 a2 a3
      unfold F_X1_makerOf_L2 behF
      rw [iLe, ec, if_neg (by omega), a1, bindV, a2, bindV, isIn_eq, bf_d, a3, bindV, x_line hR, bindV]
      have rest := ih (i + 1) kf (v + 1) hv2 (by omega) (by omega)
      by_cases c2 : (m_notch m i 0).toInt ≤ p.toInt ∧ p.toInt ≤ (m_notch m i 1).toInt
      · rw [if_pos c2]
        by_cases c1 : m_notch m i 2 = lineM m p.toInt
        · rw [if_pos c1, if_pos ⟨c1, c2⟩, hvi]
        · rw [if_neg c1, if_neg (fun q => c1 q.1)]
          exact rest
      · rw [if_neg c2, if_neg (fun q => c2 q.2)]
        exact rest
theorem x_behind (hR : RS (x_now x) m) (hn : 20000 ≤ n) (h : 0 ≤ d.toInt ∧ d.toInt ≤ 10000) : F_X2_behindOf n x d = some (behM m d) := by
  have hN := hR.2.2.1
  have hc := hN.1.1
  unfold F_X2_behindOf behM
  rw [x_way hR, x_overFrom hR hn h, bindV]
  by_cases h0 : (ovM m d).toInt = 0
  · rw [if_pos h0, if_pos (Int32.toInt_inj.mp h0)]
  · have ha := beh_at hR.2.1 hN.1 h h0
    rw [if_neg h0, if_neg (fun q => h0 (by rw [q]; rfl))]
    have := x_beh_L (n := n) hN (wayM m d + (ovM m d - 1) / 4) (m_notches m).toInt.toNat 0 n 0 rfl (by omega) (by omega)
    rw [ha] at this
    unfold F_X1_makerOf
    rw [this, bindV]
end XM
