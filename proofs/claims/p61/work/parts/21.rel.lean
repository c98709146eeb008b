/-! ===== how the class and its reference hold alike ===== -/
/-- the SKY LINE over the first k NOTCHES -/
def lnV (nt : Nat → Nat → Int32) (d : Int) : Nat → Int32
  | 0 => 0
  | k + 1 => if (nt k 0).toInt ≤ d ∧ d ≤ (nt k 1).toInt then (if nt k 2 ≤ lnV nt d k then lnV nt d k else nt k 2) else lnV nt d k
def okN (nt : Nat → Nat → Int32) (k : Int32) : Prop := (0 ≤ k.toInt ∧ k.toInt ≤ 8) ∧ ∀ i : Nat, (i : Int) < k.toInt → (0 ≤ (nt i 0).toInt ∧ (nt i 0).toInt ≤ (nt i 1).toInt ∧ (nt i 1).toInt ≤ 179) ∧ (0 ≤ (nt i 2).toInt ∧ (nt i 2).toInt ≤ 30)
def RN (h : HL) (nt : Nat → Nat → Int32) (k : Int32) : Prop := okN nt k ∧ (fw_n (hl_fr h) = k ∧ fw_n (hl_to h) = k ∧ fw_n (hl_he h) = k) ∧ (∀ i : Nat, (i : Int) < k.toInt → fw_it (hl_fr h) i = nt i 0 ∧ fw_it (hl_to h) i = nt i 1 ∧ fw_it (hl_he h) i = nt i 2) ∧ (∀ d : Nat, d < 180 → hl_ln h d = lnV nt d k.toInt.toNat)
def RF (f : FW) (rm lo hi : Int) (c : Int32) (g : Nat → Int32) : Prop := fw_n f = c ∧ (0 ≤ c.toInt ∧ c.toInt ≤ rm) ∧ ∀ i : Nat, (i : Int) < c.toInt → fw_it f i = g i ∧ lo ≤ (g i).toInt ∧ (g i).toInt ≤ hi
def okA (q : Nat → Int32) : Prop := (0 ≤ (q 0).toInt ∧ (q 0).toInt ≤ 9999) ∧ (0 ≤ (q 1).toInt ∧ (q 1).toInt ≤ 9999) ∧ (0 ≤ (q 2).toInt ∧ (q 2).toInt ≤ 9999) ∧ (0 ≤ (q 3).toInt ∧ (q 3).toInt ≤ 9)
def RA (a : ST) (q : Nat → Int32) : Prop := st_off a = q 0 ∧ st_node a = q 1 ∧ st_swing a = q 2 ∧ st_cloud a = q 3
def RSx (a : ST) (q : Nat → Int32) (k : Int32) (nt : Nat → Nat → Int32) (sk : Int32) (st : Nat → Int32) (ck : Int32) (cl : Nat → Int32) (td lk sd : Int32) : Prop := RA a q ∧ okA q ∧ RN (st_hill a) nt k ∧ RF (st_stones a) 6 0 179 sk st ∧ RF (st_clouds a) 8 0 9999 ck cl ∧ (st_today a = td ∧ 0 ≤ td.toInt ∧ td.toInt ≤ 9999) ∧ st_looks a = lk ∧ st_seed a = sd
abbrev RS (a : ST) (m : MS) : Prop := RSx a (m_asked m) (m_notches m) (m_notch m) (m_stones m) (m_stone m) (m_clouds m) (m_cloud m) (m_today m) (m_looks m) (m_seed m)
/-- a SHELF: what it is (0 NOTHING, 1 a ROW, 2 an EVENING), SORT, size, elements, KIND, DAY -/
def RH (s : SH) (w so sz : Int32) (el : Nat → Int64) (ki dy : Int32) : Prop :=
  (w = 0 ∧ sh_content s = -1) ∨
  (w = 1 ∧ sh_content s = so ∧ (0 ≤ so.toInt ∧ so.toInt ≤ 4) ∧ sh_size s = sz ∧ (0 ≤ sz.toInt ∧ sz.toInt ≤ 40) ∧ ∀ i : Nat, i < 40 → sh_el s i = el i) ∨
  (w = 2 ∧ sh_content s = 10 + ki ∧ (0 ≤ ki.toInt ∧ ki.toInt ≤ 5) ∧ sh_day s = dy ∧ (0 ≤ dy.toInt ∧ dy.toInt ≤ 9999))
def RHs (sh : Nat → SH) (w so sz : Nat → Int32) (el : Nat → Nat → Int64) (ki dy : Nat → Int32) : Prop := ∀ k : Nat, k < 8 → RH (sh k) (w k) (so k) (sz k) (el k) (ki k) (dy k)
def RT (t : TP) (by_ : Nat → Int32) (sz : Int32) : Prop := tp_size t = sz ∧ (0 ≤ sz.toInt ∧ sz.toInt ≤ 250) ∧ ∀ i : Nat, (i : Int) < sz.toInt → tp_by t i = by_ i ∧ 0 ≤ (by_ i).toInt ∧ (by_ i).toInt ≤ 255
def RR (r : Nat → Int32) (q : Nat → Int32) : Prop := ∀ i : Nat, i < 5 → r i = q (i + 2)
def RK (b : Bool) (a : ST) (mk : Option MS) : Prop := b = mk.isSome ∧ ∀ k, mk = some k → RS a k
def Rel (x : XS) (m : MS) (ka ta : Option Nat) (mk : Option MS) : Prop := RS (x_now x) m ∧ RHs (x_sh x) (m_shelf m) (m_rowSort m) (m_rowSize m) (m_rows m) (m_eveKind m) (m_eveDay m) ∧ RT (x_tape x) (m_tape m) (m_tapeSize m) ∧ RR (x_ref x) (m_refused m) ∧ RK (x_isKept x) (x_kept x) mk ∧ m_kept m = ka ∧ m_tried m = ta
/-- two calls' ends that are alike -/
def Ok (x : Option (Int32 × XS)) (y : Option (Int32 × MS)) (ka ta : Option Nat) (mk : Option MS) : Prop := ∃ r x' m', x = some (r, x') ∧ y = some (r, m') ∧ Rel x' m' ka ta mk
/-- both come to an end, and hold alike behind it -/
def Ok0 (x : Option (Int32 × XS)) (y : Option (Int32 × MS)) (ka ta : Option Nat) (mk : Option MS) : Prop := ∃ r r' x' m', x = some (r, x') ∧ y = some (r', m') ∧ Rel x' m' ka ta mk
theorem Ok.weak {x : Option (Int32 × XS)} {y : Option (Int32 × MS)} {ka ta : Option Nat} {mk : Option MS} (h : Ok x y ka ta mk) : Ok0 x y ka ta mk := by
  obtain ⟨r, x', m', h1, h2, h3⟩ := h
  exact ⟨r, r, x', m', h1, h2, h3⟩
theorem Ok.same {x : XS} {m : MS} {ka ta : Option Nat} {mk : Option MS} (h : Rel x m ka ta mk) (r : Int32) : Ok (some (r, x)) (some (r, m)) ka ta mk := ⟨r, x, m, rfl, rfl, h⟩
theorem Ok.eq {x : XS} {m : MS} {ka ta : Option Nat} {mk : Option MS} (h : Rel x m ka ta mk) {r r' : Int32} (e : r = r') : Ok (some (r, x)) (some (r', m)) ka ta mk := by subst e; exact Ok.same h r
section RL
variable {x : XS} {m : MS} {ka ta : Option Nat} {mk : Option MS} {n : Nat}
theorem ref_key {r q : Nat → Int32} (h : RR r q) (i : Nat) (hi : i < 5) : RR (upd r i (r i + 1)) (upd q (i + 2) (q (i + 2) + 1)) := by
  intro j hj
  unfold upd
  by_cases e : j = i
  · subst e
    rw [if_pos rfl, if_pos rfl, h j hj]
  · rw [if_neg e, if_neg (by omega)]
    exact h j hj
/-- a refusal: the number, and one more of them on both sides -/
theorem ref_ex (h : Rel x m ka ta mk) (r : Int32) (hr : r = -2 ∨ r = -3 ∨ r = -4 ∨ r = -5 ∨ r = -6) : ∃ x' m', F_X8_refuse n x r = some (r, x') ∧ F_X9_refuse n m r = some (r, m') ∧ Rel x' m' ka ta mk := by
  obtain ⟨h1, h2, h3, h4, h5, h6, h7⟩ := h
  unfold F_X8_refuse F_X9_refuse
  rcases hr with rfl | rfl | rfl | rfl | rfl
  · rw [if_neg (by decide), if_neg (by decide), gd_i (by decide) (by decide), gd_i (by decide) (by decide), gd_i (by decide) (by decide), gd_i (by decide) (by decide)]
    exact ⟨x_set_ref x (upd (x_ref x) 0 (x_ref x 0 + 1)), m_set_refused m (upd (m_refused m) 2 (m_refused m 2 + 1)), rfl, rfl, h1, h2, h3, ref_key h4 0 (by omega), h5, h6, h7⟩
  · rw [if_neg (by decide), if_neg (by decide), gd_i (by decide) (by decide), gd_i (by decide) (by decide), gd_i (by decide) (by decide), gd_i (by decide) (by decide)]
    exact ⟨x_set_ref x (upd (x_ref x) 1 (x_ref x 1 + 1)), m_set_refused m (upd (m_refused m) 3 (m_refused m 3 + 1)), rfl, rfl, h1, h2, h3, ref_key h4 1 (by omega), h5, h6, h7⟩
  · rw [if_neg (by decide), if_neg (by decide), gd_i (by decide) (by decide), gd_i (by decide) (by decide), gd_i (by decide) (by decide), gd_i (by decide) (by decide)]
    exact ⟨x_set_ref x (upd (x_ref x) 2 (x_ref x 2 + 1)), m_set_refused m (upd (m_refused m) 4 (m_refused m 4 + 1)), rfl, rfl, h1, h2, h3, ref_key h4 2 (by omega), h5, h6, h7⟩
  · rw [if_neg (by decide), if_neg (by decide), gd_i (by decide) (by decide), gd_i (by decide) (by decide), gd_i (by decide) (by decide), gd_i (by decide) (by decide)]
    exact ⟨x_set_ref x (upd (x_ref x) 3 (x_ref x 3 + 1)), m_set_refused m (upd (m_refused m) 5 (m_refused m 5 + 1)), rfl, rfl, h1, h2, h3, ref_key h4 3 (by omega), h5, h6, h7⟩
  · rw [if_neg (by decide), if_neg (by decide), gd_i (by decide) (by decide), gd_i (by decide) (by decide), gd_i (by decide) (by decide), gd_i (by decide) (by decide)]
    exact ⟨x_set_ref x (upd (x_ref x) 4 (x_ref x 4 + 1)), m_set_refused m (upd (m_refused m) 6 (m_refused m 6 + 1)), rfl, rfl, h1, h2, h3, ref_key h4 4 (by omega), h5, h6, h7⟩
theorem ref_ok (h : Rel x m ka ta mk) (r : Int32) (hr : r = -2 ∨ r = -3 ∨ r = -4 ∨ r = -5 ∨ r = -6) : Ok (F_X8_refuse n x r) (F_X9_refuse n m r) ka ta mk := by
  obtain ⟨x', m', h1, h2, h3⟩ := ref_ex (n := n) h r hr
  exact ⟨r, x', m', h1, h2, h3⟩
theorem ref_go (h : Rel x m ka ta mk) (r : Int32) (hr : r = -2 ∨ r = -3 ∨ r = -4 ∨ r = -5 ∨ r = -6) (K : Int32 × MS → Option (Int32 × MS)) : Ok (F_X8_refuse n x r) ((F_X9_refuse n m r).bind fun q => if q.1 = 0 then K q else some (q.1, q.2)) ka ta mk := by
  obtain ⟨x', m', h1, h2, h3⟩ := ref_ex (n := n) h r hr
  rw [h1, h2]
  show Ok (some (r, x')) (if r = 0 then K (r, m') else some (r, m')) ka ta mk
  rw [if_neg (by rcases hr with rfl | rfl | rfl | rfl | rfl <;> decide)]
  exact Ok.same h3 r
theorem far_ok (h : Rel x m ka ta mk) (r : Int32) (hr : r = -2 ∨ r = -3 ∨ r = -4 ∨ r = -5 ∨ r = -6) : Ok (F_X8_refuseFarBelow n x r) ((F_X9_refuse n m r).bind fun q => some (-1000000 + q.1, q.2)) ka ta mk := by
  obtain ⟨x', m', h1, h2, h3⟩ := ref_ex (n := n) h r hr
  unfold F_X8_refuseFarBelow
  rw [h1, h2]
  exact Ok.same h3 _
theorem bad (h : Rel x m ka ta mk) : Ok (F_X8_refuse n x (-2)) (F_X9_refuse n m (-2)) ka ta mk := ref_ok h _ (Or.inl rfl)
theorem other (h : Rel x m ka ta mk) : Ok (F_X8_refuse n x (-3)) (F_X9_refuse n m (-3)) ka ta mk := ref_ok h _ (Or.inr (Or.inl rfl))
theorem nothing (h : Rel x m ka ta mk) : Ok (F_X8_refuse n x (-4)) (F_X9_refuse n m (-4)) ka ta mk := ref_ok h _ (Or.inr (Or.inr (Or.inl rfl)))
theorem stuck (h : Rel x m ka ta mk) : Ok (F_X8_refuse n x (-5)) (F_X9_refuse n m (-5)) ka ta mk := ref_ok h _ (Or.inr (Or.inr (Or.inr (Or.inl rfl))))
theorem full (h : Rel x m ka ta mk) : Ok (F_X8_refuse n x (-6)) (F_X9_refuse n m (-6)) ka ta mk := ref_ok h _ (Or.inr (Or.inr (Or.inr (Or.inr rfl))))
theorem shelfAt_eq (p : Int32) : F_X8_shelfAt n x p = some (if 0 ≤ p.toInt ∧ p.toInt ≤ 7 then some p.toNatClampNeg else none) := by
  unfold F_X8_shelfAt
  rw [iLt, iLe, Int32.toInt_zero]
  show (if p.toInt < 0 then _ else (if (8 : Int) ≤ p.toInt then _ else _)) = _
  by_cases h1 : p.toInt < 0
  · rw [if_pos h1, if_neg (by omega)]
  · rw [if_neg h1]
    by_cases h2 : (8 : Int) ≤ p.toInt
    · rw [if_pos h2, if_neg (by omega)]
    · rw [if_neg h2, gd_i (by omega) (by omega), if_pos (by omega)]
end RL
