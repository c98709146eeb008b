/-! ===== how it all stands ===== -/
theorem four {p : Int32} (h : 0 ≤ p.toInt ∧ p.toInt ≤ 3) : p = 0 ∨ p = 1 ∨ p = 2 ∨ p = 3 := by
  rw [eqI, eqI, eqI, eqI]
  show p.toInt = 0 ∨ p.toInt = 1 ∨ p.toInt = 2 ∨ p.toInt = 3
  omega
theorem lnV_same {nt nt' : Nat → Nat → Int32} (d : Int) : ∀ k : Nat, (∀ i : Nat, i < k → nt' i = nt i) → lnV nt' d k = lnV nt d k
  | 0, _ => rfl
  | k + 1, h => by
    have ih := lnV_same (nt := nt) (nt' := nt') d k fun i hi => h i (by omega)
    unfold lnV
    rw [ih, h k (by omega)]
def nt3 (nt : Nat → Nat → Int32) (k : Nat) (a b c : Int32) : Nat → Nat → Int32 := va_up (va_up (va_up nt k (upd (nt k) 0 a)) k (upd (va_up nt k (upd (nt k) 0 a) k) 1 b)) k (upd (va_up (va_up nt k (upd (nt k) 0 a)) k (upd (va_up nt k (upd (nt k) 0 a) k) 1 b) k) 2 c)
theorem nt3_k (nt : Nat → Nat → Int32) (k : Nat) (a b c : Int32) : nt3 nt k a b c k 0 = a ∧ nt3 nt k a b c k 1 = b ∧ nt3 nt k a b c k 2 = c := by
  unfold nt3
  rw [up_s, up_s, up_s]
  exact ⟨rfl, rfl, rfl⟩
theorem nt3_o (nt : Nat → Nat → Int32) {k i : Nat} (a b c : Int32) (h : ¬ i = k) : nt3 nt k a b c i = nt i := by
  unfold nt3
  rw [up_o h, up_o h, up_o h]
theorem few_add {n rm : Nat} {f : FW} {v : Int32} (h0 : 0 ≤ (fw_n f).toInt) (h1 : (fw_n f).toInt < (rm : Int)) (hr : rm < 2147483648) : F_X0_add n rm f v = some (fw_set_n (fw_set_it f (upd (fw_it f) (fw_n f).toInt.toNat v)) (fw_n f + 1)) := by
  have er : (Int32.ofNat rm).toInt = rm := Int32.toInt_ofNat_of_lt hr
  unfold F_X0_add
  rw [iLt, iLe, er, Int32.toInt_zero, if_neg (by omega), if_neg (by omega), gd_i h0 h1]
  rfl
theorem hill_line (n : Nat) (a b c : Int32) (hb : b.toInt ≤ 179) : ∀ (kf : Nat) (v : Int32) (u : HL), 0 ≤ v.toInt → v.toInt ≤ 180 → 180 < v.toInt + kf → ∃ g, F_X1_add_L31 n a b c kf v u = some (hl_set_ln u g) ∧ ∀ d : Nat, d < 180 → g d = if v.toInt ≤ d ∧ (d : Int) ≤ b.toInt then F_J9_max_7cf53 (hl_ln u d) c else hl_ln u d
  | 0, v, u, h0, h1, h2 => by omega
  | kf + 1, v, u, h0, h1, h2 => by
    unfold F_X1_add_L31
    simp only [ltI, leI]
    by_cases c1 : b.toInt < v.toInt
    · rw [if_pos c1]
      exact ⟨hl_ln u, rfl, fun d hd => (if_neg (by omega)).symm⟩
    · rw [if_neg c1, if_neg (by show ¬ (180 : Int) ≤ _; omega), gd_i (by omega) (by omega), gd_i (by omega) (by omega), nat_toInt]
      have e1 : (v + 1).toInt = v.toInt + 1 := tA (by show _ ≤ _ + (1 : Int); omega) (by show _ + (1 : Int) ≤ _; omega)
      obtain ⟨g, e, hg⟩ := hill_line n a b c hb kf (v + 1) (hl_set_ln u (upd (hl_ln u) v.toInt.toNat (F_J9_max_7cf53 (hl_ln u v.toInt.toNat) c))) (by omega) (by omega) (by omega)
      refine ⟨g, e, fun d hd => ?_⟩
      rw [hg d hd, e1]
      show (if v.toInt + 1 ≤ (d : Int) ∧ (d : Int) ≤ b.toInt then F_J9_max_7cf53 (upd (hl_ln u) v.toInt.toNat (F_J9_max_7cf53 (hl_ln u v.toInt.toNat) c) d) c else upd (hl_ln u) v.toInt.toNat (F_J9_max_7cf53 (hl_ln u v.toInt.toNat) c) d) = _
      by_cases q : d = v.toInt.toNat
      · subst q
        rw [if_neg (by omega), if_pos (by omega), upd_s]
      · rw [upd_o q]
        by_cases q2 : v.toInt + 1 ≤ (d : Int) ∧ (d : Int) ≤ b.toInt
        · rw [if_pos q2, if_pos (by omega)]
        · rw [if_neg q2, if_neg (by omega)]
theorem hill_add {n : Nat} (hn : 20000 ≤ n) {hl : HL} {nt : Nat → Nat → Int32} {k : Int32} (h : RN hl nt k) (hk : k.toInt < 8) {a b c : Int32} (ha : 0 ≤ a.toInt ∧ a.toInt ≤ 179) (hb : a.toInt ≤ b.toInt ∧ b.toInt ≤ 179) (hc : 0 ≤ c.toInt ∧ c.toInt ≤ 30) : ∃ hl', F_X1_add n hl a b c = some hl' ∧ RN hl' (nt3 nt k.toInt.toNat a b c) (k + 1) ∧ F_X1_count hl' = k + 1 := by
  obtain ⟨ok, ⟨e1, e2, e3⟩, hi, hln⟩ := h
  have hk0 := ok.1
  have ek : (k + 1).toInt = k.toInt + 1 := tA (by show _ ≤ _ + (1 : Int); omega) (by show _ + (1 : Int) ≤ _; omega)
  have em : F_J9_max_7cf53 a 0 = a := Int32.toInt_inj.mp (by rw [max_I]; show max _ (0 : Int) = _; omega)
  obtain ⟨g, e, hg⟩ := hill_line n a b c hb.2 n a (hl_set_he (hl_set_to (hl_set_fr hl (fw_set_n (fw_set_it (hl_fr hl) (upd (fw_it (hl_fr hl)) k.toInt.toNat a)) (k + 1))) (fw_set_n (fw_set_it (hl_to hl) (upd (fw_it (hl_to hl)) k.toInt.toNat b)) (k + 1))) (fw_set_n (fw_set_it (hl_he hl) (upd (fw_it (hl_he hl)) k.toInt.toNat c)) (k + 1))) (by omega) (by omega) (by omega)
  refine ⟨hl_set_ln (hl_set_he (hl_set_to (hl_set_fr hl (fw_set_n (fw_set_it (hl_fr hl) (upd (fw_it (hl_fr hl)) k.toInt.toNat a)) (k + 1))) (fw_set_n (fw_set_it (hl_to hl) (upd (fw_it (hl_to hl)) k.toInt.toNat b)) (k + 1))) (fw_set_n (fw_set_it (hl_he hl) (upd (fw_it (hl_he hl)) k.toInt.toNat c)) (k + 1))) g, ?_, ?_, ?_⟩
  · unfold F_X1_add
    have a1 := few_add (n := n) (rm := 8) (f := hl_fr hl) (v := a) (by rw [e1]; omega) (by rw [e1]; omega) (by omega)
    have a2 := few_add (n := n) (rm := 8) (f := hl_to hl) (v := b) (by rw [e2]; omega) (by rw [e2]; omega) (by omega)
    have a3 := few_add (n := n) (rm := 8) (f := hl_he hl) (v := c) (by rw [e3]; omega) (by rw [e3]; omega) (by omega)
    rw [e1] at a1
    rw [e2] at a2
    rw [e3] at a3
    rw [a1, bindV]
    have a2' : F_X0_add n 8 (hl_to (hl_set_fr hl (fw_set_n (fw_set_it (hl_fr hl) (upd (fw_it (hl_fr hl)) k.toInt.toNat a)) (k + 1)))) b = _ := a2
    rw [a2', bindV]
    have a3' : F_X0_add n 8 (hl_he (hl_set_to (hl_set_fr hl (fw_set_n (fw_set_it (hl_fr hl) (upd (fw_it (hl_fr hl)) k.toInt.toNat a)) (k + 1))) (fw_set_n (fw_set_it (hl_to hl) (upd (fw_it (hl_to hl)) k.toInt.toNat b)) (k + 1)))) c = _ := a3
    rw [a3', bindV, em]
    exact e
  · have hsame : ∀ i : Nat, i < k.toInt.toNat → nt3 nt k.toInt.toNat a b c i = nt i := fun i hi => nt3_o nt a b c (by omega)
    obtain ⟨n0, n1, n2⟩ := nt3_k nt k.toInt.toNat a b c
    refine ⟨⟨by omega, fun i hik => ?_⟩, ⟨rfl, rfl, rfl⟩, fun i hik => ?_, fun d hd => ?_⟩
    · by_cases q : i = k.toInt.toNat
      · rw [q, n0, n1, n2]; omega
      · rw [nt3_o nt a b c q]
        exact ok.2 i (by omega)
    · show upd (fw_it (hl_fr hl)) k.toInt.toNat a i = _ ∧ upd (fw_it (hl_to hl)) k.toInt.toNat b i = _ ∧ upd (fw_it (hl_he hl)) k.toInt.toNat c i = _
      by_cases q : i = k.toInt.toNat
      · rw [q, n0, n1, n2, upd_s, upd_s, upd_s]; exact ⟨rfl, rfl, rfl⟩
      · rw [nt3_o nt a b c q, upd_o q, upd_o q, upd_o q]
        exact hi i (by omega)
    · have ed : (k + 1).toInt.toNat = k.toInt.toNat + 1 := by omega
      show g d = _
      rw [hg d hd, ed]
      unfold lnV
      rw [n0, n1, n2, lnV_same (d : Int) k.toInt.toNat hsame, ← hln d hd]
      show (if a.toInt ≤ (d : Int) ∧ (d : Int) ≤ b.toInt then F_J9_max_7cf53 (hl_ln hl d) c else hl_ln hl d) = _
      by_cases q : a.toInt ≤ (d : Int) ∧ (d : Int) ≤ b.toInt
      · rw [if_pos q, if_pos q]
        unfold F_J9_max_7cf53
        by_cases z : c ≤ hl_ln hl d
        · rw [if_pos z, if_neg (fun w => by rw [ltI] at w; rw [leI] at z; omega)]
        · rw [if_neg z, if_pos (by rw [ltI]; rw [leI] at z; omega)]
      · rw [if_neg q, if_neg q]
  · rfl
theorem m_add {n : Nat} {m : MS} (h0 : 0 ≤ (m_notches m).toInt) (h1 : (m_notches m).toInt < 8) (a b c : Int32) : F_X9_addNotch n m a b c = some (m_set_notches (m_set_notch m (nt3 (m_notch m) (m_notches m).toInt.toNat a b c)) (m_notches m + 1)) := by
  have g8 : inb (m_notches m) 8 = true := inb_t h0 h1
  have e : F_X9_addNotch n m a b c = gd (inb (m_notches m) 8) (gd (inb 0 3) (gd (inb (m_notches m) 8) (gd (inb 1 3) (gd (inb (m_notches m) 8) (gd (inb 2 3) (some (m_set_notches (m_set_notch m (nt3 (m_notch m) (m_notches m).toInt.toNat a b c)) (m_notches m + 1)))))))) := rfl
  rw [e, g8, gd_t, gd_t, gd_t, gd_i (by decide) (by decide), gd_i (by decide) (by decide), gd_i (by decide) (by decide)]
def hasF (g : Nat → Int32) (p : Int32) : Nat → Nat → Bool
  | 0, _ => false
  | f + 1, i => if g i = p then true else hasF g p f (i + 1)
section ST1
variable {x : XS} {m : MS} {ka ta : Option Nat} {mk : Option MS} {n : Nat}
theorem has_x {f : FW} {c : Int32} {g : Nat → Int32} {lo hi : Int} (h : RF f 8 lo hi c g) (p : Int32) : ∀ (q i kf : Nat) (v : Int32), v.toInt = i → c.toInt = i + q → q < kf → F_X0_contains_L2 n 8 f p kf v = some (hasF g p q i) := by
  intro q
  have hc := h.2.1
  have ec : (fw_n f).toInt = c.toInt := congrArg Int32.toInt h.1
  induction q with
  | zero =>
    intro i kf v h1 h2 h3
    cases kf with
    | zero => omega
    | succ kf =>
      unfold F_X0_contains_L2 hasF
      rw [iLe, ec, if_pos (by omega)]
  | succ q ih =>
    intro i kf v h1 h2 h3
    cases kf with
    | zero => omega
    | succ kf =>
      have ha := few_at (n := n) (rm := 8) h (p := v) (by omega) (by omega) (by omega)
      rw [show v.toInt.toNat = i by omega] at ha
      unfold F_X0_contains_L2 hasF
      rw [iLe, ec, if_neg (by omega), ha, bindV]
      by_cases e : g i = p
      · rw [if_pos e, if_pos e]
      · rw [if_neg e, if_neg e]
        exact ih (i + 1) kf (v + 1) (suc_I h1 (by omega)) (by omega) (by omega)
theorem has_m (hc : 0 ≤ (m_clouds m).toInt ∧ (m_clouds m).toInt ≤ 8) (p : Int32) : ∀ (q i kf : Nat) (v : Int32), v.toInt = i → (m_clouds m).toInt = i + q → q < kf → F_X9_isCloud_L2 n m p kf v = some (hasF (m_cloud m) p q i) := by
  intro q
  induction q with
  | zero =>
    intro i kf v h1 h2 h3
    cases kf with
    | zero => omega
    | succ kf =>
      unfold F_X9_isCloud_L2 hasF
      rw [iLe, if_pos (by omega)]
  | succ q ih =>
    intro i kf v h1 h2 h3
    cases kf with
    | zero => omega
    | succ kf =>
      unfold F_X9_isCloud_L2 hasF
      rw [iLe, if_neg (by omega), gd_i (by omega) (by omega), nat_of h1]
      by_cases e : m_cloud m i = p
      · rw [if_pos e, if_pos e]
      · rw [if_neg e, if_neg e]
        exact ih (i + 1) kf (v + 1) (suc_I h1 (by omega)) (by omega) (by omega)
def hasM (m : MS) (p : Int32) : Bool := hasF (m_cloud m) p (m_clouds m).toInt.toNat 0
theorem x_has {a : ST} (h : RF (st_clouds a) 8 0 9999 (m_clouds m) (m_cloud m)) (hn : 20000 ≤ n) (p : Int32) : F_X0_contains n 8 (st_clouds a) p = some (hasM m p) := by
  have hc := h.2.1
  exact has_x h p (m_clouds m).toInt.toNat 0 n 0 rfl (by omega) (by omega)
theorem m_has (hc : 0 ≤ (m_clouds m).toInt ∧ (m_clouds m).toInt ≤ 8) (hn : 20000 ≤ n) (p : Int32) : F_X9_isCloud n m p = some (hasM m p) := has_m hc p (m_clouds m).toInt.toNat 0 n 0 rfl (by omega) (by omega)
theorem ok_ask (h : Rel x m ka ta mk) (p1 p2 : Int32) : Ok (F_X8_ask n x p1 p2) (F_X9_ask n m p1 p2) ka ta mk := by
  unfold F_X8_ask F_X9_ask
  simp only [bindE]
  rw [xIn p1 0 3 0 3 rfl rfl, mIn p1 0 3 0 3 rfl rfl, bf_d, bf_d, xIn p2 0 9 0 9 rfl rfl, mIn p2 0 9 0 9 rfl rfl, bf_d, bf_d, xIn p2 0 9999 0 9999 rfl rfl, mIn p2 0 9999 0 9999 rfl rfl, bf_d, bf_d]
  by_cases h1 : 0 ≤ p1.toInt ∧ p1.toInt ≤ 3
  · rw [if_pos h1, if_pos h1]
    have hR := h
    obtain ⟨⟨ra, oa, r1⟩, r2, r3, r4, r5, r6, r7⟩ := hR
    obtain ⟨a0, a1, a2, a3⟩ := ra
    obtain ⟨o0, o1, o2, o3⟩ := oa
    rcases four h1 with rfl | rfl | rfl | rfl
    · rw [if_neg (show ¬ (0 : Int32) = 3 by decide), if_neg (show ¬ (0 : Int32) = 3 by decide), gd_i (by decide) (by decide), gd_i (by decide) (by decide)]
      by_cases h2 : 0 ≤ p2.toInt ∧ p2.toInt ≤ 9999
      · rw [if_pos h2, if_pos h2]
        refine ⟨m_asked m 0, _, _, congrArg some (Prod.ext a0 rfl), rfl, ⟨⟨rfl, a1, a2, a3⟩, ⟨h2, o1, o2, o3⟩, r1⟩, r2, r3, r4, r5, r6, r7⟩
      · rw [if_neg h2, if_neg h2]; exact bad h
    · rw [if_neg (show ¬ (1 : Int32) = 3 by decide), if_neg (show ¬ (1 : Int32) = 3 by decide), gd_i (by decide) (by decide), gd_i (by decide) (by decide)]
      by_cases h2 : 0 ≤ p2.toInt ∧ p2.toInt ≤ 9999
      · rw [if_pos h2, if_pos h2]
        refine ⟨m_asked m 1, _, _, congrArg some (Prod.ext a1 rfl), rfl, ⟨⟨a0, rfl, a2, a3⟩, ⟨o0, h2, o2, o3⟩, r1⟩, r2, r3, r4, r5, r6, r7⟩
      · rw [if_neg h2, if_neg h2]; exact bad h
    · rw [if_neg (show ¬ (2 : Int32) = 3 by decide), if_neg (show ¬ (2 : Int32) = 3 by decide), gd_i (by decide) (by decide), gd_i (by decide) (by decide)]
      by_cases h2 : 0 ≤ p2.toInt ∧ p2.toInt ≤ 9999
      · rw [if_pos h2, if_pos h2]
        refine ⟨m_asked m 2, _, _, congrArg some (Prod.ext a2 rfl), rfl, ⟨⟨a0, a1, rfl, a3⟩, ⟨o0, o1, h2, o3⟩, r1⟩, r2, r3, r4, r5, r6, r7⟩
      · rw [if_neg h2, if_neg h2]; exact bad h
    · rw [if_pos rfl, if_pos rfl, gd_i (by decide) (by decide), gd_i (by decide) (by decide)]
      by_cases h2 : 0 ≤ p2.toInt ∧ p2.toInt ≤ 9
      · rw [if_pos h2, if_pos h2]
        refine ⟨m_asked m 3, _, _, congrArg some (Prod.ext a3 rfl), rfl, ⟨⟨a0, a1, a2, rfl⟩, ⟨o0, o1, o2, h2⟩, r1⟩, r2, r3, r4, r5, r6, r7⟩
      · rw [if_neg h2, if_neg h2]; exact bad h
  · rw [if_neg h1, if_neg h1]; exact bad h
theorem ok_notch (h : Rel x m ka ta mk) (hn : 20000 ≤ n) (p1 p2 p3 : Int32) : Ok (F_X8_notch n x p1 p2 p3) (F_X9_notch n m p1 p2 p3) ka ta mk := by
  unfold F_X8_notch F_X9_notch
  simp only [bindE]
  rw [xIn p1 0 179 0 179 rfl rfl, mIn p1 0 179 0 179 rfl rfl, bf_d, bf_d, xIn p2 p1 179 p1.toInt 179 rfl rfl, mIn p2 (Int32.toInt64 p1) 179 p1.toInt 179 (Int32.toInt_toInt64 p1) rfl, bf_d, bf_d, xIn p3 0 30 0 30 rfl rfl, mIn p3 0 30 0 30 rfl rfl, bf_d, bf_d]
  by_cases h1 : 0 ≤ p1.toInt ∧ p1.toInt ≤ 179
  · rw [if_pos h1, if_pos h1]
    by_cases h2 : p1.toInt ≤ p2.toInt ∧ p2.toInt ≤ 179
    · rw [if_pos h2, if_pos h2]
      by_cases h3 : 0 ≤ p3.toInt ∧ p3.toInt ≤ 30
      · rw [if_pos h3, if_pos h3]
        have hR := h
        obtain ⟨⟨ra, oa, rn, rest⟩, r2, r3, r4, r5, r6, r7⟩ := hR
        have hk := rn.1.1
        have ef : F_X1_isFull (st_hill (x_now x)) = decide ((m_notches m).toInt = 8) := by
          unfold F_X1_isFull F_X0_isFull
          rw [rn.2.1.1, iLt]
          by_cases q : (m_notches m).toInt = 8
          · rw [if_neg (by show ¬ _ < (8 : Int); omega), decide_eq_true q]
          · rw [if_pos (by show _ < (8 : Int); omega), decide_eq_false q]
        rw [ef, bf_d, iEq]
        by_cases q : (m_notches m).toInt = 8
        · rw [if_pos q, if_pos (show (m_notches m).toInt = (8 : Int32).toInt from q)]; exact full h
        · rw [if_neg q, if_neg (show ¬ (m_notches m).toInt = (8 : Int32).toInt from q), m_add hk.1 (by omega), bindV]
          obtain ⟨hl', e1, e2, e3⟩ := hill_add (n := n) hn rn (by omega) h1 h2 h3
          rw [e1, bindV]
          refine ⟨m_notches m + 1 - 1, _, _, congrArg some (Prod.ext ?_ rfl), rfl, ⟨ra, oa, e2, rest⟩, r2, r3, r4, r5, r6, r7⟩
          show F_X1_count hl' - 1 = _
          rw [e3]
      · rw [if_neg h3, if_neg h3]; exact bad h
    · rw [if_neg h2, if_neg h2]; exact bad h
  · rw [if_neg h1, if_neg h1]; exact bad h
theorem few_full {f : FW} {rm : Nat} {lo hi : Int} {c : Int32} {g : Nat → Int32} (h : RF f rm lo hi c g) (hr : rm < 2147483648) : F_X0_isFull rm f = decide (c.toInt = rm) := by
  have hc := h.2.1
  have er : (Int32.ofNat rm).toInt = rm := Int32.toInt_ofNat_of_lt hr
  unfold F_X0_isFull
  rw [h.1, iLt, er]
  by_cases q : c.toInt = rm
  · rw [if_neg (by omega), decide_eq_true q]
  · rw [if_pos (by omega), decide_eq_false q]
theorem RF_add {f : FW} {rm lo hi : Int} {c : Int32} {g : Nat → Int32} (h : RF f rm lo hi c g) (hr : rm < 1000) (hc : c.toInt < rm) {v : Int32} (hv : lo ≤ v.toInt ∧ v.toInt ≤ hi) : RF (fw_set_n (fw_set_it f (upd (fw_it f) c.toInt.toNat v)) (c + 1)) rm lo hi (c + 1) (upd g c.toInt.toNat v) := by
  obtain ⟨e, hc0, hi0⟩ := h
  have ek : (c + 1).toInt = c.toInt + 1 := tA (by show _ ≤ _ + (1 : Int); omega) (by show _ + (1 : Int) ≤ _; omega)
  refine ⟨rfl, by omega, fun i hi1 => ?_⟩
  show upd (fw_it f) c.toInt.toNat v i = _ ∧ _
  by_cases q : i = c.toInt.toNat
  · rw [q, upd_s, upd_s]; exact ⟨rfl, hv⟩
  · rw [upd_o q, upd_o q]; exact hi0 i (by omega)
theorem ok_stone (h : Rel x m ka ta mk) (p1 : Int32) : Ok (F_X8_stone n x p1) (F_X9_stone n m p1) ka ta mk := by
  unfold F_X8_stone F_X9_stone
  simp only [bindE]
  rw [xIn p1 0 179 0 179 rfl rfl, mIn p1 0 179 0 179 rfl rfl, bf_d, bf_d]
  by_cases h1 : 0 ≤ p1.toInt ∧ p1.toInt ≤ 179
  · rw [if_pos h1, if_pos h1]
    have hR := h
    obtain ⟨⟨ra, oa, rn, rs, rest⟩, r2, r3, r4, r5, r6, r7⟩ := hR
    have hc := rs.2.1
    rw [few_full (rm := 6) rs (by omega), bf_d, iEq]
    by_cases q : (m_stones m).toInt = 6
    · rw [if_pos (show (m_stones m).toInt = (6 : Int32).toInt from q), if_pos (show (m_stones m).toInt = ((6 : Nat) : Int) from q)]; exact full h
    · rw [if_neg (show ¬ (m_stones m).toInt = (6 : Int32).toInt from q), if_neg (show ¬ (m_stones m).toInt = ((6 : Nat) : Int) from q), gd_i hc.1 (by omega)]
      have ea := few_add (n := n) (rm := 6) (f := st_stones (x_now x)) (v := p1) (by rw [rs.1]; omega) (by rw [rs.1]; omega) (by omega)
      rw [rs.1] at ea
      rw [ea, bindV]
      refine ⟨m_stones m, _, _, congrArg some (Prod.ext ?_ rfl), rfl, ⟨ra, oa, rn, RF_add rs (by omega) (by omega) h1, rest⟩, r2, r3, r4, r5, r6, r7⟩
      show (m_stones m + 1) - 1 = _
      rw [Int32.add_sub_cancel]
  · rw [if_neg h1, if_neg h1]; exact bad h
theorem ok_cloud (h : Rel x m ka ta mk) (hn : 20000 ≤ n) (p1 : Int32) : Ok (F_X8_cloud n x p1) (F_X9_cloud n m p1) ka ta mk := by
  unfold F_X8_cloud F_X9_cloud
  simp only [bindE]
  rw [xDay, mDay, bf_d, bf_d]
  by_cases h1 : 0 ≤ p1.toInt ∧ p1.toInt ≤ 9999
  · rw [if_pos h1, if_pos h1]
    have hR := h
    obtain ⟨⟨ra, oa, rn, rs, rc, rest⟩, r2, r3, r4, r5, r6, r7⟩ := hR
    have hc := rc.2.1
    rw [x_has rc hn, m_has hc hn, bindV, bindV]
    cases hasM m p1
    · rw [bf_f, bf_f, few_full (rm := 8) rc (by omega), bf_d, iEq]
      by_cases q : (m_clouds m).toInt = 8
      · rw [if_pos (show (m_clouds m).toInt = (8 : Int32).toInt from q), if_pos (show (m_clouds m).toInt = ((8 : Nat) : Int) from q)]; exact full h
      · rw [if_neg (show ¬ (m_clouds m).toInt = (8 : Int32).toInt from q), if_neg (show ¬ (m_clouds m).toInt = ((8 : Nat) : Int) from q), gd_i hc.1 (by omega)]
        have ea := few_add (n := n) (rm := 8) (f := st_clouds (x_now x)) (v := p1) (by rw [rc.1]; omega) (by rw [rc.1]; omega) (by omega)
        rw [rc.1] at ea
        rw [ea, bindV]
        exact ⟨m_clouds m + 1, _, _, rfl, rfl, ⟨ra, oa, rn, rs, RF_add rc (by omega) (by omega) h1, rest⟩, r2, r3, r4, r5, r6, r7⟩
    · rw [bf_t, bf_t]; exact stuck h
  · rw [if_neg h1, if_neg h1]; exact bad h
theorem fillI (n N : Nat) (hN : N < 1000) : ∀ (kf i : Nat) (v : Int32) (f : Nat → Int32), v.toInt = i → i ≤ N → N < i + kf → ∃ g, F_J7_fill_53178_L5 n N 0 (Int32.ofNat N) kf v f = some g ∧ ∀ j, (j < i → g j = f j) ∧ (i ≤ j → j < N → g j = 0)
  | 0, i, v, f, h1, h2, h3 => by omega
  | kf + 1, i, v, f, h1, h2, h3 => by
    have er : (Int32.ofNat N).toInt = N := Int32.toInt_ofNat_of_lt (by omega)
    unfold F_J7_fill_53178_L5
    rw [iLe, h1, er]
    by_cases c : (N : Int) ≤ (i : Int)
    · rw [if_pos c]
      exact ⟨f, rfl, fun j => ⟨fun _ => rfl, fun a b => by omega⟩⟩
    · rw [if_neg c, gd_i (by omega) (by omega), nat_of h1]
      obtain ⟨g, e, hg⟩ := fillI n N hN kf (i + 1) (v + 1) (upd f i 0) (suc_I h1 (by omega)) (by omega) (by omega)
      refine ⟨g, e, fun j => ⟨fun a => ?_, fun a b => ?_⟩⟩
      · rw [(hg j).1 (by omega), upd_o (by omega)]
      · by_cases q : j = i
        · subst q
          rw [(hg j).1 (by omega), upd_s]
        · exact (hg j).2 (by omega) b
theorem hill_empty (hn : 20000 ≤ n) (hl : HL) (nt : Nat → Nat → Int32) : ∃ hl', F_X1_empty n hl = some hl' ∧ RN hl' nt 0 := by
  obtain ⟨g, e, hg⟩ := fillI n 180 (by omega) n 0 0 (hl_ln hl) rfl (by omega) (by omega)
  refine ⟨hl_set_ln (hl_set_he (hl_set_to (hl_set_fr hl (fw_set_n (hl_fr hl) 0)) (fw_set_n (hl_to hl) 0)) (fw_set_n (hl_he hl) 0)) g, ?_, ?_⟩
  · unfold F_X1_empty
    have e' : F_J7_fill_53178 n 180 (hl_ln (hl_set_he (hl_set_to (hl_set_fr hl (F_X0_empty 8 (hl_fr hl))) (F_X0_empty 8 (hl_to (hl_set_fr hl (F_X0_empty 8 (hl_fr hl)))))) (F_X0_empty 8 (hl_he (hl_set_to (hl_set_fr hl (F_X0_empty 8 (hl_fr hl))) (F_X0_empty 8 (hl_to (hl_set_fr hl (F_X0_empty 8 (hl_fr hl)))))))))) 0 = some g := e
    rw [e', bindV]
    rfl
  · refine ⟨⟨by decide, fun i hi => ?_⟩, ⟨rfl, rfl, rfl⟩, fun i hi => ?_, fun d hd => ?_⟩
    · replace hi : (i : Int) < 0 := hi
      omega
    · replace hi : (i : Int) < 0 := hi
      omega
    · show g d = 0
      exact (hg d).2 (by omega) hd
theorem RF_empty {f : FW} {rm lo hi : Int} {g : Nat → Int32} (hr : 0 ≤ rm) : RF (fw_set_n f 0) rm lo hi 0 g := ⟨rfl, ⟨by decide, by show (0 : Int) ≤ _; omega⟩, fun i hi => by replace hi : (i : Int) < 0 := hi; omega⟩
theorem three {p : Int32} (h : 0 ≤ p.toInt ∧ p.toInt ≤ 2) : p = 0 ∨ p = 1 ∨ p = 2 := by
  rw [eqI, eqI, eqI]
  show p.toInt = 0 ∨ p.toInt = 1 ∨ p.toInt = 2
  omega
theorem ok_clear (h : Rel x m ka ta mk) (hn : 20000 ≤ n) (p1 : Int32) : Ok (F_X8_clear n x p1) (F_X9_clear n m p1) ka ta mk := by
  have hR := h
  obtain ⟨⟨ra, oa, rn, rs, rc, rest⟩, r2, r3, r4, r5, r6, r7⟩ := hR
  by_cases h1 : 0 ≤ p1.toInt ∧ p1.toInt ≤ 2
  · rcases three h1 with rfl | rfl | rfl
    · have em : F_X9_clear n m 0 = some (m_notches m, m_set_clouds (m_set_stones (m_set_notches m 0) (m_stones m)) (m_clouds m)) := by
        unfold F_X9_clear
        rw [mIn 0 0 2 0 2 rfl rfl, bf_d, if_pos (by decide), if_pos rfl, if_pos rfl, if_neg (by decide), if_neg (by decide)]
      obtain ⟨hl', e1, e2⟩ := hill_empty (n := n) hn (st_hill (x_now x)) (m_notch m)
      have ex : F_X8_clear n x 0 = some (F_X1_count (st_hill (x_now x)), x_set_now x (st_set_hill (x_now x) hl')) := by
        unfold F_X8_clear
        rw [if_pos rfl, e1, bindV]
      rw [em, ex]
      exact ⟨m_notches m, _, _, congrArg some (Prod.ext rn.2.1.1 rfl), rfl, ⟨ra, oa, e2, rs, rc, rest⟩, r2, r3, r4, r5, r6, r7⟩
    · have em : F_X9_clear n m 1 = some (m_stones m, m_set_clouds (m_set_stones (m_set_notches m (m_notches m)) 0) (m_clouds m)) := by
        unfold F_X9_clear
        rw [mIn 1 0 2 0 2 rfl rfl, bf_d, if_pos (by decide), if_neg one_n0, if_pos rfl, if_neg one_n0, if_pos rfl, if_neg two_ne]
      have ex : F_X8_clear n x 1 = some (F_X0_count 6 (st_stones (x_now x)), x_set_now x (st_set_stones (x_now x) (F_X0_empty 6 (st_stones (x_now x))))) := by
        unfold F_X8_clear
        rw [if_neg one_n0, if_pos rfl]
      rw [em, ex]
      exact ⟨m_stones m, _, _, congrArg some (Prod.ext rs.1 rfl), rfl, ⟨ra, oa, rn, RF_empty (by omega), rc, rest⟩, r2, r3, r4, r5, r6, r7⟩
    · have em : F_X9_clear n m 2 = some (m_clouds m, m_set_clouds (m_set_stones (m_set_notches m (m_notches m)) (m_stones m)) 0) := by
        unfold F_X9_clear
        rw [mIn 2 0 2 0 2 rfl rfl, bf_d, if_pos (by decide), if_neg two_n0, if_neg two_n1, if_neg two_n0, if_neg two_n1, if_pos rfl]
      have ex : F_X8_clear n x 2 = some (F_X0_count 8 (st_clouds (x_now x)), x_set_now x (st_set_clouds (x_now x) (F_X0_empty 8 (st_clouds (x_now x))))) := by
        unfold F_X8_clear
        rw [if_neg two_n0, if_neg two_n1, if_pos rfl]
      rw [em, ex]
      exact ⟨m_clouds m, _, _, congrArg some (Prod.ext rc.1 rfl), rfl, ⟨ra, oa, rn, rs, RF_empty (by omega), rest⟩, r2, r3, r4, r5, r6, r7⟩
  · have em : F_X9_clear n m p1 = F_X9_refuse n m (-2) := by
      unfold F_X9_clear
      simp only [bindE]
      rw [mIn p1 0 2 0 2 rfl rfl, bf_d, if_neg h1]
    have ex : F_X8_clear n x p1 = F_X8_refuse n x (-2) := by
      unfold F_X8_clear
      simp only [bindE]
      rw [if_neg (fun q => h1 (by rw [q]; decide)), if_neg (fun q => h1 (by rw [q]; decide)), if_neg (fun q => h1 (by rw [q]; decide))]
    rw [em, ex]
    exact bad h
theorem ok_feed (h : Rel x m ka ta mk) (p1 : Int32) : Ok (F_X8_feed n x p1) (F_X9_feed n m p1) ka ta mk := by
  unfold F_X8_feed F_X9_feed
  simp only [bindE]
  rw [xIn p1 0 255 0 255 rfl rfl, mIn p1 0 255 0 255 rfl rfl, bf_d, bf_d]
  by_cases h1 : 0 ≤ p1.toInt ∧ p1.toInt ≤ 255
  · rw [if_pos h1, if_pos h1]
    have hR := h
    obtain ⟨r1, r2, ⟨e, hc, hi⟩, r4, r5, r6, r7⟩ := hR
    have ef : F_X7_isFull x = decide ((m_tapeSize m).toInt = 250) := by
      unfold F_X7_isFull
      rw [e, iLt]
      by_cases q : (m_tapeSize m).toInt = 250
      · rw [if_neg (by show ¬ _ < (250 : Int); omega), decide_eq_true q]
      · rw [if_pos (by show _ < (250 : Int); omega), decide_eq_false q]
    rw [ef, bf_d, iEq]
    by_cases q : (m_tapeSize m).toInt = 250
    · rw [if_pos q, if_pos (show (m_tapeSize m).toInt = (250 : Int32).toInt from q)]; exact full h
    · have ek : (m_tapeSize m + 1).toInt = (m_tapeSize m).toInt + 1 := tA (by show _ ≤ _ + (1 : Int); omega) (by show _ + (1 : Int) ≤ _; omega)
      rw [if_neg q, if_neg (show ¬ (m_tapeSize m).toInt = (250 : Int32).toInt from q), gd_i hc.1 (by omega)]
      have ea : F_X7_add n x p1 = some (x_set_tape x (tp_set_size (tp_set_by (x_tape x) (upd (tp_by (x_tape x)) (m_tapeSize m).toInt.toNat p1)) (m_tapeSize m + 1))) := by
        unfold F_X7_add
        rw [e, iLt, iLe, Int32.toInt_zero, if_neg (by omega), if_neg (by show ¬ (250 : Int) ≤ _; omega), gd_i hc.1 (by omega)]
        rfl
      rw [ea, bindV]
      refine ⟨m_tapeSize m + 1, _, _, rfl, rfl, r1, r2, ⟨rfl, ⟨by show 0 ≤ (m_tapeSize m + 1).toInt; omega, by show (m_tapeSize m + 1).toInt ≤ 250; omega⟩, fun i hi1 => ?_⟩, r4, r5, r6, r7⟩
      show upd (tp_by (x_tape x)) (m_tapeSize m).toInt.toNat p1 i = upd (m_tape m) (m_tapeSize m).toInt.toNat p1 i ∧ 0 ≤ (upd (m_tape m) (m_tapeSize m).toInt.toNat p1 i).toInt ∧ (upd (m_tape m) (m_tapeSize m).toInt.toNat p1 i).toInt ≤ 255
      replace hi1 : (i : Int) < (m_tapeSize m + 1).toInt := hi1
      by_cases z : i = (m_tapeSize m).toInt.toNat
      · rw [z, upd_s, upd_s]; exact ⟨rfl, h1⟩
      · rw [upd_o z, upd_o z]; exact hi i (by omega)
  · rw [if_neg h1, if_neg h1]; exact bad h
theorem ok_wipe (h : Rel x m ka ta mk) : (F_X8_wipe x).1 = (F_X9_wipe m).1 ∧ Rel (F_X8_wipe x).2 (F_X9_wipe m).2 ka ta mk := by
  obtain ⟨r1, r2, ⟨e, hc, hi⟩, r4, r5, r6, r7⟩ := h
  exact ⟨e, r1, r2, ⟨rfl, ⟨by show (0 : Int) ≤ 0; omega, by show (0 : Int) ≤ 250; omega⟩, fun i hi1 => by replace hi1 : (i : Int) < 0 := hi1; omega⟩, r4, r5, r6, r7⟩
theorem ok_seed (h : Rel x m ka ta mk) (p1 : Int32) : (F_X8_seed x p1).1 = (F_X9_seed m p1).1 ∧ Rel (F_X8_seed x p1).2 (F_X9_seed m p1).2 ka ta mk := by
  obtain ⟨⟨ra, oa, rn, rs, rc, rt, rl, rd⟩, r2, r3, r4, r5, r6, r7⟩ := h
  exact ⟨rd, ⟨ra, oa, rn, rs, rc, rt, rl, rfl⟩, r2, r3, r4, r5, r6, r7⟩
theorem ok_notchOf (h : Rel x m ka ta mk) (p1 p2 : Int32) : Ok (F_X8_notchOf n x p1 p2) (F_X9_notchOf n m p1 p2) ka ta mk := by
  have hR := h
  obtain ⟨⟨ra, oa, rn, rest⟩, -⟩ := hR
  have hk := rn.1.1
  have ek : (m_notches m - 1).toInt = (m_notches m).toInt - 1 := tS (by show _ ≤ _ - (1 : Int); omega) (by show _ - (1 : Int) ≤ _; omega)
  have ec : (F_X1_count (st_hill (x_now x)) - 1).toInt = (m_notches m).toInt - 1 := by
    have : F_X1_count (st_hill (x_now x)) = m_notches m := rn.2.1.1
    rw [this, ek]
  unfold F_X8_notchOf F_X9_notchOf
  simp only [bindE]
  rw [xIn p1 0 _ 0 _ rfl ec, mIn p1 0 _ 0 _ rfl (by rw [Int32.toInt_toInt64, ek]), bf_d, bf_d, xIn p2 0 2 0 2 rfl rfl, mIn p2 0 2 0 2 rfl rfl, bf_d, bf_d]
  by_cases h1 : 0 ≤ p1.toInt ∧ p1.toInt ≤ (m_notches m).toInt - 1
  · rw [if_pos h1, if_pos h1]
    by_cases h2 : 0 ≤ p2.toInt ∧ p2.toInt ≤ 2
    · rw [if_pos h2, if_pos h2, gd_i (by omega) (by omega), gd_i (by omega) (by omega), nat_toInt]
      obtain ⟨a1, a2, a3⟩ := notch_at (n := n) rn (p := p1) (by omega) (by omega)
      unfold F_X1_partOf
      rw [a1, a2, a3, bindV, bindV, bindV]
      rcases three h2 with rfl | rfl | rfl
      · rw [if_pos rfl, bindV]; exact Ok.same h _
      · rw [if_neg one_n0, if_pos rfl, bindV]; exact Ok.same h _
      · rw [if_neg two_n0, if_neg two_n1, bindV]; exact Ok.same h _
    · rw [if_neg h2, if_neg h2]; exact bad h
  · rw [if_neg h1, if_neg h1]; exact bad h
theorem ok_stoneOf (h : Rel x m ka ta mk) (p1 : Int32) : Ok (F_X8_stoneOf n x p1) (F_X9_stoneOf n m p1) ka ta mk := by
  have hR := h
  obtain ⟨⟨ra, oa, rn, rs, rest⟩, -⟩ := hR
  have hk := rs.2.1
  have ek : (m_stones m - 1).toInt = (m_stones m).toInt - 1 := tS (by show _ ≤ _ - (1 : Int); omega) (by show _ - (1 : Int) ≤ _; omega)
  have ec : (F_X0_count 6 (st_stones (x_now x)) - 1).toInt = (m_stones m).toInt - 1 := by
    have : F_X0_count 6 (st_stones (x_now x)) = m_stones m := rs.1
    rw [this, ek]
  unfold F_X8_stoneOf F_X9_stoneOf F_X8_isStone
  simp only [bindE]
  rw [xIn p1 0 _ 0 _ rfl ec, mIn p1 0 _ 0 _ rfl (by rw [Int32.toInt_toInt64, ek]), bf_d, bf_d]
  by_cases h1 : 0 ≤ p1.toInt ∧ p1.toInt ≤ (m_stones m).toInt - 1
  · rw [if_pos h1, if_pos h1, gd_i (by omega) (by omega), nat_toInt, few_at (rm := 6) rs (by omega) (by omega) (by omega), bindV]
    exact Ok.same h _
  · rw [if_neg h1, if_neg h1]; exact bad h
theorem ok_line (h : Rel x m ka ta mk) (hn : 20000 ≤ n) (p1 : Int32) : Ok (F_X8_line n x p1) (F_X9_line n m p1) ka ta mk := by
  unfold F_X8_line F_X9_line
  simp only [bindE]
  rw [xIn p1 0 999 0 999 rfl rfl, mIn p1 0 999 0 999 rfl rfl, bf_d, bf_d]
  by_cases h1 : 0 ≤ p1.toInt ∧ p1.toInt ≤ 999
  · rw [if_pos h1, if_pos h1, x_line h.1.2.2.1, bindV, m_line h.1.2.2.1.1 hn, bindV]
    exact Ok.same h _
  · rw [if_neg h1, if_neg h1]; exact bad h
theorem ok_told (h : Rel x m ka ta mk) (p1 p2 : Int32) : Ok (F_X8_told n x p1 p2) (F_X9_told n m p1 p2) ka ta mk := by
  unfold F_X8_told F_X9_told
  simp only [bindE]
  rw [xDay, mDay, bf_d, bf_d, xIn p2 0 2952 0 2952 rfl rfl, mIn p2 0 2952 0 2952 rfl rfl, bf_d, bf_d]
  by_cases h1 : 0 ≤ p1.toInt ∧ p1.toInt ≤ 9999
  · rw [if_pos h1, if_pos h1]
    by_cases h2 : 0 ≤ p2.toInt ∧ p2.toInt ≤ 2952
    · rw [if_pos h2, if_pos h2, gd_i (by decide) (by decide), gd_i (by decide) (by decide), floorMod_eq (by decide)]
      obtain ⟨⟨⟨a0, a1, a2, a3⟩, ⟨o0, o1, o2, o3⟩, r1⟩, r2, r3, r4, r5, r6, r7⟩ := h
      have hb : 0 ≤ (F_X9_mod (p2 - 100 * p1) 2953).toInt ∧ (F_X9_mod (p2 - 100 * p1) 2953).toInt ≤ 9999 := by
        rw [tMod (by decide)]
        show 0 ≤ _ % (2953 : Int) ∧ _ % (2953 : Int) ≤ 9999
        omega
      generalize F_X9_mod (p2 - 100 * p1) 2953 = v at hb ⊢
      exact ⟨v, _, _, rfl, rfl, ⟨⟨rfl, a1, a2, a3⟩, ⟨hb, o1, o2, o3⟩, r1⟩, r2, r3, r4, r5, r6, r7⟩
    · rw [if_neg h2, if_neg h2]; exact bad h
  · rw [if_neg h1, if_neg h1]; exact bad h
end ST1
