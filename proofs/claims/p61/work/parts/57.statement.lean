/-! ===== a SKY from THE TAPE: STATEMENTS ===== -/
abbrev RD (a : ST) (m : MS) (D : DR) : Prop := RSx a D.1 D.2.1 D.2.2.1 D.2.2.2.1 D.2.2.2.2.1 D.2.2.2.2.2.1 D.2.2.2.2.2.2 (m_today m) (m_looks m) (m_seed m)
/-- a STATEMENT is taken by both, or both stop at the same TOKEN -/
def SO (x : XS) (m : MS) (c b : Nat → Int32) (N s : Nat) (ss : Int32) (X : Option (Bool × XS)) (Y : Option (Bool × MS)) : Prop :=
  (∃ d D p v fl to, X = some (true, xT x d c b N p v) ∧ Y = some (true, mT m D b N (skp b N (enT b N p)) fl to ss) ∧ RD d m D ∧ s + 1 < p ∧ p < N) ∨
  (∃ d D p v a t f g to, X = some (false, xT x d c b N p v) ∧ Y = some (false, mD m D a t f g (nZ p) to ss) ∧ p ≤ N)
theorem bindB {α : Type} (o : Option (Bool × α)) : (o.bind fun r => bf r.1 (some (true, r.2)) (some (false, r.2))) = o := by
  cases o with
  | none => rfl
  | some r =>
    obtain ⟨a, q⟩ := r
    cases a <;> rfl
theorem RD_asked {d : ST} {m : MS} {D : DR} (h : RD d m D) {v : Int32} (hv : 0 ≤ v.toInt ∧ v.toInt ≤ 9999) {i : Int32} (hi : i = 0 ∨ i = 1 ∨ i = 2) : RD (F_X6_setAsked d i v) m (upd D.1 i.toNatClampNeg v, D.2) := by
  obtain ⟨⟨a0, a1, a2, a3⟩, ⟨o0, o1, o2, o3⟩, r⟩ := h
  unfold F_X6_setAsked
  rcases hi with rfl | rfl | rfl
  · rw [if_pos rfl]
    exact ⟨⟨rfl, a1, a2, a3⟩, ⟨hv, o1, o2, o3⟩, r⟩
  · rw [if_neg (by decide), if_pos rfl]
    exact ⟨⟨a0, rfl, a2, a3⟩, ⟨o0, hv, o2, o3⟩, r⟩
  · rw [if_neg (by decide), if_neg (by decide), if_pos rfl]
    exact ⟨⟨a0, a1, rfl, a3⟩, ⟨o0, o1, hv, o3⟩, r⟩
theorem RD_notch {n : Nat} {d : ST} {m : MS} {D : DR} (h : RD d m D) (hn : 20000 ≤ n) (hk : D.2.1.toInt < 8) {a b c : Int32} (ha : 0 ≤ a.toInt ∧ a.toInt ≤ 179) (hb : a.toInt ≤ b.toInt ∧ b.toInt ≤ 179) (hc : 0 ≤ c.toInt ∧ c.toInt ≤ 30) : ∃ hl', F_X1_add n (st_hill d) a b c = some hl' ∧ RD (st_set_hill d hl') m (D.1, D.2.1 + 1, nt3 D.2.2.1 D.2.1.toInt.toNat a b c, D.2.2.2) := by
  obtain ⟨ra, oa, rn, r⟩ := h
  obtain ⟨hl', e, h', -⟩ := hill_add (n := n) hn rn hk ha hb hc
  exact ⟨hl', e, ra, oa, h', r⟩
theorem RD_stone {n : Nat} {d : ST} {m : MS} {D : DR} (h : RD d m D) (hk : D.2.2.2.1.toInt < 6) {v : Int32} (hv : 0 ≤ v.toInt ∧ v.toInt ≤ 179) : ∃ f', F_X0_add n 6 (st_stones d) v = some f' ∧ RD (st_set_stones d f') m (D.1, D.2.1, D.2.2.1, D.2.2.2.1 + 1, upd D.2.2.2.2.1 D.2.2.2.1.toInt.toNat v, D.2.2.2.2.2) := by
  obtain ⟨ra, oa, rn, rs, r⟩ := h
  have h0 := rs.2.1
  have e := few_add (n := n) (rm := 6) (f := st_stones d) (v := v) (by rw [rs.1]; omega) (by rw [rs.1]; exact hk) (by omega)
  rw [rs.1] at e
  exact ⟨_, e, ra, oa, rn, RF_add rs (by omega) hk hv, r⟩
theorem RD_cloud {n : Nat} {d : ST} {m : MS} {D : DR} (h : RD d m D) (hk : D.2.2.2.2.2.1.toInt < 8) {v : Int32} (hv : 0 ≤ v.toInt ∧ v.toInt ≤ 9999) : ∃ f', F_X0_add n 8 (st_clouds d) v = some f' ∧ RD (st_set_clouds d f') m (D.1, D.2.1, D.2.2.1, D.2.2.2.1, D.2.2.2.2.1, D.2.2.2.2.2.1 + 1, upd D.2.2.2.2.2.2 D.2.2.2.2.2.1.toInt.toNat v) := by
  obtain ⟨ra, oa, rn, rs, rc, r⟩ := h
  have h0 := rc.2.1
  have e := few_add (n := n) (rm := 8) (f := st_clouds d) (v := v) (by rw [rc.1]; omega) (by rw [rc.1]; exact hk) (by omega)
  rw [rc.1] at e
  exact ⟨_, e, ra, oa, rn, rs, RF_add rc (by omega) hk hv, r⟩
section ST9
variable {x : XS} {d : ST} {n N s : Nat} {b c : Nat → Int32} {m : MS} {D : DR} {fl ss v : Int32} {to : Nat → Int32}
theorem xT_draft (x : XS) (d : ST) (c b : Nat → Int32) (N s : Nat) (v : Int32) : x_draft (xT x d c b N s v) = d := Eq.trans rfl rfl
theorem xT_value (x : XS) (d : ST) (c b : Nat → Int32) (N s : Nat) (v : Int32) : tp_value (x_tape (xT x d c b N s v)) = v := Eq.trans rfl rfl
theorem xT_set (x : XS) (d d' : ST) (c b : Nat → Int32) (N s : Nat) (v : Int32) : x_set_draft (xT x d c b N s v) d' = xT x d' c b N s v := Eq.trans rfl rfl
theorem m_wrong (m : MS) (D : DR) (b : Nat → Int32) (N s : Nat) (fl : Int32) (to : Nat → Int32) (ss : Int32) : F_X9_wrong (mT m D b N s fl to ss) = (false, mT m D b N s (nZ s) to ss) := by
  unfold F_X9_wrong mT
  rw [md_frm, mz_fault]
theorem m_tells (hN : N ≤ 250) (hn : 20000 ≤ n) (hz : m_tapeSize m = nZ N) (hb : m_tape m = b) (hs : s ≤ N) {s1 : Nat} (h1 : s1 = skp b N (enT b N s)) (hi : Int32) : F_X9_tells n (mT m D b N s fl to ss) hi = if numP b N s1 (0 : Int32).toInt hi.toInt then some (true, mT m D b N (skp b N (enT b N s1)) fl (upd to (Int32.toNatClampNeg 0) (figT b s1 (enT b N s1))) ss) else some (false, mT m D b N s1 (nZ s1) to ss) := by
  have e0 := en_b b hs
  have e1 := skp_b b e0.2.1
  rw [← h1] at e1
  have hl : F_X9_look n (mT m D b N s fl to ss) = some (mT m D b N (skp b N (enT b N s)) fl to ss) := m_look hN hn hz hb _ _ _ _ _ _ e0.2.1
  unfold F_X9_tells
  rw [hl, ← h1, bindV, bindE, m_num hN hn hz hb fl to ss e1.2 0 0 hi ⟨by decide, by decide⟩]
theorem no_SO {p : Nat} {d' : ST} {v' : Int32} {D' : DR} {to' : Nat → Int32} {p' : Nat} (hp : p ≤ N) : SO x m c b N s ss (some (false, xT x d' c b N p v')) (some (false, mT m D' b N p' (nZ p) to' ss)) := Or.inr ⟨d', D', p, v', _, _, _, _, _, rfl, rfl, hp⟩
theorem num_lt {p : Nat} {lo hi : Int} (h : numP b N p lo hi) : p < N := tk_lt b (by rw [h.1]; decide)
theorem ok_askedT (hc : TX c b N) (hN : N ≤ 250) (hn : 20000 ≤ n) (hz : m_tapeSize m = nZ N) (hb : m_tape m = b) (hs : s ≤ N) (h2 : s + 1 < enT b N s) (hR : RD d m D) {i : Int32} (hi : i = 0 ∨ i = 1 ∨ i = 2) : SO x m c b N s ss (F_X7_takeAsked n (xT x d c b N s v) i) (F_X9_askedTold n (mT m D b N s fl to ss) i) := by
  have e0 := en_b b hs
  generalize h1 : skp b N (enT b N s) = s1
  have e1 := skp_b b e0.2.1
  rw [h1] at e1
  obtain ⟨v', ex, ev⟩ := x_num (n := n) (x := x) (d := d) hc hN hn v 0 9999 (by decide) hs h1.symm
  have g4 : inb i 4 = true := by rcases hi with rfl | rfl | rfl <;> decide
  unfold F_X7_takeAsked F_X9_askedTold
  rw [ex, bindV, bf_d, m_tells hN hn hz hb hs h1.symm 9999]
  dsimp only
  by_cases q : numP b N s1 0 9999
  · have q' : numP b N s1 (0 : Int32).toInt (9999 : Int32).toInt := q
    have e3 := en_b b e1.2
    rw [if_pos q', if_pos q', bindV, bf_t, g4, gd_t, gd_i (by decide) (by decide), xT_draft, xT_value, xT_set, ev q']
    refine Or.inl ⟨F_X6_setAsked d i (figT b s1 (enT b N s1)), (upd D.1 i.toNatClampNeg (figT b s1 (enT b N s1)), D.2), s1, figT b s1 (enT b N s1), fl, upd to (Int32.toNatClampNeg 0) (figT b s1 (enT b N s1)), rfl, ?_, RD_asked hR q.2 hi, by omega, num_lt q⟩
    unfold mT
    rw [md_asked, md_told, upd_s, mz_asked]
  · have q' : ¬ numP b N s1 (0 : Int32).toInt (9999 : Int32).toInt := q
    rw [if_neg q', if_neg q', bindV, bf_f, g4, gd_t, gd_t]
    have eM : m_set_asked (mT m D b N s1 (nZ s1) to ss) (upd (m_asked (mT m D b N s1 (nZ s1) to ss)) i.toNatClampNeg (m_asked (mT m D b N s1 (nZ s1) to ss) i.toNatClampNeg)) = mT m (upd D.1 i.toNatClampNeg (D.1 i.toNatClampNeg), D.2) b N s1 (nZ s1) to ss := by
      unfold mT
      rw [md_asked, mz_asked]
    dsimp only
    rw [eM]
    exact no_SO e1.2
def stoneM (n : Nat) (s : MS) : Option (Bool × MS) := (((F_X9_tells n s (179 : Int32))).bind fun r38 => bf r38.1 (gd (inb (0 : Int32) 3) (gd (inb (m_stones r38.2) 6) (some (r38.1, (m_set_stone (m_set_stones r38.2 ((m_stones r38.2) + (1 : Int32))) (upd (m_stone (m_set_stones r38.2 ((m_stones r38.2) + (1 : Int32)))) (Int32.toNatClampNeg (m_stones r38.2)) ((m_told (m_set_stones r38.2 ((m_stones r38.2) + (1 : Int32)))) (Int32.toNatClampNeg (0 : Int32))))))))) (some (r38.1, r38.2)))
theorem ok_stoneT (hc : TX c b N) (hN : N ≤ 250) (hn : 20000 ≤ n) (hz : m_tapeSize m = nZ N) (hb : m_tape m = b) (hs : s ≤ N) (h2 : s + 1 < enT b N s) (hR : RD d m D) (hk : D.2.2.2.1.toInt < 6) : SO x m c b N s ss (F_X7_takeStone n (xT x d c b N s v)) (stoneM n (mT m D b N s fl to ss)) := by
  have e0 := en_b b hs
  generalize h1 : skp b N (enT b N s) = s1
  have e1 := skp_b b e0.2.1
  rw [h1] at e1
  obtain ⟨v', ex, ev⟩ := x_num (n := n) (x := x) (d := d) hc hN hn v 0 179 (by decide) hs h1.symm
  have hf := few_full (rm := 6) hR.2.2.2.1 (by omega)
  have h0 := hR.2.2.2.1.2.1
  have g6 : inb D.2.2.2.1 6 = true := inb_t h0.1 hk
  unfold F_X7_takeStone stoneM
  rw [xT_draft, hf, bf_d, if_neg (show ¬ D.2.2.2.1.toInt = ((6 : Nat) : Int) by omega), ex, bindV, bf_d, m_tells hN hn hz hb hs h1.symm 179]
  dsimp only
  by_cases q : numP b N s1 0 179
  · have q' : numP b N s1 (0 : Int32).toInt (179 : Int32).toInt := q
    obtain ⟨f', ef, hR'⟩ := RD_stone (n := n) hR hk q.2
    rw [if_pos q', if_pos q', bindV, bf_t, gd_i (by decide) (by decide), xT_draft, xT_value, ev q', ef, bindV, xT_set]
    refine Or.inl ⟨_, _, s1, figT b s1 (enT b N s1), fl, upd to (Int32.toNatClampNeg 0) (figT b s1 (enT b N s1)), rfl, ?_, hR', by omega, num_lt q⟩
    unfold mT
    simp only [md_stones, mz_stones, md_stone, md_told, mz_stone, g6, gd_t, upd_s]
    rfl
  · have q' : ¬ numP b N s1 (0 : Int32).toInt (179 : Int32).toInt := q
    rw [if_neg q', if_neg q', bindV, bf_f]
    exact no_SO e1.2
def notchM (n : Nat) (s : MS) : Option (Bool × MS) := (((F_X9_tells n s (179 : Int32))).bind fun r72 => bf r72.1 (gd (inb (0 : Int32) 3) ((((F_X9_number n r72.2 (1 : Int32) ((m_told r72.2) (Int32.toNatClampNeg (0 : Int32))) (179 : Int32))).bind fun r75 => bf r75.1 ((((F_X9_number n r75.2 (2 : Int32) (0 : Int32) (30 : Int32))).bind fun r77 => bf r77.1 (gd (inb (0 : Int32) 3) (gd (inb (1 : Int32) 3) (gd (inb (2 : Int32) 3) ((((F_X9_addNotch n r77.2 ((m_told r77.2) (Int32.toNatClampNeg (0 : Int32))) ((m_told r77.2) (Int32.toNatClampNeg (1 : Int32))) ((m_told r77.2) (Int32.toNatClampNeg (2 : Int32))))).bind fun r82 => some (true, r82)))))) (some (false, r77.2)))) (some (false, r75.2))))) (some (false, r72.2)))
theorem hill_full {hl : HL} {nt : Nat → Nat → Int32} {k : Int32} (h : RN hl nt k) : F_X1_isFull hl = decide (k.toInt = 8) := by
  have h0 := h.1.1
  unfold F_X1_isFull F_X0_isFull
  rw [h.2.1.1, iLt]
  show (if k.toInt < 8 then false else true) = _
  by_cases z : k.toInt < 8
  · rw [if_pos z]; exact (decide_eq_false (by omega)).symm
  · rw [if_neg z]; exact (decide_eq_true (by omega)).symm
theorem mT_told (m : MS) (D : DR) (b : Nat → Int32) (N s : Nat) (fl : Int32) (to : Nat → Int32) (ss : Int32) : m_told (mT m D b N s fl to ss) = to := Eq.trans rfl rfl
theorem ok_notchT (hc : TX c b N) (hN : N ≤ 250) (hn : 20000 ≤ n) (hz : m_tapeSize m = nZ N) (hb : m_tape m = b) (hs : s ≤ N) (h2 : s + 1 < enT b N s) (hR : RD d m D) (hk : D.2.1.toInt < 8) : SO x m c b N s ss (F_X7_takeNotch n (xT x d c b N s v)) (notchM n (mT m D b N s fl to ss)) := by
  have e0 := en_b b hs
  generalize h1 : skp b N (enT b N s) = s1
  have e1 := skp_b b e0.2.1
  rw [h1] at e1
  obtain ⟨v1, ex1, ev1⟩ := x_num (n := n) (x := x) (d := d) hc hN hn v 0 179 (by decide) hs h1.symm
  have hf := hill_full hR.2.2.1
  have h0 := hR.2.2.1.1.1
  unfold F_X7_takeNotch notchM
  rw [xT_draft, hf, bf_d, if_neg (show ¬ D.2.1.toInt = 8 by omega), ex1, bindV, bf_d, m_tells hN hn hz hb hs h1.symm 179]
  dsimp only
  by_cases q1 : numP b N s1 0 179
  · have q1' : numP b N s1 (0 : Int32).toInt (179 : Int32).toInt := q1
    have e2 := en_b b e1.2
    generalize h3 : skp b N (enT b N s1) = s2
    have e3 := skp_b b e2.2.1
    rw [h3] at e3
    obtain ⟨v2, ex2, ev2⟩ := x_num (n := n) (x := x) (d := d) hc hN hn v1 (figT b s1 (enT b N s1)) 179 (by decide) e1.2 h3.symm
    rw [if_pos q1', if_pos q1', bindV, bf_t, gd_i (by decide) (by decide), xT_value, ev1 q1', mT_told, upd_s, m_num hN hn hz hb _ _ _ e3.2 1 _ 179 ⟨by decide, by decide⟩]
    rw [ev1 q1'] at ex2
    rw [ex2, bindV, bf_d]
    dsimp only
    by_cases q2 : numP b N s2 (figT b s1 (enT b N s1)).toInt 179
    · have q2' : numP b N s2 (figT b s1 (enT b N s1)).toInt (179 : Int32).toInt := q2
      have e4 := en_b b e3.2
      generalize h5 : skp b N (enT b N s2) = s3
      have e5 := skp_b b e4.2.1
      rw [h5] at e5
      obtain ⟨v3, ex3, ev3⟩ := x_num (n := n) (x := x) (d := d) hc hN hn v2 0 30 (by decide) e3.2 h5.symm
      rw [if_pos q2', if_pos q2', bindV, bf_t, m_num hN hn hz hb _ _ _ e5.2 2 0 30 ⟨by decide, by decide⟩, ex3, bindV, bf_d]
      dsimp only
      by_cases q3 : numP b N s3 0 30
      · have q3' : numP b N s3 (0 : Int32).toInt (30 : Int32).toInt := q3
        obtain ⟨hl', eh, hR'⟩ := RD_notch (n := n) hR hn hk q1.2 q2.2 q3.2
        rw [if_pos q3', if_pos q3', bindV, bf_t, gd_i (by decide) (by decide), gd_i (by decide) (by decide), gd_i (by decide) (by decide), xT_draft, xT_value, xT_value, ev3 q3', ev2 q2', eh, bindV, xT_set, mT_told]
        have u0 : ∀ f1 f2 f3 : Int32, upd (upd (upd to (Int32.toNatClampNeg 0) f1) (Int32.toNatClampNeg 1) f2) (Int32.toNatClampNeg 2) f3 (Int32.toNatClampNeg 0) = f1 := fun f1 f2 f3 => by rw [upd_o (by decide), upd_o (by decide), upd_s]
        have u1 : ∀ f1 f2 f3 : Int32, upd (upd (upd to (Int32.toNatClampNeg 0) f1) (Int32.toNatClampNeg 1) f2) (Int32.toNatClampNeg 2) f3 (Int32.toNatClampNeg 1) = f2 := fun f1 f2 f3 => by rw [upd_o (by decide), upd_s]
        have hnn : ∀ (p : Nat) (fl : Int32) (to : Nat → Int32), m_notches (mT m D b N p fl to ss) = D.2.1 := fun p fl to => Eq.trans rfl rfl
        have hnt : ∀ (p : Nat) (fl : Int32) (to : Nat → Int32), m_notch (mT m D b N p fl to ss) = D.2.2.1 := fun p fl to => Eq.trans rfl rfl
        rw [u0, u1, upd_s, m_add (by rw [hnn]; exact h0.1) (by rw [hnn]; exact hk), bindV, hnn, hnt]
        refine Or.inl ⟨_, _, s3, _, fl, upd (upd (upd to (Int32.toNatClampNeg 0) (figT b s1 (enT b N s1))) (Int32.toNatClampNeg 1) (figT b s2 (enT b N s2))) (Int32.toNatClampNeg 2) (figT b s3 (enT b N s3)), rfl, ?_, hR', by omega, num_lt q3⟩
        unfold mT
        rw [mz_notch, mz_notches]
      · have q3' : ¬ numP b N s3 (0 : Int32).toInt (30 : Int32).toInt := q3
        rw [if_neg q3', if_neg q3', bindV, bf_f]
        exact no_SO e5.2
    · have q2' : ¬ numP b N s2 (figT b s1 (enT b N s1)).toInt (179 : Int32).toInt := q2
      rw [if_neg q2', if_neg q2', bindV, bf_f]
      exact no_SO e3.2
  · have q1' : ¬ numP b N s1 (0 : Int32).toInt (179 : Int32).toInt := q1
    rw [if_neg q1', if_neg q1', bindV, bf_f]
    exact no_SO e1.2
theorem ok_cloudT (hc : TX c b N) (hN : N ≤ 250) (hn : 20000 ≤ n) (hz : m_tapeSize m = nZ N) (hb : m_tape m = b) (hs : s ≤ N) (h2 : s + 1 < enT b N s) (hR : RD d m D) (hk : D.2.2.2.2.2.1.toInt < 8) : SO x m c b N s ss (F_X7_takeCloud n (xT x d c b N s v)) (F_X9_cloudTold n (mT m D b N s fl to ss)) := by
  have e0 := en_b b hs
  generalize h1 : skp b N (enT b N s) = s1
  have e1 := skp_b b e0.2.1
  rw [h1] at e1
  obtain ⟨v', ex, ev⟩ := x_num (n := n) (x := x) (d := d) hc hN hn v 0 9999 (by decide) hs h1.symm
  have rc := hR.2.2.2.2.1
  have hf := few_full (rm := 8) rc (by omega)
  have h0 := rc.2.1
  have g8 : inb D.2.2.2.2.2.1 8 = true := inb_t h0.1 hk
  have hl : F_X9_look n (mT m D b N s fl to ss) = some (mT m D b N s1 fl to ss) := by
    rw [← h1]
    exact m_look hN hn hz hb _ _ _ _ _ _ e0.2.1
  have hcn : ∀ (p : Nat) (fl : Int32) (to : Nat → Int32), m_clouds (mT m D b N p fl to ss) = D.2.2.2.2.2.1 := fun p fl to => Eq.trans rfl rfl
  have hcl : ∀ (p : Nat) (fl : Int32) (to : Nat → Int32), m_cloud (mT m D b N p fl to ss) = D.2.2.2.2.2.2 := fun p fl to => Eq.trans rfl rfl
  have htk : m_token (mT m D b N s1 fl to ss) = tkT b N s1 := Eq.trans rfl rfl
  have hfi : m_figures (mT m D b N s1 fl to ss) = gT b N s1 := Eq.trans rfl rfl
  have hN1 := m_num (m := m) (D := D) hN hn hz hb fl to ss e1.2 0 0 9999 ⟨by decide, by decide⟩
  have hM : ∀ p : Int32, F_X9_isCloud n (mT m D b N s1 fl to ss) p = some (hasM (mT m D b N s1 fl to ss) p) := fun p => m_has (m := mT m D b N s1 fl to ss) (by rw [hcn]; exact h0) hn p
  have hX : ∀ p : Int32, F_X0_contains n 8 (st_clouds d) p = some (hasM (mT m D b N s1 fl to ss) p) := fun p => x_has (m := mT m D b N s1 fl to ss) (a := d) (by rw [hcn, hcl]; exact rc) hn p
  unfold F_X7_takeCloud F_X9_cloudTold
  rw [xT_draft, hf, bf_d, if_neg (show ¬ D.2.2.2.2.2.1.toInt = ((8 : Nat) : Int) by omega), ex, bindV, bf_d, hl, bindV, htk, hfi, hM, bindV, hN1, m_wrong]
  dsimp only
  by_cases q : numP b N s1 0 9999
  · have q' : numP b N s1 (0 : Int32).toInt (9999 : Int32).toInt := q
    have eg : gT b N s1 = figT b s1 (enT b N s1) := by unfold gT; rw [if_pos q.1]
    rw [if_pos q', if_pos q', if_pos q.1, eg, xT_draft, xT_value, ev q', hX, bindV]
    cases hh : hasM (mT m D b N s1 fl to ss) (figT b s1 (enT b N s1))
    · obtain ⟨f', ef, hR'⟩ := RD_cloud (n := n) hR hk q.2
      rw [bf_f, bf_f, ef, bindV, bindV, bf_t, gd_i (by decide) (by decide), xT_set]
      refine Or.inl ⟨_, _, s1, figT b s1 (enT b N s1), fl, upd to (Int32.toNatClampNeg 0) (figT b s1 (enT b N s1)), rfl, ?_, hR', by omega, num_lt q⟩
      unfold mT
      simp only [md_clouds, mz_clouds, md_cloud, md_told, mz_cloud, g8, gd_t, upd_s]
      rfl
    · rw [bf_t, bf_t]
      exact no_SO e1.2
  · have q' : ¬ numP b N s1 (0 : Int32).toInt (9999 : Int32).toInt := q
    rw [if_neg q', if_neg q', bindV, bf_f, m_wrong]
    by_cases t : tkT b N s1 = 2
    · rw [if_pos t]
      cases hh : hasM (mT m D b N s1 fl to ss) (gT b N s1)
      · rw [bf_f]
        exact no_SO e1.2
      · rw [bf_t]
        exact no_SO e1.2
    · rw [if_neg t]
      exact no_SO e1.2
theorem ok_statement (hc : TX c b N) (hN : N ≤ 250) (hn : 20000 ≤ n) (hz : m_tapeSize m = nZ N) (hb : m_tape m = b) (hs : s ≤ N) (hR : RD d m D) : SO x m c b N s ss (F_X7_takeStatement n (xT x d c b N s v)) (F_X9_statement n (mT m D b N s fl to ss)) := by
  have X := fun w hw => isW_x (n := n) (x := x) (d := d) hc hN hn v hs w hw
  have M := fun w hw => isW_m (n := n) (m := m) (D := D) hN hn hb fl to ss hs w hw
  have hnn : m_notches (mT m D b N s fl to ss) = D.2.1 := Eq.trans rfl rfl
  have hsn : m_stones (mT m D b N s fl to ss) = D.2.2.2.1 := Eq.trans rfl rfl
  have hcn : m_clouds (mT m D b N s fl to ss) = D.2.2.2.2.2.1 := Eq.trans rfl rfl
  have k1 := hR.2.2.1.1.1
  have k2 := hR.2.2.2.1.2.1
  have k3 := hR.2.2.2.2.1.2.1
  have full1 := hill_full hR.2.2.1
  have full2 := few_full (rm := 6) hR.2.2.2.1 (by omega)
  have full3 := few_full (rm := 8) hR.2.2.2.2.1 (by omega)
  unfold F_X7_takeStatement F_X9_statement
  rw [X [111, 102, 102] (by decide), X [110, 111, 100, 101] (by decide), X [115, 119, 105, 110, 103] (by decide), X [110, 111, 116, 99, 104] (by decide), X [115, 116, 111, 110, 101] (by decide), X [99, 108, 111, 117, 100] (by decide), M [111, 102, 102] (by decide), M [110, 111, 100, 101] (by decide), M [115, 119, 105, 110, 103] (by decide), M [110, 111, 116, 99, 104] (by decide), M [115, 116, 111, 110, 101] (by decide), M [99, 108, 111, 117, 100] (by decide), m_wrong]
  simp only [bindV, bindE, bindB]
  cases w1 : isW b N s [111, 102, 102]
  · rw [bf_f, bf_f]
    cases w2 : isW b N s [110, 111, 100, 101]
    · rw [bf_f, bf_f]
      cases w3 : isW b N s [115, 119, 105, 110, 103]
      · rw [bf_f, bf_f]
        cases w4 : isW b N s [110, 111, 116, 99, 104]
        · rw [bf_f, bf_f]
          cases w5 : isW b N s [115, 116, 111, 110, 101]
          · rw [bf_f, bf_f]
            cases w6 : isW b N s [99, 108, 111, 117, 100]
            · rw [bf_f, bf_f]
              exact no_SO hs
            · rw [bf_t, bf_t, hcn, iLe]
              by_cases z : D.2.2.2.2.2.1.toInt < 8
              · rw [if_neg (show ¬ (8 : Int32).toInt ≤ _ by show ¬ (8 : Int) ≤ _; omega)]
                exact ok_cloudT hc hN hn hz hb hs (isW_lt _ w6 hs (by decide)).1 hR z
              · rw [if_pos (show (8 : Int32).toInt ≤ _ by show (8 : Int) ≤ _; omega)]
                unfold F_X7_takeCloud
                rw [xT_draft, full3, bf_d, if_pos (show D.2.2.2.2.2.1.toInt = ((8 : Nat) : Int) by omega)]
                exact no_SO hs
          · rw [bf_t, bf_t, hsn, iLe]
            by_cases z : D.2.2.2.1.toInt < 6
            · rw [if_neg (show ¬ (6 : Int32).toInt ≤ _ by show ¬ (6 : Int) ≤ _; omega)]
              exact ok_stoneT hc hN hn hz hb hs (isW_lt _ w5 hs (by decide)).1 hR z
            · rw [if_pos (show (6 : Int32).toInt ≤ _ by show (6 : Int) ≤ _; omega), isW_two _ [99, 108, 111, 117, 100] w5 (by decide) (by decide) (by decide), bf_f]
              unfold F_X7_takeStone
              rw [xT_draft, full2, bf_d, if_pos (show D.2.2.2.1.toInt = ((6 : Nat) : Int) by omega)]
              exact no_SO hs
        · rw [bf_t, bf_t, hnn, iLe]
          by_cases z : D.2.1.toInt < 8
          · rw [if_neg (show ¬ (8 : Int32).toInt ≤ _ by show ¬ (8 : Int) ≤ _; omega)]
            exact ok_notchT hc hN hn hz hb hs (isW_lt _ w4 hs (by decide)).1 hR z
          · rw [if_pos (show (8 : Int32).toInt ≤ _ by show (8 : Int) ≤ _; omega), isW_two _ [115, 116, 111, 110, 101] w4 (by decide) (by decide) (by decide), bf_f, isW_two _ [99, 108, 111, 117, 100] w4 (by decide) (by decide) (by decide), bf_f]
            unfold F_X7_takeNotch
            rw [xT_draft, full1, bf_d, if_pos (show D.2.1.toInt = 8 by omega)]
            exact no_SO hs
      · rw [bf_t, bf_t]
        exact ok_askedT hc hN hn hz hb hs (isW_lt _ w3 hs (by decide)).1 hR (Or.inr (Or.inr rfl))
    · rw [bf_t, bf_t]
      exact ok_askedT hc hN hn hz hb hs (isW_lt _ w2 hs (by decide)).1 hR (Or.inr (Or.inl rfl))
  · rw [bf_t, bf_t]
    exact ok_askedT hc hN hn hz hb hs (isW_lt _ w1 hs (by decide)).1 hR (Or.inl rfl)
end ST9
