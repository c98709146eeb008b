/-! ===== IN TRUTH; what was kept; how it stands ===== -/
section TR
variable {x : XS} {m : MS} {ka ta : Option Nat} {mk : Option MS} {n : Nat}
theorem Rel_today (h : Rel x m ka ta mk) (h9 : (m_today m).toInt < 9999) : Rel (x_set_now x (st_set_today (x_now x) (st_today (x_now x) + 1))) (m_set_today m (m_today m + 1)) ka ta mk := by
  obtain ⟨⟨ra, oa, rn, rs, rc, ⟨t0, t1, t2⟩, rl, rd⟩, r2⟩ := h
  have e : (m_today m + 1).toInt = (m_today m).toInt + 1 := tA (by show _ ≤ _ + (1 : Int); omega) (by show _ + (1 : Int) ≤ _; omega)
  refine ⟨⟨ra, oa, rn, rs, rc, ⟨?_, ?_, ?_⟩, rl, rd⟩, r2⟩
  · show st_today (x_now x) + 1 = m_today m + 1
    rw [t0]
  · show 0 ≤ (m_today m + 1).toInt
    omega
  · show (m_today m + 1).toInt ≤ 9999
    omega
theorem Rel_looks (h : Rel x m ka ta mk) : Rel (x_set_now x (st_set_looks (x_now x) (st_looks (x_now x) + 1))) (m_set_looks m (m_looks m + 1)) ka ta mk := by
  obtain ⟨⟨ra, oa, rn, rs, rc, rt, rl, rd⟩, r2⟩ := h
  refine ⟨⟨ra, oa, rn, rs, rc, rt, ?_, rd⟩, r2⟩
  show st_looks (x_now x) + 1 = m_looks m + 1
  rw [rl]
theorem Rel_seed (h : Rel x m ka ta mk) (v : Int32) : Rel (x_set_now x (st_set_seed (x_now x) v)) (m_set_seed m v) ka ta mk := by
  obtain ⟨⟨ra, oa, rn, rs, rc, rt, rl, rd⟩, r2⟩ := h
  exact ⟨⟨ra, oa, rn, rs, rc, rt, rl, rfl⟩, r2⟩
theorem ss_seed (s : ST) (v : Int32) : st_seed (st_set_seed s v) = v := rfl
theorem mm_seed (s : MS) (v : Int32) : m_seed (m_set_seed s v) = v := rfl
def dayX (x : XS) : XS := x_set_now x (st_set_today (x_now x) (st_today (x_now x) + 1))
def lookX (x : XS) : XS := x_set_now x (st_set_looks (x_now x) (st_looks (x_now x) + 1))
def dayM (m : MS) : MS := m_set_today m (m_today m + 1)
def lookM (m : MS) : MS := m_set_looks m (m_looks m + 1)
def passX (n : Nat) (x : XS) (dr : Int32) : Option (Bool × XS) := if dr < st_cloud (x_now x) then some (false, dayX x) else (F_X2_shinesOf n x (st_today (x_now x)) 1080 1439).bind fun r => if r ≤ 0 then some (true, dayX x) else some (true, dayX (lookX x))
def passM (n : Nat) (m : MS) (dr : Int32) : Option (Int32 × MS) := if dr < m_asked m 3 then some (0, dayM m) else (F_X9_shinesIn n m (m_today m) 1080 1439).bind fun r => if r ≤ 0 then some (1, dayM m) else some (1, dayM (lookM m))
theorem draw_eq (n : Nat) (s : ST) : F_X6_draw n s 10 = some (jrem (jushr (st_seed s * 1103515245 + 12345) 16) 10, st_set_seed s (st_seed s * 1103515245 + 12345)) := by
  unfold F_X6_draw
  generalize st_seed s * 1103515245 + 12345 = sd
  rw [if_pos (show (1 : Int32) ≤ 10 by decide), gd_d (show ¬ (10 : Int32) = 0 by decide)]
theorem below_eq (m : MS) : F_X9_below m 10 = (jrem (jushr (m_seed m * 1103515245 + 12345) 16) 10, m_set_seed m (m_seed m * 1103515245 + 12345)) := by
  unfold F_X9_below
  generalize m_seed m * 1103515245 + 12345 = sd
  rw [mm_seed]
theorem x_pass (n : Nat) (x : XS) : F_X8_letEveningPass n x = passX n (x_set_now x (st_set_seed (x_now x) (st_seed (x_now x) * 1103515245 + 12345))) (jrem (jushr (st_seed (x_now x) * 1103515245 + 12345) 16) 10) := by
  unfold F_X8_letEveningPass
  rw [draw_eq]
  generalize st_seed (x_now x) * 1103515245 + 12345 = sd
  rw [bindV, if_pos rfl, if_neg one_n0]
  rfl
theorem looks_0 (m : MS) : m_set_looks m (m_looks m + 0) = m := by rw [Int32.add_zero]
theorem m_pass (n : Nat) (m : MS) : F_X9_goesBy n m = passM n (m_set_seed m (m_seed m * 1103515245 + 12345)) (jrem (jushr (m_seed m * 1103515245 + 12345) 16) 10) := by
  unfold F_X9_goesBy
  rw [below_eq]
  generalize m_seed m * 1103515245 + 12345 = sd
  rw [gd_i (by decide) (by decide)]
  dsimp only
  generalize m_set_seed m sd = m1
  generalize jrem (jushr sd 16) 10 = dr
  simp only [if_pos (show (0 : Int32) = 0 from rfl), if_neg one_n0, looks_0]
  rfl
theorem ok_passC (h1 : Rel x m ka ta mk) (hn : 20000 ≤ n) (h9 : (m_today m).toInt < 9999) (dr : Int32) : ∃ b x' m', passX n x dr = some (b, x') ∧ passM n m dr = some (bI b, m') ∧ Rel x' m' ka ta mk := by
  have hd : dayR (m_today m) := h1.1.2.2.2.2.2.1.2
  have hm : minR (1080 : Int32) 1439 := ⟨by decide, by decide, by decide⟩
  have td : st_today (x_now x) = m_today m := h1.1.2.2.2.2.2.1.1
  have hcl : st_cloud (x_now x) = m_asked m 3 := h1.1.1.2.2.2
  unfold passX passM
  rw [hcl, td, x_shines h1.1 hn (day1 hd) hm, m_shines h1.1.2.1 h1.1.2.2.1.1 hn (day1 hd) hm, bindV, bindV]
  by_cases q : dr < m_asked m 3
  · rw [if_pos q, if_pos q]
    exact ⟨false, _, _, rfl, rfl, Rel_today h1 h9⟩
  · rw [if_neg q, if_neg q]
    by_cases z : shM m (m_today m) 1080 1439 ≤ 0
    · rw [if_pos z, if_pos z]
      exact ⟨true, _, _, rfl, rfl, Rel_today h1 h9⟩
    · rw [if_neg z, if_neg z]
      exact ⟨true, _, _, rfl, rfl, Rel_today (Rel_looks h1) h9⟩
theorem pass_at {P : Option (Bool × XS)} {Q : Option (Int32 × MS)} (v w : Int32) (hv : v = w) (f : Int32 → Option (Bool × XS)) (g : Int32 → Option (Int32 × MS)) (hP : P = f (v * 1103515245 + 12345)) (hQ : Q = g (w * 1103515245 + 12345)) (key : ∀ sd, ∃ b x' m', f sd = some (b, x') ∧ g sd = some (bI b, m') ∧ Rel x' m' ka ta mk) : ∃ b x' m', P = some (b, x') ∧ Q = some (bI b, m') ∧ Rel x' m' ka ta mk := by
  subst hv
  rw [hP, hQ]
  exact key _
theorem ok_pass (h : Rel x m ka ta mk) (hn : 20000 ≤ n) (h9 : (m_today m).toInt < 9999) : ∃ b x' m', F_X8_letEveningPass n x = some (b, x') ∧ F_X9_goesBy n m = some (bI b, m') ∧ Rel x' m' ka ta mk :=
  pass_at (st_seed (x_now x)) (m_seed m) h.1.2.2.2.2.2.2.2 (fun sd => passX n (x_set_now x (st_set_seed (x_now x) sd)) (jrem (jushr sd 16) 10)) (fun sd => passM n (m_set_seed m sd) (jrem (jushr sd 16) 10)) (x_pass n x) (m_pass n m) (fun sd => ok_passC (Rel_seed h sd) hn h9 _)
theorem ok_goes (h : Rel x m ka ta mk) (hn : 20000 ≤ n) : Ok (F_X8_goes n x) (F_X9_goes n m) ka ta mk := by
  have ht := h.1.2.2.2.2.2.1
  unfold F_X8_goes F_X9_goes
  simp only [bindE]
  rw [ht.1, iLt, iEq]
  by_cases q : (m_today m).toInt < 9999
  · obtain ⟨b, x', m', e1, e2, e3⟩ := ok_pass h hn q
    rw [if_pos (show (m_today m).toInt < (9999 : Int32).toInt from q), if_neg (show ¬ (m_today m).toInt = (9999 : Int32).toInt by show ¬ _ = (9999 : Int); omega), e1, e2, bindV]
    cases b
    · exact Ok.same e3 _
    · exact Ok.same e3 _
  · rw [if_neg (show ¬ (m_today m).toInt < (9999 : Int32).toInt from q), if_pos (show (m_today m).toInt = (9999 : Int32).toInt by show _ = (9999 : Int); omega)]
    exact stuck h
theorem looks_L (hn : 20000 ≤ n) {p1 : Int32} (hp : p1.toInt ≤ 40) : ∀ (q i kf kf' : Nat) (v : Int32) (x : XS) (m : MS), v.toInt = i → p1.toInt ≤ i + q → q < kf → q < kf' → Rel x m ka ta mk → Ok (F_X8_looks_L19 n p1 kf v x) (F_X9_looks_L21 n p1 kf' v m) ka ta mk := by
  intro q
  induction q with
  | zero =>
    intro i kf kf' v x m h1 h2 h3 h4 h
    have hl : st_looks (x_now x) = m_looks m := h.1.2.2.2.2.2.2.1
    cases kf with
    | zero => omega
    | succ kf =>
      cases kf' with
      | zero => omega
      | succ kf' =>
        unfold F_X8_looks_L19 F_X9_looks_L21
        rw [iLe, if_pos (by omega), iLe, if_pos (by omega)]
        exact Ok.eq h hl
  | succ q ih =>
    intro i kf kf' v x m h1 h2 h3 h4 h
    have hl : st_looks (x_now x) = m_looks m := h.1.2.2.2.2.2.2.1
    have ht := h.1.2.2.2.2.2.1
    cases kf with
    | zero => omega
    | succ kf =>
      cases kf' with
      | zero => omega
      | succ kf' =>
        unfold F_X8_looks_L19 F_X9_looks_L21
        rw [iLe p1, iLe p1, ht.1, iLe, iLe]
        by_cases c : p1.toInt ≤ v.toInt
        · rw [if_pos c, if_pos c]
          exact Ok.eq h hl
        · rw [if_neg c, if_neg c]
          by_cases z : (9999 : Int32).toInt ≤ (m_today m).toInt
          · rw [if_pos z, if_pos z]
            exact Ok.eq h hl
          · replace z : ¬ (9999 : Int) ≤ (m_today m).toInt := z
            obtain ⟨b, x', m', e1, e2, e3⟩ := ok_pass h hn (by omega)
            rw [if_neg (show ¬ (9999 : Int32).toInt ≤ (m_today m).toInt from z), if_neg (show ¬ (9999 : Int32).toInt ≤ (m_today m).toInt from z), e1, e2, bindV, bindV]
            exact ih (i + 1) kf kf' (v + 1) x' m' (suc_I h1 (by omega)) (by omega) (by omega) (by omega) e3
theorem ok_looks (h : Rel x m ka ta mk) (hn : 20000 ≤ n) (p1 : Int32) : Ok (F_X8_looks n x p1) (F_X9_looks n m p1) ka ta mk := by
  unfold F_X8_looks F_X9_looks
  simp only [bindE]
  rw [xIn p1 1 40 1 40 rfl rfl, mIn p1 1 40 1 40 rfl rfl, bf_d, bf_d]
  by_cases h1 : 1 ≤ p1.toInt ∧ p1.toInt ≤ 40
  · rw [if_pos h1, if_pos h1]
    exact looks_L hn h1.2 p1.toInt.toNat 0 n n 0 x m rfl (by omega) (by omega) (by omega) h
  · rw [if_neg h1, if_neg h1]; exact bad h
/-! become, takeFrom -/
theorem few_become_L {rm : Nat} {lo hi : Int} {c : Int32} {g : Nat → Int32} {t : FW} (ht : RF t rm lo hi c g) (hr : rm < 1000) : ∀ (q i kf : Nat) (v : Int32) (u : FW), v.toInt = i → c.toInt = i + q → q < kf → fw_n u = v → (∀ j : Nat, j < i → fw_it u j = g j) → ∃ u', F_X0_become_L7 n rm t kf v u = some u' ∧ RF u' rm lo hi c g := by
  have hc := ht.2.1
  intro q
  induction q with
  | zero =>
    intro i kf v u h1 h2 h3 h4 h5
    cases kf with
    | zero => omega
    | succ kf =>
      unfold F_X0_become_L7
      rw [ht.1, iLe, if_pos (by omega)]
      refine ⟨u, rfl, ?_, hc, fun j hj => ⟨h5 j (by omega), (ht.2.2 j hj).2⟩⟩
      rw [h4]
      exact Int32.toInt_inj.mp (by omega)
  | succ q ih =>
    intro i kf v u h1 h2 h3 h4 h5
    cases kf with
    | zero => omega
    | succ kf =>
      have ha := few_at (n := n) ht (p := v) (by omega) (by omega) (by omega)
      rw [show v.toInt.toNat = i by omega] at ha
      have hd := few_add (n := n) (rm := rm) (f := u) (v := g i) (by rw [h4]; omega) (by rw [h4]; omega) (by omega)
      unfold F_X0_become_L7
      rw [ht.1, iLe, if_neg (by omega), ha, bindV, hd, bindV, h4, show v.toInt.toNat = i by omega]
      exact ih (i + 1) kf (v + 1) _ (suc_I h1 (by omega)) (by omega) (by omega) rfl (fun j hj => by
        show upd (fw_it u) i (g i) j = g j
        by_cases z : j = i
        · rw [z, upd_s]
        · rw [upd_o z]; exact h5 j (by omega))
theorem few_become {rm : Nat} {lo hi : Int} {c : Int32} {g : Nat → Int32} {t : FW} (ht : RF t rm lo hi c g) (hr : rm < 1000) (hn : 20000 ≤ n) (s : FW) : ∃ u', F_X0_become n rm s rm t = some u' ∧ RF u' rm lo hi c g := by
  have hc := ht.2.1
  exact few_become_L ht hr c.toInt.toNat 0 n 0 (fw_set_n s 0) rfl (by omega) (by omega) rfl (fun j hj => by omega)
theorem hill_become {hl : HL} {nt : Nat → Nat → Int32} {k : Int32} (h : RN hl nt k) (hn : 20000 ≤ n) (s : HL) : ∃ hl', F_X1_become n s hl = some hl' ∧ RN hl' nt k := by
  obtain ⟨ok, ⟨e1, e2, e3⟩, hi, hln⟩ := h
  have h1 : RF (hl_fr hl) 8 (-2147483648) 2147483647 k (fun i => nt i 0) := ⟨e1, ok.1, fun i hi' => ⟨(hi i hi').1, tLo _, tHi _⟩⟩
  have h2 : RF (hl_to hl) 8 (-2147483648) 2147483647 k (fun i => nt i 1) := ⟨e2, ok.1, fun i hi' => ⟨(hi i hi').2.1, tLo _, tHi _⟩⟩
  have h3 : RF (hl_he hl) 8 (-2147483648) 2147483647 k (fun i => nt i 2) := ⟨e3, ok.1, fun i hi' => ⟨(hi i hi').2.2, tLo _, tHi _⟩⟩
  obtain ⟨a, ea, ha⟩ := few_become (rm := 8) (n := n) h1 (by omega) hn (hl_fr s)
  obtain ⟨b, eb, hb⟩ := few_become (rm := 8) (n := n) h2 (by omega) hn (hl_to s)
  obtain ⟨c, ec, hc⟩ := few_become (rm := 8) (n := n) h3 (by omega) hn (hl_he s)
  refine ⟨hl_set_ln (hl_set_he (hl_set_to (hl_set_fr s a) b) c) (va_cpy (hl_ln hl) (hl_ln s) 0 0 180), ?_, ok, ⟨ha.1, hb.1, hc.1⟩, fun i hi' => ⟨(ha.2.2 i hi').1, (hb.2.2 i hi').1, (hc.2.2 i hi').1⟩, fun d hd => ?_⟩
  · have eb' : F_X0_become n 8 (hl_to (hl_set_fr s a)) 8 (hl_to hl) = some b := eb
    have ec' : F_X0_become n 8 (hl_he (hl_set_to (hl_set_fr s a) b)) 8 (hl_he hl) = some c := ec
    have eg : acok 0 0 180 180 180 = true := by decide
    unfold F_X1_become
    rw [ea, bindV, eb', bindV, ec', bindV, eg]
    rfl
  · show va_cpy (hl_ln hl) (hl_ln s) 0 0 180 d = _
    unfold va_cpy
    rw [if_pos (by omega), Nat.zero_add, Nat.sub_zero]
    exact hln d hd
theorem st_become {t : ST} {q : Nat → Int32} {k : Int32} {nt : Nat → Nat → Int32} {sk : Int32} {st : Nat → Int32} {ck : Int32} {cl : Nat → Int32} {td lk sd : Int32} (h : RSx t q k nt sk st ck cl td lk sd) (hn : 20000 ≤ n) (s : ST) : ∃ s', F_X6_become n s t = some s' ∧ RSx s' q k nt sk st ck cl td lk sd := by
  obtain ⟨⟨a0, a1, a2, a3⟩, oa, rn, rs, rc, rt, rl, rd⟩ := h
  obtain ⟨hl', e1, h1⟩ := hill_become (n := n) rn hn (st_hill s)
  obtain ⟨b, e2, h2⟩ := few_become (rm := 6) (n := n) rs (by omega) hn (st_stones s)
  obtain ⟨c, e3, h3⟩ := few_become (rm := 8) (n := n) rc (by omega) hn (st_clouds s)
  have e1' : F_X1_become n (st_hill (st_set_cloud (st_set_swing (st_set_node (st_set_off s (st_off t)) (st_node t)) (st_swing t)) (st_cloud t))) (st_hill t) = some hl' := e1
  have e2' : F_X0_become n 6 (st_stones (st_set_hill (st_set_cloud (st_set_swing (st_set_node (st_set_off s (st_off t)) (st_node t)) (st_swing t)) (st_cloud t)) hl')) 6 (st_stones t) = some b := e2
  have e3' : F_X0_become n 8 (st_clouds (st_set_stones (st_set_hill (st_set_cloud (st_set_swing (st_set_node (st_set_off s (st_off t)) (st_node t)) (st_swing t)) (st_cloud t)) hl') b)) 8 (st_clouds t) = some c := e3
  refine ⟨st_set_seed (st_set_looks (st_set_today (st_set_clouds (st_set_stones (st_set_hill (st_set_cloud (st_set_swing (st_set_node (st_set_off s (st_off t)) (st_node t)) (st_swing t)) (st_cloud t)) hl') b) c) (st_today t)) (st_looks t)) (st_seed t), ?_, ⟨a0, a1, a2, a3⟩, oa, h1, h2, h3, rt, rl, rd⟩
  unfold F_X6_become
  rw [e1', bindV, e2', bindV, e3', bindV]
theorem copyAll_L (N : Nat) (hN : N < 1000) (f : Nat → Int32) : ∀ (q i kf : Nat) (v : Int32) (g : Nat → Int32), v.toInt = i → N = i + q → q < kf → ∃ g', F_X9_copyAll_L2 n N f N kf v g = some g' ∧ ∀ j, g' j = if i ≤ j ∧ j < N then f j else g j := by
  have er : (Int32.ofNat N).toInt = N := Int32.toInt_ofNat_of_lt (by omega)
  intro q
  induction q with
  | zero =>
    intro i kf v g h1 h2 h3
    cases kf with
    | zero => omega
    | succ kf =>
      unfold F_X9_copyAll_L2
      rw [iLe, er, if_pos (by omega)]
      exact ⟨g, rfl, fun j => (if_neg (by omega)).symm⟩
  | succ q ih =>
    intro i kf v g h1 h2 h3
    cases kf with
    | zero => omega
    | succ kf =>
      unfold F_X9_copyAll_L2
      rw [iLe, er, if_neg (by omega), gd_i (by omega) (by omega), gd_i (by omega) (by omega), nat_of h1]
      obtain ⟨g', e, hg⟩ := ih (i + 1) kf (v + 1) (upd g i (f i)) (suc_I h1 (by omega)) (by omega) (by omega)
      refine ⟨g', e, fun j => ?_⟩
      rw [hg j]
      by_cases z : j = i
      · rw [z, if_neg (by omega), upd_s, if_pos (by omega)]
      · rw [upd_o z]
        by_cases y : i + 1 ≤ j ∧ j < N
        · rw [if_pos y, if_pos (by omega)]
        · rw [if_neg y, if_neg (by omega)]
theorem copyAll (N : Nat) (hN : N < 1000) (hn : 20000 ≤ n) (f g : Nat → Int32) : ∃ g', F_X9_copyAll n N f N g = some g' ∧ ∀ j, j < N → g' j = f j := by
  obtain ⟨g', e, hg⟩ := copyAll_L (n := n) N hN f N 0 n 0 g rfl (by omega) (by omega)
  exact ⟨g', e, fun j hj => by rw [hg j, if_pos ⟨by omega, hj⟩]⟩
def tkM (s t : MS) (q : Nat → Int32) (nt : Nat → Nat → Int32) (st cl : Nat → Int32) : MS := m_set_seed (m_set_looks (m_set_today (m_set_cloud (m_set_clouds (m_set_stone (m_set_stones (m_set_notch (m_set_notches (m_set_asked s q) (m_notches t)) nt) (m_stones t)) st) (m_clouds t)) cl) (m_today t)) (m_looks t)) (m_seed t)
theorem take_L (hn : 20000 ≤ n) (t : MS) : ∀ (k i kf : Nat) (v : Int32) (u : MS), v.toInt = i → 8 = i + k → k < kf → ∃ nt st cl, F_X9_takeFrom_L21 n t kf v u = some (m_set_seed (m_set_looks (m_set_today (m_set_cloud (m_set_clouds (m_set_stone (m_set_stones (m_set_notch u nt) (m_stones t)) st) (m_clouds t)) cl) (m_today t)) (m_looks t)) (m_seed t)) ∧ (∀ a : Nat, (a < i → nt a = m_notch u a) ∧ (i ≤ a → a < 8 → ∀ j : Nat, j < 3 → nt a j = m_notch t a j)) ∧ (∀ j : Nat, j < 6 → st j = m_stone t j) ∧ (∀ j : Nat, j < 8 → cl j = m_cloud t j) := by
  intro k
  induction k with
  | zero =>
    intro i kf v u h1 h2 h3
    cases kf with
    | zero => omega
    | succ kf =>
      obtain ⟨st, es, hs⟩ := copyAll (n := n) 6 (by omega) hn (m_stone t) (m_stone u)
      obtain ⟨cl, ec, hc⟩ := copyAll (n := n) 8 (by omega) hn (m_cloud t) (m_cloud u)
      have es' : F_X9_copyAll n 6 (m_stone t) 6 (m_stone (m_set_stones u (m_stones t))) = some st := es
      have ec' : F_X9_copyAll n 8 (m_cloud t) 8 (m_cloud (m_set_clouds (m_set_stone (m_set_stones u (m_stones t)) st) (m_clouds t))) = some cl := ec
      unfold F_X9_takeFrom_L21
      rw [iLe, if_pos (by show (8 : Int) ≤ _; omega), es', bindV, ec', bindV]
      exact ⟨m_notch u, st, cl, rfl, fun a => ⟨fun _ => rfl, fun a1 a2 => by omega⟩, hs, hc⟩
  | succ k ih =>
    intro i kf v u h1 h2 h3
    cases kf with
    | zero => omega
    | succ kf =>
      obtain ⟨g, eg, hg⟩ := copyAll (n := n) 3 (by omega) hn (m_notch t i) (m_notch u i)
      unfold F_X9_takeFrom_L21
      rw [iLe, if_neg (by show ¬ (8 : Int) ≤ _; omega), gd_i (by omega) (by omega), gd_i (by omega) (by omega), nat_of h1, eg, bindV]
      obtain ⟨nt, st, cl, e, hnt, hs, hc⟩ := ih (i + 1) kf (v + 1) (m_set_notch u (va_up (m_notch u) i g)) (suc_I h1 (by omega)) (by omega) (by omega)
      refine ⟨nt, st, cl, e, fun a => ⟨fun a1 => ?_, fun a1 a2 j hj => ?_⟩, hs, hc⟩
      · rw [(hnt a).1 (by omega)]
        show va_up (m_notch u) i g a = _
        rw [up_o (by omega)]
      · by_cases z : a = i
        · subst z
          rw [(hnt a).1 (by omega)]
          show va_up (m_notch u) a g a j = _
          rw [up_s]
          exact hg j hj
        · exact (hnt a).2 (by omega) a2 j hj
theorem m_take (hn : 20000 ≤ n) (s t : MS) : ∃ q nt st cl, F_X9_takeFrom n s t = some (tkM s t q nt st cl) ∧ (∀ j : Nat, j < 4 → q j = m_asked t j) ∧ (∀ a : Nat, a < 8 → ∀ j : Nat, j < 3 → nt a j = m_notch t a j) ∧ (∀ j : Nat, j < 6 → st j = m_stone t j) ∧ (∀ j : Nat, j < 8 → cl j = m_cloud t j) := by
  obtain ⟨q, eq, hq⟩ := copyAll (n := n) 4 (by omega) hn (m_asked t) (m_asked s)
  obtain ⟨nt, st, cl, e, hnt, hs, hc⟩ := take_L hn t 8 0 n 0 (m_set_notches (m_set_asked s q) (m_notches t)) rfl (by omega) (by omega)
  refine ⟨q, nt, st, cl, ?_, hq, fun a ha j hj => (hnt a).2 (by omega) ha j hj, hs, hc⟩
  unfold F_X9_takeFrom
  rw [eq, bindV]
  exact e
theorem lnV_same2 {nt nt' : Nat → Nat → Int32} (d : Int) : ∀ k : Nat, (∀ i : Nat, i < k → ∀ j : Nat, j < 3 → nt' i j = nt i j) → lnV nt' d k = lnV nt d k
  | 0, _ => rfl
  | k + 1, h => by
    have ih := lnV_same2 (nt := nt) (nt' := nt') d k fun i hi => h i (by omega)
    unfold lnV
    rw [ih, h k (by omega) 0 (by omega), h k (by omega) 1 (by omega), h k (by omega) 2 (by omega)]
theorem RSx_congr {t : ST} {q q' : Nat → Int32} {k : Int32} {nt nt' : Nat → Nat → Int32} {sk : Int32} {st st' : Nat → Int32} {ck : Int32} {cl cl' : Nat → Int32} {td lk sd : Int32} (h : RSx t q k nt sk st ck cl td lk sd) (h1 : ∀ j : Nat, j < 4 → q' j = q j) (h2 : ∀ a : Nat, a < 8 → ∀ j : Nat, j < 3 → nt' a j = nt a j) (h3 : ∀ j : Nat, j < 6 → st' j = st j) (h4 : ∀ j : Nat, j < 8 → cl' j = cl j) : RSx t q' k nt' sk st' ck cl' td lk sd := by
  obtain ⟨⟨a0, a1, a2, a3⟩, ⟨o0, o1, o2, o3⟩, ⟨⟨ok0, ok1⟩, en, hi, hln⟩, ⟨es, cs, hs⟩, ⟨ec, cc, hc⟩, rest⟩ := h
  have q0 := h1 0 (by omega)
  have q1 := h1 1 (by omega)
  have q2 := h1 2 (by omega)
  have q3 := h1 3 (by omega)
  refine ⟨⟨by rw [q0]; exact a0, by rw [q1]; exact a1, by rw [q2]; exact a2, by rw [q3]; exact a3⟩, ⟨by rw [q0]; exact o0, by rw [q1]; exact o1, by rw [q2]; exact o2, by rw [q3]; exact o3⟩, ⟨⟨ok0, fun i hi' => ?_⟩, en, fun i hi' => ?_, fun d hd => ?_⟩, ⟨es, cs, fun i hi' => ?_⟩, ⟨ec, cc, fun i hi' => ?_⟩, rest⟩
  · rw [h2 i (by omega) 0 (by omega), h2 i (by omega) 1 (by omega), h2 i (by omega) 2 (by omega)]; exact ok1 i hi'
  · rw [h2 i (by omega) 0 (by omega), h2 i (by omega) 1 (by omega), h2 i (by omega) 2 (by omega)]; exact hi i hi'
  · rw [hln d hd]
    exact (lnV_same2 (d : Int) _ fun i hi' => h2 i (by omega)).symm
  · rw [h3 i (by omega)]; exact hs i hi'
  · rw [h4 i (by omega)]; exact hc i hi'
theorem take_RS (hn : 20000 ≤ n) (s t : MS) {a : ST} (h : RS a t) : ∃ q nt st cl, F_X9_takeFrom n s t = some (tkM s t q nt st cl) ∧ RS a (tkM s t q nt st cl) := by
  obtain ⟨q, nt, st, cl, e, h1, h2, h3, h4⟩ := m_take (n := n) hn s t
  exact ⟨q, nt, st, cl, e, RSx_congr h h1 h2 h3 h4⟩
theorem ok_image (h : Rel x m ka ta mk) (hn : 20000 ≤ n) (s : MS) (a : Nat) : ∃ x' k', F_X8_image n x = some (1, x') ∧ F_X9_takeFrom n s m = some k' ∧ Rel x' (m_set_kept m (some a)) (some a) ta (some k') ∧ m_kept k' = m_kept s ∧ m_tried k' = m_tried s := by
  obtain ⟨r1, r2, r3, r4, r5, r6, r7⟩ := h
  obtain ⟨s', e1, h1⟩ := st_become (n := n) r1 hn (x_kept x)
  obtain ⟨q, nt, st, cl, e2, h2⟩ := take_RS (n := n) hn s m r1
  obtain ⟨q', nt', st', cl', e3, h3⟩ := take_RS (n := n) hn s m h1
  rw [e2] at e3
  have e4 := Option.some.inj e3
  rw [← e4] at h3
  refine ⟨x_set_isKept (x_set_kept x s') true, tkM s m q nt st cl, ?_, e2, ⟨r1, r2, r3, r4, ⟨rfl, fun k hk => ?_⟩, rfl, r7⟩, rfl, rfl⟩
  · unfold F_X8_image
    rw [e1, bindV]
  · rw [← Option.some.inj hk]
    exact h3
theorem ok_back_none (h : Rel x m ka ta none) : Ok (F_X8_back n x) (F_X9_refuse n m (-5)) ka ta none := by
  have e : x_isKept x = false := h.2.2.2.2.1.1
  unfold F_X8_back
  rw [e, bf_f, bindE]
  exact stuck h
theorem ok_back {k : MS} (h : Rel x m ka ta (some k)) (hn : 20000 ≤ n) : ∃ x' m', F_X8_back n x = some (1, x') ∧ F_X9_takeFrom n m k = some m' ∧ Rel x' m' ka ta (some k) := by
  obtain ⟨r1, r2, r3, r4, r5, r6, r7⟩ := h
  have e : x_isKept x = true := r5.1
  obtain ⟨s', e1, h1⟩ := st_become (n := n) (r5.2 k rfl) hn (x_now x)
  obtain ⟨q, nt, st, cl, e2, h2⟩ := take_RS (n := n) hn m k h1
  refine ⟨x_set_now x s', tkM m k q nt st cl, ?_, e2, h2, r2, r3, r4, r5, r6, r7⟩
  unfold F_X8_back
  rw [e, bf_t, e1, bindV]
/-! status -/
theorem inUse_L (h : RHs (x_sh x) (m_shelf m) (m_rowSort m) (m_rowSize m) (m_rows m) (m_eveKind m) (m_eveDay m)) (p : Int32) : ∀ (q i kf kf' : Nat) (w v : Int32), v.toInt = i → 8 = i + q → q < kf → q < kf' → ∃ r, F_X8_shelvesInUse_L4 n x kf w v = some r ∧ F_X9_status_L110 n m p kf' w v = some r := by
  intro q
  induction q with
  | zero =>
    intro i kf kf' w v h1 h2 h3 h4
    cases kf with
    | zero => omega
    | succ kf =>
      cases kf' with
      | zero => omega
      | succ kf' =>
        unfold F_X8_shelvesInUse_L4 F_X9_status_L110
        rw [iLe, if_pos (by show (8 : Int) ≤ _; omega), iLe, if_pos (by show (8 : Int) ≤ _; omega)]
        exact ⟨_, rfl, rfl⟩
  | succ q ih =>
    intro i kf kf' w v h1 h2 h3 h4
    cases kf with
    | zero => omega
    | succ kf =>
      cases kf' with
      | zero => omega
      | succ kf' =>
        have g8 : inb v 8 = true := inb_t (by omega) (by omega)
        unfold F_X8_shelvesInUse_L4 F_X9_status_L110
        rw [iLe, if_neg (by show ¬ (8 : Int) ≤ _; omega), iLe, if_neg (by show ¬ (8 : Int) ≤ _; omega), g8, gd_t, gd_t, nat_of h1, Int32.add_zero]
        rcases RH_cases (h i (by omega)) with ⟨e, b, -⟩ | ⟨e, b, -⟩ | ⟨e, b, -⟩
        · rw [b, bf_t, e, if_pos rfl]
          exact ih (i + 1) kf kf' w (v + 1) (suc_I h1 (by omega)) (by omega) (by omega) (by omega)
        · rw [b, bf_f, e, if_neg one_n0]
          exact ih (i + 1) kf kf' _ (v + 1) (suc_I h1 (by omega)) (by omega) (by omega) (by omega)
        · rw [b, bf_f, e, if_neg two_n0]
          exact ih (i + 1) kf kf' _ (v + 1) (suc_I h1 (by omega)) (by omega) (by omega) (by omega)
theorem ok_status (h : Rel x m ka ta mk) (hn : 20000 ≤ n) (p1 : Int32) : ∃ r, F_X8_status n x p1 = some r ∧ F_X9_status n m p1 = some r := by
  obtain ⟨⟨⟨a0, a1, a2, a3⟩, oa, rn, rs, rc, rt, rl, rd⟩, r2, r3, r4, r5, r6, r7⟩ := h
  unfold F_X8_status F_X9_status
  simp only [bindS]
  by_cases c0 : p1 = 0
  · rw [if_pos c0, if_pos c0]; exact ⟨_, rfl, congrArg some rn.2.1.1.symm⟩
  rw [if_neg c0, if_neg c0]
  by_cases c1 : p1 = 1
  · rw [if_pos c1, if_pos c1]; exact ⟨_, rfl, congrArg some rs.1.symm⟩
  rw [if_neg c1, if_neg c1]
  by_cases c2 : p1 = 2
  · rw [if_pos c2, if_pos c2]; exact ⟨_, rfl, congrArg some rc.1.symm⟩
  rw [if_neg c2, if_neg c2]
  by_cases c3 : p1 = 3
  · rw [if_pos c3, if_pos c3, c3]; exact ⟨_, rfl, congrArg some a0.symm⟩
  rw [if_neg c3, if_neg c3]
  by_cases c4 : p1 = 4
  · rw [if_pos c4, if_pos c4, c4]; exact ⟨_, rfl, congrArg some a1.symm⟩
  rw [if_neg c4, if_neg c4]
  by_cases c5 : p1 = 5
  · rw [if_pos c5, if_pos c5, c5]; exact ⟨_, rfl, congrArg some a2.symm⟩
  rw [if_neg c5, if_neg c5]
  by_cases c6 : p1 = 6
  · rw [if_pos c6, if_pos c6, c6]; exact ⟨_, rfl, congrArg some a3.symm⟩
  rw [if_neg c6, if_neg c6]
  by_cases c7 : p1 = 7
  · rw [if_pos c7, if_pos c7]; exact ⟨_, rfl, congrArg some rt.1.symm⟩
  rw [if_neg c7, if_neg c7]
  by_cases c8 : p1 = 8
  · rw [if_pos c8, if_pos c8]; exact ⟨_, rfl, congrArg some rl.symm⟩
  rw [if_neg c8, if_neg c8]
  by_cases c9 : p1 = 9
  · rw [if_pos c9, if_pos c9]; exact ⟨_, rfl, congrArg some r3.1.symm⟩
  rw [if_neg c9, if_neg c9]
  by_cases c10 : p1 = 10
  · rw [if_pos c10, if_pos c10]; exact ⟨_, rfl, congrArg some rd.symm⟩
  rw [if_neg c10, if_neg c10]
  by_cases c11 : p1 = 11
  · rw [if_pos c11, if_pos c11]
    exact inUse_L r2 p1 8 0 n n 0 0 rfl rfl (by omega) (by omega)
  rw [if_neg c11, if_neg c11, mIn p1 12 16 12 16 rfl rfl, bf_d]
  rw [eqI] at c0 c1 c2 c3 c4 c5 c6 c7 c8 c9 c10 c11
  replace c0 : ¬ p1.toInt = 0 := c0
  replace c1 : ¬ p1.toInt = 1 := c1
  replace c2 : ¬ p1.toInt = 2 := c2
  replace c3 : ¬ p1.toInt = 3 := c3
  replace c4 : ¬ p1.toInt = 4 := c4
  replace c5 : ¬ p1.toInt = 5 := c5
  replace c6 : ¬ p1.toInt = 6 := c6
  replace c7 : ¬ p1.toInt = 7 := c7
  replace c8 : ¬ p1.toInt = 8 := c8
  replace c9 : ¬ p1.toInt = 9 := c9
  replace c10 : ¬ p1.toInt = 10 := c10
  replace c11 : ¬ p1.toInt = 11 := c11
  unfold F_X8_refusalsAt
  rw [iLt, iLe]
  by_cases q : 12 ≤ p1.toInt ∧ p1.toInt ≤ 16
  · have e12 : (p1 - 12).toInt = p1.toInt - 12 := tS (by show _ ≤ _ - (12 : Int); omega) (by show _ - (12 : Int) ≤ _; omega)
    have e10 : (p1 - 10).toInt = p1.toInt - 10 := tS (by show _ ≤ _ - (10 : Int); omega) (by show _ - (10 : Int) ≤ _; omega)
    rw [if_pos q, if_neg (by show ¬ _ < (0 : Int); omega), if_neg (by show ¬ (5 : Int) ≤ _; omega), gd_i (by omega) (by omega), gd_i (by omega) (by omega), nat_toInt, nat_toInt, e12, e10]
    refine ⟨_, rfl, congrArg some ?_⟩
    have := r4 (p1.toInt - 12).toNat (by omega)
    rw [this, show (p1.toInt - 12).toNat + 2 = (p1.toInt - 10).toNat by omega]
  · rw [if_neg q]
    have hlo := tLo p1
    have hhi := tHi p1
    have e12 : (p1 - 12).toInt = (p1.toInt - 12).bmod (2 ^ 32) := Int32.toInt_sub p1 12
    rw [Int.bmod_def] at e12
    by_cases z : (p1 - 12).toInt < (0 : Int32).toInt
    · rw [if_pos z]; exact ⟨_, rfl, rfl⟩
    · rw [if_neg z]
      replace z : ¬ (p1 - 12).toInt < 0 := z
      have z5 : (5 : Int32).toInt ≤ (p1 - 12).toInt := by
        show (5 : Int) ≤ _
        split at e12 <;> omega
      rw [if_pos z5]; exact ⟨_, rfl, rfl⟩
end TR
