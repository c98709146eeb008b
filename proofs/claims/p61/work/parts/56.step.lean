/-! ===== a SKY from THE TAPE: the class steps ===== -/
def tq (c : Nat → Int32) (z k s e v : Int32) : TP := (c, z, k, s, e, v)
def xq (x : XS) (d : ST) (t : TP) : XS := x_set_draft (x_set_tape x t) d
def TX (c b : Nat → Int32) (N : Nat) : Prop := ∀ i : Nat, i < N → c i = b i ∧ 0 ≤ (b i).toInt
theorem tq_by (c : Nat → Int32) (z k s e v : Int32) : tp_by (tq c z k s e v) = c := Eq.trans rfl rfl
theorem tq_size (c : Nat → Int32) (z k s e v : Int32) : tp_size (tq c z k s e v) = z := Eq.trans rfl rfl
theorem tq_token (c : Nat → Int32) (z k s e v : Int32) : tp_token (tq c z k s e v) = k := Eq.trans rfl rfl
theorem tq_start (c : Nat → Int32) (z k s e v : Int32) : tp_start (tq c z k s e v) = s := Eq.trans rfl rfl
theorem tq_fin (c : Nat → Int32) (z k s e v : Int32) : tp_fin (tq c z k s e v) = e := Eq.trans rfl rfl
theorem tq_value (c : Nat → Int32) (z k s e v : Int32) : tp_value (tq c z k s e v) = v := Eq.trans rfl rfl
theorem ts_token (c : Nat → Int32) (z k s e v w : Int32) : tp_set_token (tq c z k s e v) w = tq c z w s e v := Eq.trans rfl rfl
theorem ts_start (c : Nat → Int32) (z k s e v w : Int32) : tp_set_start (tq c z k s e v) w = tq c z k w e v := Eq.trans rfl rfl
theorem ts_fin (c : Nat → Int32) (z k s e v w : Int32) : tp_set_fin (tq c z k s e v) w = tq c z k s w v := Eq.trans rfl rfl
theorem ts_value (c : Nat → Int32) (z k s e v w : Int32) : tp_set_value (tq c z k s e v) w = tq c z k s e w := Eq.trans rfl rfl
theorem ts_size (c : Nat → Int32) (z k s e v w : Int32) : tp_set_size (tq c z k s e v) w = tq c w k s e v := Eq.trans rfl rfl
theorem tq_self (t : TP) : tq (tp_by t) (tp_size t) (tp_token t) (tp_start t) (tp_fin t) (tp_value t) = t := Eq.trans rfl rfl
theorem xq_tape (x : XS) (d : ST) (t : TP) : x_tape (xq x d t) = t := Eq.trans rfl rfl
theorem xq_draft (x : XS) (d : ST) (t : TP) : x_draft (xq x d t) = d := Eq.trans rfl rfl
theorem xq_now (x : XS) (d : ST) (t : TP) : x_now (xq x d t) = x_now x := Eq.trans rfl rfl
theorem xs_tape (x : XS) (d : ST) (t t' : TP) : x_set_tape (xq x d t) t' = xq x d t' := Eq.trans rfl rfl
theorem xs_draft (x : XS) (d d' : ST) (t : TP) : x_set_draft (xq x d t) d' = xq x d' t := Eq.trans rfl rfl
theorem xq_self (x : XS) : xq x (x_draft x) (x_tape x) = x := Eq.trans rfl rfl
theorem isL_eq (c : Int32) : F_X9_isLetter c = decide (97 ≤ c.toInt ∧ c.toInt ≤ 122) := by
  unfold F_X9_isLetter
  rw [iLt, iLt]
  show (if c.toInt < 97 then false else if 122 < c.toInt then false else true) = _
  by_cases h1 : c.toInt < 97
  · rw [if_pos h1]; exact (decide_eq_false (by omega)).symm
  · rw [if_neg h1]
    by_cases h2 : 122 < c.toInt
    · rw [if_pos h2]; exact (decide_eq_false (by omega)).symm
    · rw [if_neg h2]; exact (decide_eq_true (by omega)).symm
theorem tok_eq (c : Int32) : F_X7_tokenOf c = if c = -1 then 0 else if F_X9_isLetter c = true then 1 else if F_X9_isDigit c = true then 2 else if c = 59 then 3 else 4 := by
  unfold F_X7_tokenOf F_X9_isLetter F_X9_isDigit
  by_cases h0 : c = -1
  · rw [if_pos h0, if_pos h0]
  · rw [if_neg h0, if_neg h0]
    by_cases h1 : c < 97 <;> by_cases h2 : (122 : Int32) < c <;> by_cases h3 : c < 48 <;> by_cases h4 : (57 : Int32) < c <;> simp only [h1, h2, h3, h4, if_true, if_false, Bool.false_eq_true]
section SX
variable {x : XS} {d : ST} {n N : Nat} {b c : Nat → Int32}
theorem byte_x (hc : TX c b N) (hN : N ≤ 250) (k s e v : Int32) {p : Int32} {i : Nat} (hp : p.toInt = i) : F_X7_byteAt n (xq x d (tq c (nZ N) k s e v)) p = some (if i < N then b i else -1) := by
  unfold F_X7_byteAt
  rw [xq_tape, tq_size, tq_by, iLt, hp, if_neg (show ¬ (i : Int) < (0 : Int32).toInt by show ¬ _ < (0 : Int); omega), iLe, hp, nZ_I (by omega), iLe, hp]
  by_cases z : i < N
  · rw [if_neg (by omega), if_neg (show ¬ (250 : Int32).toInt ≤ (i : Int) by show ¬ (250 : Int) ≤ _; omega), if_pos z, inb_t (by omega) (by omega), gd_t, nat_of hp, (hc i z).1]
  · rw [if_pos (by omega), if_neg z]
theorem tok_b (hc : TX c b N) {i : Nat} (h : i < N) : F_X7_tokenOf (b i) = tkT b N i := by
  have e : ¬ b i = -1 := fun q => by have := (hc i h).2; rw [q] at this; exact absurd this (by decide)
  rw [tok_eq, if_neg e]
  unfold tkT
  rw [if_neg (show ¬ N ≤ i by omega)]
theorem L99_eq (n kf : Nat) (K : XS → Option XS) (x : XS) (d : ST) (c : Nat → Int32) (z k s e v : Int32) : F_X7_step_L99 n K 1 (kf + 1) (xq x d (tq c z k s e v)) = if z ≤ e then some (xq x d (tq c z k s e v)) else (F_X7_byteAt n (xq x d (tq c z k s e v)) e).bind fun r => if F_X7_tokenOf r = k then F_X7_step_L99 n K 1 kf (xq x d (tq c z k s (e + 1) v)) else some (xq x d (tq c z k s e v)) := by
  conv => lhs; unfold F_X7_step_L99
  rw [if_neg one_n0]
  simp only [xq_tape, tq_size, tq_fin, tq_token, ts_fin, xs_tape]
theorem L99_0 (n kf : Nat) (K : XS → Option XS) (u : XS) : F_X7_step_L99 n K 0 (kf + 1) u = some u := by
  conv => lhs; unfold F_X7_step_L99
  rw [if_pos rfl]
theorem run_x (K : XS → Option XS) (P : Int32 → Bool) (hc : TX c b N) (hN : N ≤ 250) (k s v : Int32) (hP : ∀ i : Nat, i < N → (tkT b N i = k ↔ P (b i) = true)) : ∀ (q p kf : Nat), p + q = N → q < kf → F_X7_step_L99 n K 1 kf (xq x d (tq c (nZ N) k s (nZ p) v)) = some (xq x d (tq c (nZ N) k s (nZ (run P b N p)) v)) := by
  intro q
  induction q with
  | zero =>
    intro p kf h1 h2
    cases kf with
    | zero => omega
    | succ kf => rw [L99_eq, iLe, nZ_I (by omega), nZ_I (by omega), if_pos (by omega), run_end _ _ (by omega)]
  | succ q ih =>
    intro p kf h1 h2
    cases kf with
    | zero => omega
    | succ kf =>
      rw [L99_eq, iLe, nZ_I (by omega), nZ_I (by omega), if_neg (by omega), byte_x hc hN _ _ _ _ (nZ_I (p := p) (by omega)), bindV, if_pos (show p < N by omega), tok_b hc (show p < N by omega), nZ_s, ih (p + 1) kf (by omega) (by omega), run_in _ _ (show p < N by omega)]
      by_cases z : P (b p) = true
      · rw [if_pos ((hP p (by omega)).mpr z), if_pos z]
      · rw [if_neg (fun q => z ((hP p (by omega)).mp q)), if_neg z]
theorem tk_letter {i : Nat} (h : i < N) : tkT b N i = 1 ↔ F_X9_isLetter (b i) = true := by
  unfold tkT
  rw [if_neg (show ¬ N ≤ i by omega)]
  by_cases l : F_X9_isLetter (b i) = true
  · rw [if_pos l]; exact ⟨fun _ => l, fun _ => rfl⟩
  · rw [if_neg l]
    refine ⟨fun q => ?_, fun q => absurd q l⟩
    by_cases g : F_X9_isDigit (b i) = true
    · rw [if_pos g] at q; exact absurd q (by decide)
    · rw [if_neg g] at q
      by_cases z : b i = 59
      · rw [if_pos z] at q; exact absurd q (by decide)
      · rw [if_neg z] at q; exact absurd q (by decide)
theorem tk_digit {i : Nat} (h : i < N) : tkT b N i = 2 ↔ F_X9_isDigit (b i) = true := by
  unfold tkT
  rw [if_neg (show ¬ N ≤ i by omega)]
  by_cases l : F_X9_isLetter (b i) = true
  · rw [if_pos l, digit_no l]; exact ⟨fun q => absurd q (by decide), fun q => absurd q (by decide)⟩
  · rw [if_neg l]
    by_cases g : F_X9_isDigit (b i) = true
    · rw [if_pos g]; exact ⟨fun _ => g, fun _ => rfl⟩
    · rw [if_neg g]
      refine ⟨fun q => ?_, fun q => absurd q g⟩
      by_cases z : b i = 59
      · rw [if_pos z] at q; exact absurd q (by decide)
      · rw [if_neg z] at q; exact absurd q (by decide)
def stepR (n : Nat) (K : XS → Option XS) (x : XS) (d : ST) (c : Nat → Int32) (z s v r : Int32) : Option XS := if F_X7_tokenOf r = 1 then F_X7_step_L99 n K 1 n (xq x d (tq c z (F_X7_tokenOf r) s (F_J9_min_7cf53 (s + 1) z) v)) else if F_X7_tokenOf r = 2 then F_X7_step_L99 n K 1 n (xq x d (tq c z (F_X7_tokenOf r) s (F_J9_min_7cf53 (s + 1) z) v)) else F_X7_step_L99 n K 0 n (xq x d (tq c z (F_X7_tokenOf r) s (F_J9_min_7cf53 (s + 1) z) v))
theorem L8_eq (n kf : Nat) (x : XS) (d : ST) (c : Nat → Int32) (z k s e v : Int32) : F_X7_step_L8 n (kf + 1) (xq x d (tq c z k s e v)) = if z ≤ s then (F_X7_byteAt n (xq x d (tq c z k s e v)) s).bind fun r => stepR n (F_X7_step_L8 n kf) x d c z s v r else (F_X7_byteAt n (xq x d (tq c z k s e v)) s).bind fun r1 => if r1 = 32 then F_X7_step_L8 n kf (xq x d (tq c z k (s + 1) e v)) else (F_X7_byteAt n (xq x d (tq c z k s e v)) s).bind fun r => stepR n (F_X7_step_L8 n kf) x d c z s v r := by
  conv => lhs; unfold F_X7_step_L8
  unfold stepR
  simp only [xq_tape, tq_size, tq_start, tq_token, ts_token, ts_fin, ts_start, xs_tape]
theorem min_s {s : Nat} (h : s < N) (hN : N ≤ 250) : F_J9_min_7cf53 (nZ s + 1) (nZ N) = nZ (s + 1) := Int32.toInt_inj.mp (by rw [min_I, nZ_s, nZ_I (by omega), nZ_I (by omega)]; omega)
theorem min_e (hN : N ≤ 250) : F_J9_min_7cf53 (nZ N + 1) (nZ N) = nZ N := Int32.toInt_inj.mp (by rw [min_I, nZ_s, nZ_I (by omega), nZ_I (by omega)]; omega)
theorem stepR_x (K : XS → Option XS) (hc : TX c b N) (hN : N ≤ 250) (hn : 20000 ≤ n) (v : Int32) {s : Nat} (hs : s ≤ N) : stepR n K x d c (nZ N) (nZ s) v (if s < N then b s else -1) = some (xq x d (tq c (nZ N) (tkT b N s) (nZ s) (nZ (enT b N s)) v)) := by
  obtain ⟨n', rfl⟩ : ∃ n', n = n' + 1 := ⟨n - 1, by omega⟩
  unfold stepR
  by_cases z : s < N
  · rw [if_pos z, tok_b hc z, min_s z hN]
    by_cases t1 : tkT b N s = 1
    · have l := (tk_letter z).mp t1
      have e1 : enT b N s = run F_X9_isLetter b N (s + 1) := by unfold enT; rw [if_neg (show ¬ N ≤ s by omega), if_pos l, run_in _ _ z, if_pos l]
      rw [if_pos t1, run_x K F_X9_isLetter hc hN _ _ _ (fun i hi => by rw [t1]; exact tk_letter hi) (N - (s + 1)) (s + 1) _ (by omega) (by omega), e1]
    · rw [if_neg t1]
      have l : ¬ F_X9_isLetter (b s) = true := fun q => t1 ((tk_letter z).mpr q)
      by_cases t2 : tkT b N s = 2
      · have g := (tk_digit z).mp t2
        have e1 : enT b N s = run F_X9_isDigit b N (s + 1) := by unfold enT; rw [if_neg (show ¬ N ≤ s by omega), if_neg l, if_pos g, run_in _ _ z, if_pos g]
        rw [if_pos t2, run_x K F_X9_isDigit hc hN _ _ _ (fun i hi => by rw [t2]; exact tk_digit hi) (N - (s + 1)) (s + 1) _ (by omega) (by omega), e1]
      · have g : ¬ F_X9_isDigit (b s) = true := fun q => t2 ((tk_digit z).mpr q)
        have e1 : enT b N s = s + 1 := by unfold enT; rw [if_neg (show ¬ N ≤ s by omega), if_neg l, if_neg g]
        rw [if_neg t2, L99_0, e1]
  · have es : s = N := by omega
    subst es
    have e0 : F_X7_tokenOf (-1) = 0 := by decide
    have e1 : enT b s s = s := by unfold enT; rw [if_pos (Nat.le_refl _)]
    rw [if_neg z, e0, min_e hN, if_neg (by decide), if_neg (by decide), L99_0, e1, tk_end b (Nat.le_refl _)]
theorem L8_x (hc : TX c b N) (hN : N ≤ 250) (hn : 20000 ≤ n) (k e v : Int32) : ∀ (q p kf : Nat), p + q = N → q < kf → F_X7_step_L8 n kf (xq x d (tq c (nZ N) k (nZ p) e v)) = some (xq x d (tq c (nZ N) (tkT b N (skp b N p)) (nZ (skp b N p)) (nZ (enT b N (skp b N p))) v)) := by
  intro q
  induction q with
  | zero =>
    intro p kf h1 h2
    cases kf with
    | zero => omega
    | succ kf => rw [L8_eq, iLe, nZ_I (by omega), nZ_I (by omega), if_pos (by omega), byte_x hc hN _ _ _ _ (nZ_I (p := p) (by omega)), bindV, stepR_x _ hc hN hn v (show p ≤ N by omega), skp_end _ (by omega)]
  | succ q ih =>
    intro p kf h1 h2
    cases kf with
    | zero => omega
    | succ kf =>
      rw [L8_eq, iLe, nZ_I (by omega), nZ_I (by omega), if_neg (by omega), byte_x hc hN _ _ _ _ (nZ_I (p := p) (by omega)), bindV, bindV, stepR_x _ hc hN hn v (show p ≤ N by omega), nZ_s, ih (p + 1) kf (by omega) (by omega), skp_in _ (show p < N by omega), if_pos (show p < N by omega)]
      by_cases z : b p = 32
      · rw [if_pos z, if_pos z]
      · rw [if_neg z, if_neg z]
/-- the class with the TOKEN at s looked at -/
def xT (x : XS) (d : ST) (c b : Nat → Int32) (N s : Nat) (v : Int32) : XS := xq x d (tq c (nZ N) (tkT b N s) (nZ s) (nZ (enT b N s)) v)
theorem step_x (hc : TX c b N) (hN : N ≤ 250) (hn : 20000 ≤ n) (k s v : Int32) {p : Nat} (hp : p ≤ N) : F_X7_step n (xq x d (tq c (nZ N) k s (nZ p) v)) = some (xT x d c b N (skp b N p) v) := by
  unfold F_X7_step
  rw [xq_tape, tq_fin, ts_start, xs_tape]
  exact L8_x hc hN hn k (nZ p) v (N - p) p n (by omega) (by omega)
theorem step_T (hc : TX c b N) (hN : N ≤ 250) (hn : 20000 ≤ n) (v : Int32) {s : Nat} (hs : s ≤ N) : F_X7_step n (xT x d c b N s v) = some (xT x d c b N (skp b N (enT b N s)) v) := step_x hc hN hn _ _ v (en_b b hs).2.1
def sv (u : XS) (v : Int32) : XS := x_set_tape u (tp_set_value (x_tape u) v)
theorem sv_q (x : XS) (d : ST) (c : Nat → Int32) (z k s e v w : Int32) : sv (xq x d (tq c z k s e v)) w = xq x d (tq c z k s e w) := by
  unfold sv
  rw [xq_tape, ts_value, xs_tape]
theorem L37_at (n kf : Nat) (lo hi w : Int32) (u : XS) : F_X7_takeNumber_L37 n lo hi (kf + 1) w u = if tp_fin (x_tape u) ≤ w then some (F_X8_isIn (tp_value (x_tape u)) lo hi, u) else (F_X7_byteAt n u w).bind fun r => F_X7_takeNumber_L37 n lo hi kf (w + 1) (sv u (vl (tp_value (x_tape u)) r)) := by
  conv => lhs; unfold F_X7_takeNumber_L37
  unfold sv vl
  rfl
theorem num_L (hc : TX c b N) (hN : N ≤ 250) (lo hi k s : Int32) {e : Nat} (he : e ≤ N) : ∀ (q w kf : Nat), w + q = e → q < kf → ∀ v : Int32, F_X7_takeNumber_L37 n lo hi kf (nZ w) (xq x d (tq c (nZ N) k s (nZ e) v)) = some (F_X8_isIn (valT b q w v) lo hi, xq x d (tq c (nZ N) k s (nZ e) (valT b q w v))) := by
  intro q
  induction q with
  | zero =>
    intro w kf h1 h2 v
    cases kf with
    | zero => omega
    | succ kf =>
      rw [L37_at, xq_tape, tq_fin, tq_value, iLe, nZ_I (by omega), nZ_I (by omega), if_pos (by omega)]
      rfl
  | succ q ih =>
    intro w kf h1 h2 v
    cases kf with
    | zero => omega
    | succ kf =>
      rw [L37_at, xq_tape, tq_fin, tq_value, iLe, nZ_I (by omega), nZ_I (by omega), if_neg (by omega), byte_x hc hN _ _ _ _ (nZ_I (p := w) (by omega)), bindV, if_pos (show w < N by omega), sv_q, nZ_s, ih (w + 1) kf (by omega) (by omega)]
      rfl
theorem x_num (hc : TX c b N) (hN : N ≤ 250) (hn : 20000 ≤ n) (v lo hi : Int32) (hhi : hi.toInt ≤ 9999) {s0 s : Nat} (h0 : s0 ≤ N) (hs : s = skp b N (enT b N s0)) : ∃ v', F_X7_takeNumber n (xT x d c b N s0 v) lo hi = some (decide (numP b N s lo.toInt hi.toInt), xT x d c b N s v') ∧ (numP b N s lo.toInt hi.toInt → v' = figT b s (enT b N s)) := by
  have e0 := en_b b h0
  have e1 := skp_b b e0.2.1
  rw [← hs] at e1
  have e2 := en_b b e1.2
  unfold F_X7_takeNumber
  rw [step_T hc hN hn v h0, bindV, ← hs]
  unfold xT
  rw [xq_tape, tq_token, tq_fin, tq_start, ts_value, xs_tape, nZ_d e2.1 (by omega), iLe, nZ_I (by omega)]
  by_cases t : tkT b N s = 2
  · rw [if_pos t]
    by_cases q : enT b N s - s ≤ 4
    · have ef : figT b s (enT b N s) = valT b (enT b N s - s) s 0 := if_pos q
      rw [if_pos (show ((enT b N s - s : Nat) : Int) ≤ (4 : Int32).toInt by show _ ≤ (4 : Int); omega), num_L hc hN lo hi _ _ e2.2.1 (enT b N s - s) s n (by omega) (by omega) 0, isIn_eq, ← ef]
      refine ⟨figT b s (enT b N s), ?_, fun _ => rfl⟩
      rw [decide_eq_decide.mpr (show (lo.toInt ≤ (figT b s (enT b N s)).toInt ∧ (figT b s (enT b N s)).toInt ≤ hi.toInt) ↔ numP b N s lo.toInt hi.toInt from ⟨fun h => ⟨t, h⟩, fun h => h.2⟩)]
    · have ef : figT b s (enT b N s) = 100000 := if_neg q
      have no : ¬ numP b N s lo.toInt hi.toInt := fun h => by
        have := h.2.2
        rw [ef] at this
        replace this : (100000 : Int) ≤ _ := this
        omega
      rw [if_neg (show ¬ ((enT b N s - s : Nat) : Int) ≤ (4 : Int32).toInt by show ¬ _ ≤ (4 : Int); omega), decide_eq_false no]
      exact ⟨v, rfl, fun h => absurd h no⟩
  · have no : ¬ numP b N s lo.toInt hi.toInt := fun h => t h.1
    rw [if_neg t, decide_eq_false no]
    exact ⟨v, rfl, fun h => absurd h no⟩
/-! words -/
def wdF (b : Nat → Int32) (s : Nat) (w : List Int32) : Nat → Nat → Bool
  | 0, _ => true
  | k + 1, i => if b (s + i) = strch w (nZ i) then wdF b s w k (i + 1) else false
def isW (b : Nat → Int32) (N s : Nat) (w : List Int32) : Bool := if tkT b N s = 1 then if enT b N s - s = w.length then wdF b s w w.length 0 else false else false
theorem nI_Z (k : Nat) : nI k = nZ k := rfl
theorem word_x (hc : TX c b N) (hN : N ≤ 250) (k e v : Int32) {s : Nat} (w : List Int32) (hw : s + w.length ≤ N) : ∀ (q i kf : Nat), i + q = w.length → q < kf → F_X7_isWord_L28 n (xq x d (tq c (nZ N) k (nZ s) e v)) w kf (nZ i) = some (wdF b s w q i) := by
  intro q
  induction q with
  | zero =>
    intro i kf h1 h2
    cases kf with
    | zero => omega
    | succ kf =>
      unfold F_X7_isWord_L28 wdF
      rw [nI_Z, iLe, nZ_I (by omega), nZ_I (by omega), if_pos (by omega)]
  | succ q ih =>
    intro i kf h1 h2
    cases kf with
    | zero => omega
    | succ kf =>
      have es : (nZ s + nZ i).toInt = ((s + i : Nat) : Int) := by rw [tA (by rw [nZ_I (by omega), nZ_I (by omega)]; omega) (by rw [nZ_I (by omega), nZ_I (by omega)]; omega), nZ_I (by omega), nZ_I (by omega)]; omega
      unfold F_X7_isWord_L28 wdF
      rw [nI_Z, iLe, nZ_I (by omega), nZ_I (by omega), if_neg (by omega), nZ_in (show i < w.length by omega) (by omega), gd_t, xq_tape, tq_start, byte_x hc hN _ _ _ _ es, bindV, if_pos (show s + i < N by omega), nZ_s, ih (i + 1) kf (by omega) (by omega)]
      by_cases z : b (s + i) = strch w (nZ i)
      · rw [if_pos z.symm, if_pos z]
      · rw [if_neg (fun q => z q.symm), if_neg z]
theorem isW_x (hc : TX c b N) (hN : N ≤ 250) (hn : 20000 ≤ n) (v : Int32) {s : Nat} (hs : s ≤ N) (w : List Int32) (hw : w.length ≤ 250) : F_X7_isWord n (xT x d c b N s v) w = some (isW b N s w) := by
  have e2 := en_b b hs
  unfold F_X7_isWord isW xT
  rw [xq_tape, tq_token, tq_fin, tq_start, nZ_d e2.1 (by omega), nI_Z, iEq (nZ (enT b N s - s)), nZ_I (by omega), nZ_I (by omega)]
  by_cases t : tkT b N s = 1
  · rw [if_pos t, if_pos t]
    by_cases q : enT b N s - s = w.length
    · rw [if_pos (by omega), if_pos q]
      exact word_x hc hN _ _ _ w (by omega) w.length 0 n (by omega) (by omega)
    · rw [if_neg (by omega), if_neg q]
  · rw [if_neg t, if_neg t]
theorem word_m {m : MS} {D : DR} (hN : N ≤ 250) (hb : m_tape m = b) (a t g fl : Int32) (to : Nat → Int32) (ss : Int32) {s : Nat} (w : List Int32) (hw : s + w.length ≤ N) : ∀ (q i kf : Nat), i + q = w.length → q < kf → F_X9_isWord_L28 n (mD m D a t (nZ s) g fl to ss) w kf (nZ i) = some (wdF b s w q i) := by
  intro q
  induction q with
  | zero =>
    intro i kf h1 h2
    cases kf with
    | zero => omega
    | succ kf =>
      unfold F_X9_isWord_L28 wdF
      rw [nI_Z, iLe, nZ_I (by omega), nZ_I (by omega), if_pos (by omega)]
  | succ q ih =>
    intro i kf h1 h2
    cases kf with
    | zero => omega
    | succ kf =>
      have es : (nZ s + nZ i).toInt = ((s + i : Nat) : Int) := by rw [tA (by rw [nZ_I (by omega), nZ_I (by omega)]; omega) (by rw [nZ_I (by omega), nZ_I (by omega)]; omega), nZ_I (by omega), nZ_I (by omega)]; omega
      unfold F_X9_isWord_L28 wdF
      rw [nI_Z, iLe, nZ_I (by omega), nZ_I (by omega), if_neg (by omega), nZ_in (show i < w.length by omega) (by omega), gd_t, md_frm, md_tape, hb, inb_t (by omega) (by omega), gd_t, nat_of es, nZ_s, ih (i + 1) kf (by omega) (by omega)]
      split <;> rfl
theorem isW_m {m : MS} {D : DR} (hN : N ≤ 250) (hn : 20000 ≤ n) (hb : m_tape m = b) (fl : Int32) (to : Nat → Int32) (ss : Int32) {s : Nat} (hs : s ≤ N) (w : List Int32) (hw : w.length ≤ 250) : F_X9_isWord n (mT m D b N s fl to ss) w = some (isW b N s w) := by
  have e2 := en_b b hs
  unfold F_X9_isWord isW mT
  rw [md_token, md_atp, md_frm, nZ_d e2.1 (by omega), nI_Z, iEq (nZ (enT b N s - s)), nZ_I (by omega), nZ_I (by omega)]
  by_cases t : tkT b N s = 1
  · rw [if_pos t, if_pos t]
    by_cases q : enT b N s - s = w.length
    · rw [if_pos (by omega), if_pos q]
      exact word_m hN hb _ _ _ _ _ _ w (by omega) w.length 0 n (by omega) (by omega)
    · rw [if_neg (by omega), if_neg q]
  · rw [if_neg t, if_neg t]
/-- two words of other first letters -/
theorem isW_two {s : Nat} (w w' : List Int32) (h : isW b N s w = true) (h0 : 0 < w.length) (hd : ¬ strch w (nZ 0) = strch w' (nZ 0)) (h0' : 0 < w'.length) : isW b N s w' = false := by
  unfold isW at h
  unfold isW
  by_cases t : tkT b N s = 1
  · rw [if_pos t] at h
    rw [if_pos t]
    by_cases q : enT b N s - s = w.length
    · rw [if_pos q] at h
      by_cases q' : enT b N s - s = w'.length
      · rw [if_pos q']
        obtain ⟨k, hk⟩ : ∃ k, w.length = k + 1 := ⟨w.length - 1, by omega⟩
        obtain ⟨k', hk'⟩ : ∃ k, w'.length = k + 1 := ⟨w'.length - 1, by omega⟩
        rw [hk] at h
        rw [hk']
        unfold wdF at h
        unfold wdF
        by_cases z : b (s + 0) = strch w (nZ 0)
        · rw [if_neg (fun q => hd (z.symm.trans q))]
        · rw [if_neg z] at h
          cases h
      · rw [if_neg q']
    · rw [if_neg q] at h
      cases h
  · rw [if_neg t]
theorem isW_lt {s : Nat} (w : List Int32) (h : isW b N s w = true) (hs : s ≤ N) (h0 : 1 < w.length) : s + 1 < enT b N s ∧ enT b N s ≤ N := by
  have e2 := en_b b hs
  unfold isW at h
  by_cases t : tkT b N s = 1
  · rw [if_pos t] at h
    by_cases q : enT b N s - s = w.length
    · omega
    · rw [if_neg q] at h
      cases h
  · rw [if_neg t] at h
    cases h
end SX
