/-! ===== a SKY from THE TAPE: the TOKENS ===== -/
def skipT (b : Nat → Int32) (N : Nat) : Nat → Nat → Nat
  | 0, p => p
  | f + 1, p => if b p = 32 then skipT b N f (p + 1) else p
def skp (b : Nat → Int32) (N p : Nat) : Nat := skipT b N (N - p) p
def runT (P : Int32 → Bool) (b : Nat → Int32) (N : Nat) : Nat → Nat → Nat
  | 0, p => p
  | f + 1, p => if P (b p) = true then runT P b N f (p + 1) else p
def run (P : Int32 → Bool) (b : Nat → Int32) (N p : Nat) : Nat := runT P b N (N - p) p
theorem skp_end (b : Nat → Int32) {N p : Nat} (h : N ≤ p) : skp b N p = p := by
  unfold skp
  rw [show N - p = 0 by omega]
  rfl
theorem skp_in (b : Nat → Int32) {N p : Nat} (h : p < N) : skp b N p = if b p = 32 then skp b N (p + 1) else p := by
  unfold skp
  rw [show N - p = (N - (p + 1)) + 1 by omega]
  rfl
theorem run_end (P : Int32 → Bool) (b : Nat → Int32) {N p : Nat} (h : N ≤ p) : run P b N p = p := by
  unfold run
  rw [show N - p = 0 by omega]
  rfl
theorem run_in (P : Int32 → Bool) (b : Nat → Int32) {N p : Nat} (h : p < N) : run P b N p = if P (b p) = true then run P b N (p + 1) else p := by
  unfold run
  rw [show N - p = (N - (p + 1)) + 1 by omega]
  rfl
theorem skipT_b (b : Nat → Int32) (N : Nat) : ∀ (f p : Nat), p ≤ skipT b N f p ∧ skipT b N f p ≤ p + f
  | 0, p => ⟨Nat.le_refl _, Nat.le_refl _⟩
  | f + 1, p => by
    have := skipT_b b N f (p + 1)
    unfold skipT
    split <;> omega
theorem runT_b (P : Int32 → Bool) (b : Nat → Int32) (N : Nat) : ∀ (f p : Nat), p ≤ runT P b N f p ∧ runT P b N f p ≤ p + f
  | 0, p => ⟨Nat.le_refl _, Nat.le_refl _⟩
  | f + 1, p => by
    have := runT_b P b N f (p + 1)
    unfold runT
    split <;> omega
theorem skp_b (b : Nat → Int32) {N p : Nat} (h : p ≤ N) : p ≤ skp b N p ∧ skp b N p ≤ N := by
  have := skipT_b b N (N - p) p
  unfold skp
  omega
theorem run_b (P : Int32 → Bool) (b : Nat → Int32) {N p : Nat} (h : p ≤ N) : p ≤ run P b N p ∧ run P b N p ≤ N := by
  have := runT_b P b N (N - p) p
  unfold run
  omega
def tkT (b : Nat → Int32) (N p : Nat) : Int32 := if N ≤ p then 0 else if F_X9_isLetter (b p) = true then 1 else if F_X9_isDigit (b p) = true then 2 else if b p = 59 then 3 else 4
def enT (b : Nat → Int32) (N p : Nat) : Nat := if N ≤ p then p else if F_X9_isLetter (b p) = true then run F_X9_isLetter b N p else if F_X9_isDigit (b p) = true then run F_X9_isDigit b N p else p + 1
/-- one more figure -/
def vl (v c : Int32) : Int32 := 10 * v + c - 48
def valT (b : Nat → Int32) : Nat → Nat → Int32 → Int32
  | 0, _, v => v
  | k + 1, i, v => valT b k (i + 1) (vl v (b i))
def figT (b : Nat → Int32) (s e : Nat) : Int32 := if e - s ≤ 4 then valT b (e - s) s 0 else 100000
def gT (b : Nat → Int32) (N s : Nat) : Int32 := if tkT b N s = 2 then figT b s (enT b N s) else 0
theorem valT_snoc (b : Nat → Int32) : ∀ (k i : Nat) (v : Int32), valT b (k + 1) i v = vl (valT b k i v) (b (i + k))
  | 0, i, v => rfl
  | k + 1, i, v => by
    have h := valT_snoc b k (i + 1) (vl v (b i))
    rw [show i + 1 + k = i + (k + 1) by omega] at h
    exact h
theorem fig_next (b : Nat → Int32) {s i : Nat} (h : s ≤ i) : figT b s (i + 1) = if 4 ≤ i - s then 100000 else vl (figT b s i) (b i) := by
  unfold figT
  by_cases c : 4 ≤ i - s
  · rw [if_pos c, if_neg (by omega)]
  · rw [if_neg c, if_pos (by omega), if_pos (by omega), show i + 1 - s = (i - s) + 1 by omega, valT_snoc, show s + (i - s) = i by omega]
theorem fig_0 (b : Nat → Int32) (s : Nat) : figT b s s = 0 := by
  unfold figT
  rw [if_pos (by omega), Nat.sub_self]
  rfl
theorem en_b (b : Nat → Int32) {N p : Nat} (h : p ≤ N) : p ≤ enT b N p ∧ enT b N p ≤ N ∧ (p < N → p < enT b N p) := by
  unfold enT
  by_cases c : N ≤ p
  · rw [if_pos c]; omega
  · rw [if_neg c]
    by_cases l : F_X9_isLetter (b p) = true
    · rw [if_pos l, run_in _ _ (by omega), if_pos l]
      have := run_b F_X9_isLetter b (N := N) (p := p + 1) (by omega)
      omega
    · rw [if_neg l]
      by_cases g : F_X9_isDigit (b p) = true
      · rw [if_pos g, run_in _ _ (by omega), if_pos g]
        have := run_b F_X9_isDigit b (N := N) (p := p + 1) (by omega)
        omega
      · rw [if_neg g]; omega
theorem tk_end (b : Nat → Int32) {N p : Nat} (h : N ≤ p) : tkT b N p = 0 := if_pos h
theorem tk_lt (b : Nat → Int32) {N p : Nat} (h : ¬ tkT b N p = 0) : p < N := by
  by_cases c : N ≤ p
  · exact absurd (tk_end b c) h
  · omega
def nZ (p : Nat) : Int32 := Int32.ofNat p
theorem nZ_I {p : Nat} (h : p ≤ 1000) : (nZ p).toInt = p := Int32.toInt_ofNat_of_lt (by omega)
theorem nZ_s (p : Nat) : nZ p + 1 = nZ (p + 1) := (Int32.ofNat_add p 1).symm
theorem nZ_d {p q : Nat} (h1 : q ≤ p) (h2 : p ≤ 1000) : nZ p - nZ q = nZ (p - q) := Int32.toInt_inj.mp (by
  have e : (nZ p - nZ q).toInt = (p : Int) - q := by rw [tS (by rw [nZ_I (by omega), nZ_I (by omega)]; omega) (by rw [nZ_I (by omega), nZ_I (by omega)]; omega), nZ_I (by omega), nZ_I (by omega)]
  rw [e, nZ_I (by omega)]
  omega)
theorem nZ_n {p : Nat} (h : p ≤ 1000) : (nZ p).toNatClampNeg = p := nat_of (nZ_I h)
theorem nZ_in {p N : Nat} (h : p < N) (h2 : N ≤ 1000) : inb (nZ p) N = true := inb_t (by rw [nZ_I (by omega)]; omega) (by rw [nZ_I (by omega)]; omega)
theorem digit_no {c : Int32} (h : F_X9_isLetter c = true) : F_X9_isDigit c = false := by
  unfold F_X9_isLetter at h
  unfold F_X9_isDigit
  rw [iLt, iLt] at h
  rw [iLt, iLt]
  by_cases c1 : c.toInt < (97 : Int32).toInt
  · rw [if_pos c1] at h; cases h
  · replace c1 : ¬ c.toInt < 97 := c1
    rw [if_neg (show ¬ c.toInt < (48 : Int32).toInt by show ¬ _ < (48 : Int); omega), if_pos (show (57 : Int32).toInt < c.toInt by show (57 : Int) < _; omega)]
abbrev DR : Type := (Nat → Int32) × Int32 × (Nat → Nat → Int32) × Int32 × (Nat → Int32) × Int32 × (Nat → Int32)
/-- the model m with another draft, another place on THE TAPE -/
def mD (m : MS) (D : DR) (a t f g fl : Int32) (to : Nat → Int32) (ss : Int32) : MS := (m_shelf m, m_rowSort m, m_rowSize m, m_rows m, m_moved m, m_eveKind m, m_eveDay m, m_tape m, m_tapeSize m, m_refused m, D.1, D.2.1, D.2.2.1, D.2.2.2.1, D.2.2.2.2.1, D.2.2.2.2.2.1, D.2.2.2.2.2.2, m_today m, m_looks m, m_seed m, m_kept m, m_tried m, a, t, f, g, fl, to, ss)
def dM (m : MS) : DR := (m_asked m, m_notches m, m_notch m, m_stones m, m_stone m, m_clouds m, m_cloud m)
theorem md_self (m : MS) : mD m (dM m) (m_atp m) (m_token m) (m_frm m) (m_figures m) (m_fault m) (m_told m) (m_statements m) = m := Eq.trans rfl rfl
theorem md_shelf (m : MS) (D : DR) (a t f g fl : Int32) (to : Nat → Int32) (ss : Int32) : m_shelf (mD m D a t f g fl to ss) = m_shelf m := Eq.trans rfl rfl
theorem md_rowSort (m : MS) (D : DR) (a t f g fl : Int32) (to : Nat → Int32) (ss : Int32) : m_rowSort (mD m D a t f g fl to ss) = m_rowSort m := Eq.trans rfl rfl
theorem md_rowSize (m : MS) (D : DR) (a t f g fl : Int32) (to : Nat → Int32) (ss : Int32) : m_rowSize (mD m D a t f g fl to ss) = m_rowSize m := Eq.trans rfl rfl
theorem md_rows (m : MS) (D : DR) (a t f g fl : Int32) (to : Nat → Int32) (ss : Int32) : m_rows (mD m D a t f g fl to ss) = m_rows m := Eq.trans rfl rfl
theorem md_moved (m : MS) (D : DR) (a t f g fl : Int32) (to : Nat → Int32) (ss : Int32) : m_moved (mD m D a t f g fl to ss) = m_moved m := Eq.trans rfl rfl
theorem md_eveKind (m : MS) (D : DR) (a t f g fl : Int32) (to : Nat → Int32) (ss : Int32) : m_eveKind (mD m D a t f g fl to ss) = m_eveKind m := Eq.trans rfl rfl
theorem md_eveDay (m : MS) (D : DR) (a t f g fl : Int32) (to : Nat → Int32) (ss : Int32) : m_eveDay (mD m D a t f g fl to ss) = m_eveDay m := Eq.trans rfl rfl
theorem md_tape (m : MS) (D : DR) (a t f g fl : Int32) (to : Nat → Int32) (ss : Int32) : m_tape (mD m D a t f g fl to ss) = m_tape m := Eq.trans rfl rfl
theorem md_tapeSize (m : MS) (D : DR) (a t f g fl : Int32) (to : Nat → Int32) (ss : Int32) : m_tapeSize (mD m D a t f g fl to ss) = m_tapeSize m := Eq.trans rfl rfl
theorem md_refused (m : MS) (D : DR) (a t f g fl : Int32) (to : Nat → Int32) (ss : Int32) : m_refused (mD m D a t f g fl to ss) = m_refused m := Eq.trans rfl rfl
theorem md_asked (m : MS) (D : DR) (a t f g fl : Int32) (to : Nat → Int32) (ss : Int32) : m_asked (mD m D a t f g fl to ss) = D.1 := Eq.trans rfl rfl
theorem md_notches (m : MS) (D : DR) (a t f g fl : Int32) (to : Nat → Int32) (ss : Int32) : m_notches (mD m D a t f g fl to ss) = D.2.1 := Eq.trans rfl rfl
theorem md_notch (m : MS) (D : DR) (a t f g fl : Int32) (to : Nat → Int32) (ss : Int32) : m_notch (mD m D a t f g fl to ss) = D.2.2.1 := Eq.trans rfl rfl
theorem md_stones (m : MS) (D : DR) (a t f g fl : Int32) (to : Nat → Int32) (ss : Int32) : m_stones (mD m D a t f g fl to ss) = D.2.2.2.1 := Eq.trans rfl rfl
theorem md_stone (m : MS) (D : DR) (a t f g fl : Int32) (to : Nat → Int32) (ss : Int32) : m_stone (mD m D a t f g fl to ss) = D.2.2.2.2.1 := Eq.trans rfl rfl
theorem md_clouds (m : MS) (D : DR) (a t f g fl : Int32) (to : Nat → Int32) (ss : Int32) : m_clouds (mD m D a t f g fl to ss) = D.2.2.2.2.2.1 := Eq.trans rfl rfl
theorem md_cloud (m : MS) (D : DR) (a t f g fl : Int32) (to : Nat → Int32) (ss : Int32) : m_cloud (mD m D a t f g fl to ss) = D.2.2.2.2.2.2 := Eq.trans rfl rfl
theorem md_today (m : MS) (D : DR) (a t f g fl : Int32) (to : Nat → Int32) (ss : Int32) : m_today (mD m D a t f g fl to ss) = m_today m := Eq.trans rfl rfl
theorem md_looks (m : MS) (D : DR) (a t f g fl : Int32) (to : Nat → Int32) (ss : Int32) : m_looks (mD m D a t f g fl to ss) = m_looks m := Eq.trans rfl rfl
theorem md_seed (m : MS) (D : DR) (a t f g fl : Int32) (to : Nat → Int32) (ss : Int32) : m_seed (mD m D a t f g fl to ss) = m_seed m := Eq.trans rfl rfl
theorem md_kept (m : MS) (D : DR) (a t f g fl : Int32) (to : Nat → Int32) (ss : Int32) : m_kept (mD m D a t f g fl to ss) = m_kept m := Eq.trans rfl rfl
theorem md_tried (m : MS) (D : DR) (a t f g fl : Int32) (to : Nat → Int32) (ss : Int32) : m_tried (mD m D a t f g fl to ss) = m_tried m := Eq.trans rfl rfl
theorem md_atp (m : MS) (D : DR) (a t f g fl : Int32) (to : Nat → Int32) (ss : Int32) : m_atp (mD m D a t f g fl to ss) = a := Eq.trans rfl rfl
theorem md_token (m : MS) (D : DR) (a t f g fl : Int32) (to : Nat → Int32) (ss : Int32) : m_token (mD m D a t f g fl to ss) = t := Eq.trans rfl rfl
theorem md_frm (m : MS) (D : DR) (a t f g fl : Int32) (to : Nat → Int32) (ss : Int32) : m_frm (mD m D a t f g fl to ss) = f := Eq.trans rfl rfl
theorem md_figures (m : MS) (D : DR) (a t f g fl : Int32) (to : Nat → Int32) (ss : Int32) : m_figures (mD m D a t f g fl to ss) = g := Eq.trans rfl rfl
theorem md_fault (m : MS) (D : DR) (a t f g fl : Int32) (to : Nat → Int32) (ss : Int32) : m_fault (mD m D a t f g fl to ss) = fl := Eq.trans rfl rfl
theorem md_told (m : MS) (D : DR) (a t f g fl : Int32) (to : Nat → Int32) (ss : Int32) : m_told (mD m D a t f g fl to ss) = to := Eq.trans rfl rfl
theorem md_statements (m : MS) (D : DR) (a t f g fl : Int32) (to : Nat → Int32) (ss : Int32) : m_statements (mD m D a t f g fl to ss) = ss := Eq.trans rfl rfl
theorem mz_atp (m : MS) (D : DR) (a t f g fl : Int32) (to : Nat → Int32) (ss : Int32) (v : Int32) : m_set_atp (mD m D a t f g fl to ss) v = mD m D v t f g fl to ss := Eq.trans rfl rfl
theorem mz_token (m : MS) (D : DR) (a t f g fl : Int32) (to : Nat → Int32) (ss : Int32) (v : Int32) : m_set_token (mD m D a t f g fl to ss) v = mD m D a v f g fl to ss := Eq.trans rfl rfl
theorem mz_frm (m : MS) (D : DR) (a t f g fl : Int32) (to : Nat → Int32) (ss : Int32) (v : Int32) : m_set_frm (mD m D a t f g fl to ss) v = mD m D a t v g fl to ss := Eq.trans rfl rfl
theorem mz_figures (m : MS) (D : DR) (a t f g fl : Int32) (to : Nat → Int32) (ss : Int32) (v : Int32) : m_set_figures (mD m D a t f g fl to ss) v = mD m D a t f v fl to ss := Eq.trans rfl rfl
theorem mz_fault (m : MS) (D : DR) (a t f g fl : Int32) (to : Nat → Int32) (ss : Int32) (v : Int32) : m_set_fault (mD m D a t f g fl to ss) v = mD m D a t f g v to ss := Eq.trans rfl rfl
theorem mz_told (m : MS) (D : DR) (a t f g fl : Int32) (to : Nat → Int32) (ss : Int32) (v : Nat → Int32) : m_set_told (mD m D a t f g fl to ss) v = mD m D a t f g fl v ss := Eq.trans rfl rfl
theorem mz_statements (m : MS) (D : DR) (a t f g fl : Int32) (to : Nat → Int32) (ss : Int32) (v : Int32) : m_set_statements (mD m D a t f g fl to ss) v = mD m D a t f g fl to v := Eq.trans rfl rfl
theorem mz_asked (m : MS) (D : DR) (a t f g fl : Int32) (to : Nat → Int32) (ss : Int32) (v : Nat → Int32) : m_set_asked (mD m D a t f g fl to ss) v = mD m (v, D.2.1, D.2.2.1, D.2.2.2.1, D.2.2.2.2.1, D.2.2.2.2.2.1, D.2.2.2.2.2.2) a t f g fl to ss := Eq.trans rfl rfl
theorem mz_notches (m : MS) (D : DR) (a t f g fl : Int32) (to : Nat → Int32) (ss : Int32) (v : Int32) : m_set_notches (mD m D a t f g fl to ss) v = mD m (D.1, v, D.2.2.1, D.2.2.2.1, D.2.2.2.2.1, D.2.2.2.2.2.1, D.2.2.2.2.2.2) a t f g fl to ss := Eq.trans rfl rfl
theorem mz_notch (m : MS) (D : DR) (a t f g fl : Int32) (to : Nat → Int32) (ss : Int32) (v : Nat → Nat → Int32) : m_set_notch (mD m D a t f g fl to ss) v = mD m (D.1, D.2.1, v, D.2.2.2.1, D.2.2.2.2.1, D.2.2.2.2.2.1, D.2.2.2.2.2.2) a t f g fl to ss := Eq.trans rfl rfl
theorem mz_stones (m : MS) (D : DR) (a t f g fl : Int32) (to : Nat → Int32) (ss : Int32) (v : Int32) : m_set_stones (mD m D a t f g fl to ss) v = mD m (D.1, D.2.1, D.2.2.1, v, D.2.2.2.2.1, D.2.2.2.2.2.1, D.2.2.2.2.2.2) a t f g fl to ss := Eq.trans rfl rfl
theorem mz_stone (m : MS) (D : DR) (a t f g fl : Int32) (to : Nat → Int32) (ss : Int32) (v : Nat → Int32) : m_set_stone (mD m D a t f g fl to ss) v = mD m (D.1, D.2.1, D.2.2.1, D.2.2.2.1, v, D.2.2.2.2.2.1, D.2.2.2.2.2.2) a t f g fl to ss := Eq.trans rfl rfl
theorem mz_clouds (m : MS) (D : DR) (a t f g fl : Int32) (to : Nat → Int32) (ss : Int32) (v : Int32) : m_set_clouds (mD m D a t f g fl to ss) v = mD m (D.1, D.2.1, D.2.2.1, D.2.2.2.1, D.2.2.2.2.1, v, D.2.2.2.2.2.2) a t f g fl to ss := Eq.trans rfl rfl
theorem mz_cloud (m : MS) (D : DR) (a t f g fl : Int32) (to : Nat → Int32) (ss : Int32) (v : Nat → Int32) : m_set_cloud (mD m D a t f g fl to ss) v = mD m (D.1, D.2.1, D.2.2.1, D.2.2.2.1, D.2.2.2.2.1, D.2.2.2.2.2.1, v) a t f g fl to ss := Eq.trans rfl rfl
/-! the model looks -/
section SK
variable {m : MS} {n N : Nat} {b : Nat → Int32} {D : DR}
theorem L90_eq (n kf : Nat) (K : MS → Option MS) (m : MS) (D : DR) (a t f g fl : Int32) (to : Nat → Int32) (ss : Int32) : F_X9_look_L90 n K (kf + 1) (mD m D a t f g fl to ss) = if m_tapeSize m ≤ a then some (mD m D a t f g fl to ss) else gd (inb a 250) (bf (F_X9_isLetter (m_tape m a.toNatClampNeg)) (F_X9_look_L90 n K kf (mD m D (a + 1) t f g fl to ss)) (some (mD m D a t f g fl to ss))) := by
  conv => lhs; unfold F_X9_look_L90
  rw [md_tapeSize, md_atp, md_tape, mz_atp]
theorem letters_L (K : MS → Option MS) (hN : N ≤ 250) (hs : m_tapeSize m = nZ N) (hb : m_tape m = b) (t f g fl : Int32) (to : Nat → Int32) (ss : Int32) : ∀ (k p kf : Nat), p + k = N → k < kf → F_X9_look_L90 n K kf (mD m D (nZ p) t f g fl to ss) = some (mD m D (nZ (run F_X9_isLetter b N p)) t f g fl to ss) := by
  intro k
  induction k with
  | zero =>
    intro p kf h1 h2
    cases kf with
    | zero => omega
    | succ kf => rw [L90_eq, hs, iLe, nZ_I (by omega), nZ_I (by omega), if_pos (by omega), run_end _ _ (by omega)]
  | succ k ih =>
    intro p kf h1 h2
    cases kf with
    | zero => omega
    | succ kf =>
      rw [L90_eq, hs, hb, iLe, nZ_I (by omega), nZ_I (by omega), if_neg (by omega), nZ_in (show p < 250 by omega) (by omega), gd_t, nZ_n (by omega), nZ_s, ih (p + 1) kf (by omega) (by omega), run_in _ _ (show p < N by omega)]
      cases F_X9_isLetter (b p)
      · rw [bf_f, if_neg Bool.false_ne_true]
      · rw [bf_t, if_pos rfl]
def dg1 (u : MS) (v : Int32) : MS := m_set_atp (m_set_figures u v) (m_atp (m_set_figures u v) + 1)
theorem dg1_eq (m : MS) (D : DR) (a t f g fl : Int32) (to : Nat → Int32) (ss v : Int32) : dg1 (mD m D a t f g fl to ss) v = mD m D (a + 1) t f v fl to ss := by
  unfold dg1
  rw [mz_figures, md_atp, mz_atp]
theorem vl_eq (v c : Int32) : v * 10 + c - 48 = vl v c := by unfold vl; rw [Int32.mul_comm]
theorem L149_at (n kf : Nat) (K : MS → Option MS) (u : MS) : F_X9_look_L149 n K (kf + 1) u = if m_tapeSize u ≤ m_atp u then some u else gd (inb (m_atp u) 250) (bf (F_X9_isDigit (m_tape u (m_atp u).toNatClampNeg)) (if 4 ≤ m_atp u - m_frm u then F_X9_look_L149 n K kf (dg1 u 100000) else gd (inb (m_atp u) 250) (F_X9_look_L149 n K kf (dg1 u (vl (m_figures u) (m_tape u (m_atp u).toNatClampNeg))))) (some u)) := by
  conv => lhs; unfold F_X9_look_L149
  rw [vl_eq]
  unfold dg1
  rfl
theorem L149_eq (n kf : Nat) (K : MS → Option MS) (m : MS) (D : DR) (a t f g fl : Int32) (to : Nat → Int32) (ss : Int32) : F_X9_look_L149 n K (kf + 1) (mD m D a t f g fl to ss) = if m_tapeSize m ≤ a then some (mD m D a t f g fl to ss) else gd (inb a 250) (bf (F_X9_isDigit (m_tape m a.toNatClampNeg)) (if 4 ≤ a - f then F_X9_look_L149 n K kf (mD m D (a + 1) t f 100000 fl to ss) else gd (inb a 250) (F_X9_look_L149 n K kf (mD m D (a + 1) t f (vl g (m_tape m a.toNatClampNeg)) fl to ss))) (some (mD m D a t f g fl to ss))) := by
  rw [L149_at, md_tapeSize, md_atp, md_tape, md_frm, md_figures, dg1_eq, dg1_eq]
theorem digits_L (K : MS → Option MS) (hN : N ≤ 250) (hs : m_tapeSize m = nZ N) (hb : m_tape m = b) (t fl : Int32) (to : Nat → Int32) (ss : Int32) {s : Nat} : ∀ (k p kf : Nat), s ≤ p → p + k = N → k < kf → ∀ g, g = figT b s p → ∃ g', g' = figT b s (run F_X9_isDigit b N p) ∧ F_X9_look_L149 n K kf (mD m D (nZ p) t (nZ s) g fl to ss) = some (mD m D (nZ (run F_X9_isDigit b N p)) t (nZ s) g' fl to ss) := by
  intro k
  induction k with
  | zero =>
    intro p kf h0 h1 h2 g hg
    cases kf with
    | zero => omega
    | succ kf =>
      rw [run_end _ _ (show N ≤ p by omega)]
      exact ⟨g, hg, by rw [L149_eq, hs, iLe, nZ_I (by omega), nZ_I (by omega), if_pos (by omega)]⟩
  | succ k ih =>
    intro p kf h0 h1 h2 g hg
    cases kf with
    | zero => omega
    | succ kf =>
      have es : (nZ p - nZ s).toInt = ((p - s : Nat) : Int) := by rw [nZ_d h0 (by omega), nZ_I (by omega)]
      have hx := fig_next b h0
      rw [← hg] at hx
      rw [run_in _ _ (show p < N by omega), L149_eq, hs, hb, iLe, nZ_I (by omega), nZ_I (by omega), if_neg (show ¬ (N : Int) ≤ p by omega), nZ_in (show p < 250 by omega) (by omega), gd_t, gd_t, nZ_n (by omega), nZ_s, iLe, es]
      cases F_X9_isDigit (b p)
      · rw [bf_f, if_neg Bool.false_ne_true]
        exact ⟨g, hg, rfl⟩
      · rw [bf_t, if_pos rfl]
        by_cases c : 4 ≤ p - s
        · rw [if_pos c] at hx
          rw [if_pos (show (4 : Int32).toInt ≤ ((p - s : Nat) : Int) by show (4 : Int) ≤ _; omega)]
          exact ih (p + 1) kf (by omega) (by omega) (by omega) _ hx.symm
        · rw [if_neg c] at hx
          rw [if_neg (show ¬ (4 : Int32).toInt ≤ ((p - s : Nat) : Int) by show ¬ (4 : Int) ≤ _; omega)]
          exact ih (p + 1) kf (by omega) (by omega) (by omega) _ hx.symm
/-- behind the blanks -/
def lookR (n : Nat) (K : MS → Option MS) (m : MS) (D : DR) (a fl : Int32) (to : Nat → Int32) (ss t : Int32) : Option MS := if a = m_tapeSize m then some (mD m D a 0 a 0 fl to ss) else gd (inb a 250) (bf (F_X9_isLetter (m_tape m a.toNatClampNeg)) (F_X9_look_L90 n K n (mD m D a 1 a 0 fl to ss)) (gd (inb a 250) (bf (F_X9_isDigit (m_tape m a.toNatClampNeg)) (F_X9_look_L149 n K n (mD m D a 2 a 0 fl to ss)) (gd (inb a 250) (if m_tape m a.toNatClampNeg = 59 then some (mD m D (a + 1) 3 a 0 fl to ss) else some (mD m D (a + 1) 4 a 0 fl to ss))))))
theorem look_L0 (n kf : Nat) (m : MS) (D : DR) (a t f g fl : Int32) (to : Nat → Int32) (ss : Int32) : F_X9_look_L0 n (kf + 1) (mD m D a t f g fl to ss) = if m_tapeSize m ≤ a then lookR n (F_X9_look_L0 n kf) m D a fl to ss t else gd (inb a 250) (if m_tape m a.toNatClampNeg = 32 then F_X9_look_L0 n kf (mD m D (a + 1) t f g fl to ss) else lookR n (F_X9_look_L0 n kf) m D a fl to ss t) := by
  conv => lhs; unfold F_X9_look_L0
  unfold lookR
  simp only [md_tapeSize, md_atp, md_tape, mz_atp, mz_frm, mz_figures, mz_token]
theorem lookR_eq (K : MS → Option MS) (hN : N ≤ 250) (hn : 20000 ≤ n) (hs : m_tapeSize m = nZ N) (hb : m_tape m = b) (t fl : Int32) (to : Nat → Int32) (ss : Int32) {p : Nat} (hp : p ≤ N) : lookR n K m D (nZ p) fl to ss t = some (mD m D (nZ (enT b N p)) (tkT b N p) (nZ p) (gT b N p) fl to ss) := by
  unfold lookR
  rw [hs, hb, iEq, nZ_I (by omega), nZ_I (by omega)]
  by_cases c : N ≤ p
  · unfold gT enT
    rw [if_pos (show (p : Int) = N by omega), tk_end b c, if_pos c, if_neg (show ¬ (0 : Int32) = 2 by decide)]
  · have hL := letters_L (n := n) (m := m) (D := D) K hN hs hb 1 (nZ p) 0 fl to ss (N - p) p n (by omega) (by omega)
    obtain ⟨g', hg, hD⟩ := digits_L (n := n) (m := m) (D := D) K hN hs hb 2 fl to ss (N - p) p n (Nat.le_refl _) (by omega) (by omega) 0 (fig_0 b p).symm
    rw [if_neg (show ¬ (p : Int) = N by omega), nZ_in (show p < 250 by omega) (by omega), gd_t, gd_t, gd_t, nZ_n (by omega), hL, hD, nZ_s]
    cases hl : F_X9_isLetter (b p)
    · have el : ¬ F_X9_isLetter (b p) = true := by rw [hl]; exact Bool.false_ne_true
      cases hd : F_X9_isDigit (b p)
      · have ed : ¬ F_X9_isDigit (b p) = true := by rw [hd]; exact Bool.false_ne_true
        have e1 : enT b N p = p + 1 := by unfold enT; rw [if_neg c, if_neg el, if_neg ed]
        rw [bf_f, bf_f, e1]
        by_cases z : b p = 59
        · have e2 : tkT b N p = 3 := by unfold tkT; rw [if_neg c, if_neg el, if_neg ed, if_pos z]
          have e3 : gT b N p = 0 := by unfold gT; rw [e2, if_neg (by decide)]
          rw [if_pos z, e2, e3]
        · have e2 : tkT b N p = 4 := by unfold tkT; rw [if_neg c, if_neg el, if_neg ed, if_neg z]
          have e3 : gT b N p = 0 := by unfold gT; rw [e2, if_neg (by decide)]
          rw [if_neg z, e2, e3]
      · have e1 : enT b N p = run F_X9_isDigit b N p := by unfold enT; rw [if_neg c, if_neg el, if_pos hd]
        have e2 : tkT b N p = 2 := by unfold tkT; rw [if_neg c, if_neg el, if_pos hd]
        have e3 : gT b N p = g' := by unfold gT; rw [e2, if_pos rfl, e1, hg]
        rw [bf_f, bf_t, e1, e2, e3]
    · have e1 : enT b N p = run F_X9_isLetter b N p := by unfold enT; rw [if_neg c, if_pos hl]
      have e2 : tkT b N p = 1 := by unfold tkT; rw [if_neg c, if_pos hl]
      have e3 : gT b N p = 0 := by unfold gT; rw [e2, if_neg (by decide)]
      rw [bf_t, e1, e2, e3]
theorem look_L (hN : N ≤ 250) (hn : 20000 ≤ n) (hs : m_tapeSize m = nZ N) (hb : m_tape m = b) (t f g fl : Int32) (to : Nat → Int32) (ss : Int32) : ∀ (k p kf : Nat), p + k = N → k < kf → F_X9_look_L0 n kf (mD m D (nZ p) t f g fl to ss) = some (mD m D (nZ (enT b N (skp b N p))) (tkT b N (skp b N p)) (nZ (skp b N p)) (gT b N (skp b N p)) fl to ss) := by
  intro k
  induction k with
  | zero =>
    intro p kf h1 h2
    cases kf with
    | zero => omega
    | succ kf => rw [look_L0, hs, iLe, nZ_I (by omega), nZ_I (by omega), if_pos (by omega), skp_end _ (by omega), lookR_eq _ hN hn hs hb _ _ _ _ (by omega)]
  | succ k ih =>
    intro p kf h1 h2
    cases kf with
    | zero => omega
    | succ kf =>
      rw [look_L0, hs, iLe, nZ_I (by omega), nZ_I (by omega), if_neg (by omega), nZ_in (show p < 250 by omega) (by omega), gd_t, hb, nZ_n (by omega), nZ_s, ih (p + 1) kf (by omega) (by omega), skp_in _ (show p < N by omega), lookR_eq _ hN hn hs hb _ _ _ _ (by omega)]
      by_cases z : b p = 32
      · rw [if_pos z, if_pos z]
      · rw [if_neg z, if_neg z]
/-- the model with the TOKEN at s looked at -/
def mT (m : MS) (D : DR) (b : Nat → Int32) (N s : Nat) (fl : Int32) (to : Nat → Int32) (ss : Int32) : MS := mD m D (nZ (enT b N s)) (tkT b N s) (nZ s) (gT b N s) fl to ss
theorem m_look (hN : N ≤ 250) (hn : 20000 ≤ n) (hs : m_tapeSize m = nZ N) (hb : m_tape m = b) (t f g fl : Int32) (to : Nat → Int32) (ss : Int32) {p : Nat} (hp : p ≤ N) : F_X9_look n (mD m D (nZ p) t f g fl to ss) = some (mT m D b N (skp b N p) fl to ss) := look_L hN hn hs hb t f g fl to ss (N - p) p n (by omega) (by omega)
abbrev numP (b : Nat → Int32) (N s : Nat) (lo hi : Int) : Prop := tkT b N s = 2 ∧ lo ≤ (figT b s (enT b N s)).toInt ∧ (figT b s (enT b N s)).toInt ≤ hi
theorem m_num (hN : N ≤ 250) (hn : 20000 ≤ n) (hs : m_tapeSize m = nZ N) (hb : m_tape m = b) (fl : Int32) (to : Nat → Int32) (ss : Int32) {s : Nat} (hp : s ≤ N) (i lo hi : Int32) (hi3 : 0 ≤ i.toInt ∧ i.toInt < 3) : F_X9_number n (mT m D b N s fl to ss) i lo hi = if numP b N s lo.toInt hi.toInt then some (true, mT m D b N (skp b N (enT b N s)) fl (upd to i.toNatClampNeg (figT b s (enT b N s))) ss) else some (false, mT m D b N s (nZ s) to ss) := by
  have hw : F_X9_wrong (mT m D b N s fl to ss) = (false, mT m D b N s (nZ s) to ss) := by
    unfold F_X9_wrong mT
    rw [md_frm, mz_fault]
  have eg := en_b b hp
  unfold F_X9_number
  rw [hw]
  unfold mT
  rw [md_token, md_figures, md_told, mz_told, m_look hN hn hs hb _ _ _ _ _ _ eg.2.1, bindV, inb_t hi3.1 hi3.2, gd_t, in_eq, Int32.toInt_toInt64, Int32.toInt_toInt64, Int32.toInt_toInt64, bf_d]
  by_cases c : tkT b N s = 2
  · have e3 : gT b N s = figT b s (enT b N s) := by unfold gT; rw [if_pos c]
    rw [if_pos c, e3]
    by_cases z : lo.toInt ≤ (figT b s (enT b N s)).toInt ∧ (figT b s (enT b N s)).toInt ≤ hi.toInt
    · rw [if_pos z, if_pos ⟨c, z⟩]
      rfl
    · rw [if_neg z, if_neg (fun q => z q.2)]
  · rw [if_neg c, if_neg (fun q => c q.1)]
end SK
