/-! ===== a SKY from THE TAPE ===== -/
/-- how a reading ends -/
def LO (x : XS) (m : MS) (c b : Nat → Int32) (N : Nat) (X : Option (Int32 × XS)) (Y : Option (Bool × MS)) : Prop :=
  (∃ w d D p v a t f g fl to, X = some (w, xT x d c b N p v) ∧ Y = some (true, mD m D a t f g fl to w) ∧ RD d m D ∧ 1 ≤ w.toInt) ∨
  (∃ d D p v a t f g to ss, X = some (-1, xT x d c b N p v) ∧ Y = some (false, mD m D a t f g (nZ p) to ss))
def skyC (n kf : Nat) (w : Int32) (X : XS) : Option (Int32 × XS) := (F_X7_step n X).bind fun r6 => if tp_token (x_tape r6) = 0 then some (w, r6) else if tp_token (x_tape r6) = 3 then F_X7_read_L7 n kf (w + 1) r6 else some (-1, r6)
theorem read_L7_eq (n kf : Nat) (w : Int32) (X : XS) : F_X7_read_L7 n (kf + 1) w X = if (250 : Int32) < w then some (-1, X) else (F_X7_step n X).bind fun r2 => (F_X7_takeStatement n r2).bind fun r4 => bf r4.1 (skyC n kf w r4.2) (some (-1, r4.2)) := by
  conv => lhs; unfold F_X7_read_L7
  unfold skyC
  rfl
section RL9
variable {x : XS} {n N : Nat} {b c : Nat → Int32} {m : MS}
theorem xT_token (x : XS) (d : ST) (c b : Nat → Int32) (N s : Nat) (v : Int32) : tp_token (x_tape (xT x d c b N s v)) = tkT b N s := Eq.trans rfl rfl
theorem mT_token (m : MS) (D : DR) (b : Nat → Int32) (N s : Nat) (fl : Int32) (to : Nat → Int32) (ss : Int32) : m_token (mT m D b N s fl to ss) = tkT b N s := Eq.trans rfl rfl
theorem sky_loop (hc : TX c b N) (hN : N ≤ 250) (hn : 20000 ≤ n) (hz : m_tapeSize m = nZ N) (hb : m_tape m = b) : ∀ (q s kf kf' : Nat) (d : ST) (D : DR) (v fl w : Int32) (to : Nat → Int32), s < N → N ≤ s + q → q < kf → q < kf' → RD d m D → 1 ≤ w.toInt → w.toInt ≤ s → LO x m c b N (skyC n kf w (xT x d c b N s v)) (F_X9_readAll_L23 n kf' (mT m D b N (skp b N (enT b N s)) fl to w)) := by
  intro q
  induction q with
  | zero => intro s kf kf' d D v fl w to h1 h2; omega
  | succ q ih =>
    intro s kf kf' d D v fl w to h1 h2 h3 h4 hR hw1 hw2
    obtain ⟨kf, rfl⟩ : ∃ k, kf = k + 1 := ⟨kf - 1, by omega⟩
    obtain ⟨kf', rfl⟩ : ∃ k, kf' = k + 1 := ⟨kf' - 1, by omega⟩
    have e0 := en_b b (show s ≤ N by omega)
    generalize hs1 : skp b N (enT b N s) = s1
    have e1 := skp_b b e0.2.1
    rw [hs1] at e1
    have e2 := en_b b e1.2
    generalize hs2 : skp b N (enT b N s1) = s2
    have e3 := skp_b b e2.2.1
    rw [hs2] at e3
    unfold skyC
    rw [step_T hc hN hn v (show s ≤ N by omega), bindV, hs1, xT_token]
    unfold F_X9_readAll_L23
    rw [mT_token, m_wrong]
    by_cases t0 : tkT b N s1 = 0
    · rw [if_pos t0, if_pos t0]
      exact Or.inl ⟨w, d, D, s1, v, _, _, _, _, _, _, rfl, rfl, hR, hw1⟩
    · rw [if_neg t0, if_neg t0]
      have hlt := tk_lt b t0
      by_cases t3 : tkT b N s1 = 3
      · have ew : (w + 1).toInt = w.toInt + 1 := tA (by show _ ≤ _ + (1 : Int); omega) (by show _ + (1 : Int) ≤ _; omega)
        have hl : F_X9_look n (mT m D b N s1 fl to w) = some (mT m D b N s2 fl to w) := by
          rw [← hs2]
          exact m_look hN hn hz hb _ _ _ _ _ _ e2.2.1
        rw [if_pos t3, if_pos t3, read_L7_eq, iLt, if_neg (show ¬ (250 : Int32).toInt < (w + 1).toInt by rw [ew]; show ¬ (250 : Int) < _; omega), step_T hc hN hn v e1.2, bindV, hs2, hl, bindV]
        rcases ok_statement (x := x) (s := s2) (d := d) (D := D) (v := v) (fl := fl) (to := to) (ss := w) hc hN hn hz hb e3.2 hR with ⟨d', D', p, v', fl', to', hX, hY, hR', hp1, hp2⟩ | ⟨d', D', p, v', a, t, f, g, to', hX, hY, hp⟩
        · rw [hX, hY, bindV, bindV, bf_t, bf_t]
          exact ih p kf kf' d' D' v' fl' (w + 1) to' hp2 (by omega) (by omega) (by omega) hR' (by omega) (by omega)
        · rw [hX, hY, bindV, bindV, bf_f, bf_f]
          exact Or.inr ⟨d', D', p, v', a, t, f, g, to', w, rfl, rfl⟩
      · rw [if_neg t3, if_neg t3]
        exact Or.inr ⟨d, D, s1, v, _, _, _, _, to, w, rfl, rfl⟩
theorem ok_read (hc : TX c b N) (hN : N ≤ 250) (hn : 20000 ≤ n) (hz : m_tapeSize m = nZ N) (hb : m_tape m = b) {d : ST} {D : DR} (hR : RD d m D) (k s e v a t f g fl ss : Int32) (to : Nat → Int32) : LO x m c b N (F_X7_read n (xq x d (tq c (nZ N) k s e v))) (F_X9_readAll n (mD m D a t f g fl to ss)) := by
  have e1 := skp_b b (Nat.zero_le N)
  generalize hs : skp b N 0 = s0 at e1
  obtain ⟨n', hn'⟩ : ∃ n', n = n' + 1 := ⟨n - 1, by omega⟩
  have hx : F_X7_step n (xq x d (tq c (nZ N) k s (nZ 0) v)) = some (xT x d c b N s0 v) := by
    rw [← hs]
    exact step_x hc hN hn k s v (Nat.zero_le N)
  have hl : F_X9_look n (mD m D (nZ 0) t f g fl to 1) = some (mT m D b N s0 fl to 1) := by
    rw [← hs]
    exact m_look hN hn hz hb _ _ _ _ _ _ (Nat.zero_le N)
  have er : F_X7_read n (xq x d (tq c (nZ N) k s e v)) = F_X7_read_L7 n (n' + 1) 1 (xq x d (tq c (nZ N) k s (nZ 0) v)) := by
    unfold F_X7_read
    rw [xq_tape, ts_fin, xs_tape, ← hn']
    rfl
  unfold F_X9_readAll
  rw [mz_statements, mz_atp, show (0 : Int32) = nZ 0 from rfl, hl, bindV, er, read_L7_eq, if_neg (show ¬ (250 : Int32) < 1 by decide), hx, bindV]
  rcases ok_statement (x := x) (s := s0) (d := d) (D := D) (v := v) (fl := fl) (to := to) (ss := 1) hc hN hn hz hb e1.2 hR with ⟨d', D', p, v', fl', to', hX, hY, hR', hp1, hp2⟩ | ⟨d', D', p, v', a, t, f, g, to', hX, hY, hp⟩
  · rw [hX, hY, bindV, bindV, bf_t, bf_t]
    exact sky_loop hc hN hn hz hb (N - p) p n' n d' D' v' fl' 1 to' hp2 (by omega) (by omega) (by omega) hR' (by decide) (by show (1 : Int) ≤ _; omega)
  · rw [hX, hY, bindV, bindV, bf_f, bf_f]
    exact Or.inr ⟨d', D', p, v', a, t, f, g, to', 1, rfl, rfl⟩
theorem xbad_eq (n : Nat) (x : XS) : F_X8_refuse n x (-2) = some (-2, x_set_ref x (upd (x_ref x) 0 (x_ref x 0 + 1))) := by
  unfold F_X8_refuse
  rw [if_neg (by decide), if_neg (by decide), gd_i (by decide) (by decide), gd_i (by decide) (by decide)]
  rfl
theorem mbad_eq (n : Nat) (m : MS) : F_X9_refuse n m (-2) = some (-2, m_set_refused m (upd (m_refused m) 2 (m_refused m 2 + 1))) := by
  unfold F_X9_refuse
  rw [gd_i (by decide) (by decide), gd_i (by decide) (by decide)]
  rfl
theorem nZ_of {z : Int32} (h0 : 0 ≤ z.toInt) (h1 : z.toInt ≤ 250) : z = nZ z.toInt.toNat := Int32.toInt_inj.mp (by rw [nZ_I (by omega)]; omega)
theorem RT_0 (c : Nat → Int32) (k s e v : Int32) (b : Nat → Int32) : RT (tq c 0 k s e v) b 0 := ⟨rfl, ⟨by decide, by decide⟩, fun i hi => by replace hi : (i : Int) < 0 := hi; omega⟩
def skyX (x : XS) (d : ST) (c b : Nat → Int32) (N p : Nat) (v : Int32) : XS := xq x d (tq c 0 (tkT b N p) (nZ p) (nZ (enT b N p)) v)
theorem empty_T (x : XS) (d : ST) (c b : Nat → Int32) (N p : Nat) (v : Int32) : F_X7_empty (xT x d c b N p v) = skyX x d c b N p v := by
  unfold F_X7_empty xT skyX
  rw [xq_tape, ts_size, xs_tape]
theorem fault_T (x : XS) (d : ST) (c b : Nat → Int32) (N p : Nat) (v : Int32) : F_X7_fault (xT x d c b N p v) = nZ p := by
  unfold F_X7_fault xT
  rw [xq_tape, tq_start]
end RL9
section SKY
variable {x : XS} {n : Nat} {m : MS} {ka ta : Option Nat} {mk : Option MS}
theorem tried_eq (m : MS) (v : Option Nat) (D : DR) (a t f g fl : Int32) (to : Nat → Int32) (ss : Int32) : m_tried (mD (m_set_tried m v) D a t f g fl to ss) = v := Eq.trans rfl rfl
theorem ok_sky (h : Rel x m ka ta mk) (hn : 20000 ≤ n) (a : Nat) (t : MS) : ∃ r x' m' t', F_X8_sky n x = some (r, x') ∧ F_X9_sky n a m t = some (r, m', t') ∧ Rel x' m' ka (some a) mk := by
  obtain ⟨r1, r2, r3, r4, r5, r6, r7⟩ := h
  obtain ⟨d, ed, hd⟩ := st_become (n := n) r1 hn (x_draft x)
  generalize hm2 : m_set_tried m (some a) = m2
  have q1 : RS (x_now x) m2 := by rw [← hm2]; exact r1
  have hd2 : RD d m2 (dM m2) := by rw [← hm2]; exact hd
  obtain ⟨q, nt, st, cl, et, ht⟩ := take_RS (n := n) hn t m2 q1
  generalize ht1 : tkM t m2 q nt st cl = t1 at et ht
  obtain ⟨z1, ⟨z2, z3⟩, z4⟩ := r3
  have hN : (m_tapeSize m).toInt.toNat ≤ 250 := by omega
  have ez := nZ_of z2 z3
  have hz : m_tapeSize m2 = nZ (m_tapeSize m).toInt.toNat := by rw [← hm2]; exact ez
  have hb : m_tape m2 = m_tape m := by rw [← hm2]
  have hc : TX (tp_by (x_tape x)) (m_tape m) (m_tapeSize m).toInt.toNat := fun i hi => by
    have := z4 i (by omega)
    exact ⟨this.1, this.2.1⟩
  have ex : x_set_draft x d = xq x d (tq (tp_by (x_tape x)) (nZ (m_tapeSize m).toInt.toNat) (tp_token (x_tape x)) (tp_start (x_tape x)) (tp_fin (x_tape x)) (tp_value (x_tape x))) := by
    rw [← ez, ← z1, tq_self]
    rfl
  unfold F_X8_sky F_X9_sky
  rw [ed, bindV, ex, hm2, et, bindV]
  have hL := ok_read (x := x) (n := n) hc hN hn hz hb hd2 (tp_token (x_tape x)) (tp_start (x_tape x)) (tp_fin (x_tape x)) (tp_value (x_tape x)) (m_atp m2) (m_token m2) (m_frm m2) (m_figures m2) (m_fault m2) (m_statements m2) (m_told m2)
  rw [md_self] at hL
  rcases hL with ⟨w, d', D', p, v, a', t', f', g', fl', to', hX, hY, hR, hw⟩ | ⟨d', D', p, v, a', t', f', g', to', ss', hX, hY⟩
  · have hw' : ¬ w = -1 := fun q => by rw [q] at hw; exact absurd hw (by decide)
    obtain ⟨s6, e6, h6⟩ := st_become (n := n) hR hn (x_now x)
    have et : m_tried (mD m2 D' a' t' f' g' fl' to' w) = some a := by rw [← hm2]; exact tried_eq m (some a) D' a' t' f' g' fl' to' w
    have e7 : x_now (skyX x d' (tp_by (x_tape x)) (m_tape m) (m_tapeSize m).toInt.toNat p v) = x_now x := Eq.trans rfl rfl
    have e8 : x_draft (skyX x d' (tp_by (x_tape x)) (m_tape m) (m_tapeSize m).toInt.toNat p v) = d' := Eq.trans rfl rfl
    rw [hX, hY, bindV, bindV, if_neg hw', empty_T, e7, e8, e6, bindV, et, decide_eq_true rfl, gd_t, bf_t]
    refine ⟨w, _, _, t1, rfl, congrArg some (Prod.ext (Eq.trans rfl rfl) rfl), h6, ?_, RT_0 _ _ _ _ _ _, ?_, r5, ?_, et⟩
    · rw [← hm2]; exact r2
    · rw [← hm2]; exact r4
    · rw [← hm2]; exact r6
  · generalize hM4 : m_set_tapeSize (mD m2 D' a' t' f' g' (nZ p) to' ss') 0 = m4
    obtain ⟨q', nt', st', cl', e4, h4⟩ := take_RS (n := n) hn m4 t1 ht
    have et : m_tried (mD m2 D' a' t' f' g' (nZ p) to' ss') = some a := by rw [← hm2]; exact tried_eq m (some a) D' a' t' f' g' (nZ p) to' ss'
    have ef : m_fault m4 = nZ p := by
      rw [← hM4]
      rfl
    rw [hX, hY, bindV, bindV, if_pos rfl, empty_T, fault_T, xbad_eq, bindV, et, decide_eq_true rfl, gd_t, bf_f, hM4, e4, bindV, mbad_eq, bindV]
    have e9 : m_fault (m_set_refused (tkM m4 t1 q' nt' st' cl') (upd (m_refused (tkM m4 t1 q' nt' st' cl')) 2 (m_refused (tkM m4 t1 q' nt' st' cl') 2 + 1))) = nZ p := Eq.trans rfl ef
    dsimp only
    rw [e9]
    refine ⟨(-20 : Int32) - nZ p, _, _, t1, rfl, rfl, h4, ?_, ?_, ?_, r5, ?_, ?_⟩
    · show RHs (x_sh x) (m_shelf m4) (m_rowSort m4) (m_rowSize m4) (m_rows m4) (m_eveKind m4) (m_eveDay m4)
      rw [← hM4, ← hm2]; exact r2
    · show RT _ (m_tape m4) (m_tapeSize m4)
      rw [← hM4]; exact RT_0 _ _ _ _ _ _
    · show RR _ (upd (m_refused m4) 2 (m_refused m4 2 + 1))
      rw [← hM4, ← hm2]; exact ref_key r4 0 (by omega)
    · show m_kept m4 = _
      rw [← hM4, ← hm2]; exact r6
    · show m_tried m4 = _
      rw [← hM4]; exact et
end SKY
