/-! ===== bones: both come to an end; what they answer is not compared here ===== -/
section BO
variable {x : XS} {m : MS} {ka ta : Option Nat} {mk : Option MS} {n : Nat}
theorem month_ex {s : SH} (hs : (sh_size s).toInt ≤ 40) (p : Int32) : ∃ b, F_X5_isMonthCount n s p = some b := by
  unfold F_X5_isMonthCount
  rw [at_eq hs]
  generalize (if 0 ≤ p.toInt ∧ p.toInt < (sh_size s).toInt then sh_el s p.toInt.toNat else 0) = v
  simp only [bindV]
  by_cases h1 : lg_cmp v 29 = 0
  · rw [if_pos h1]; exact ⟨_, rfl⟩
  · rw [if_neg h1]
    by_cases h2 : lg_cmp v 30 = 0
    · rw [if_pos h2]; exact ⟨_, rfl⟩
    · rw [if_neg h2]; exact ⟨_, rfl⟩
theorem counts_ex {s : SH} (hs : (sh_size s).toInt ≤ 40) {N : Int32} (hN : N.toInt ≤ 40) : ∀ (q kf : Nat) (w p : Int32), 0 ≤ p.toInt → N.toInt ≤ p.toInt + q → q < kf → ∃ r, F_X5_monthCounts_L4 n s N kf w p = some r := by
  intro q
  induction q with
  | zero =>
    intro kf w p h1 h2 h3
    cases kf with
    | zero => omega
    | succ kf =>
      unfold F_X5_monthCounts_L4
      rw [iLe, if_pos (by omega)]
      exact ⟨_, rfl⟩
  | succ q ih =>
    intro kf w p h1 h2 h3
    cases kf with
    | zero => omega
    | succ kf =>
      unfold F_X5_monthCounts_L4
      rw [iLe]
      by_cases c : N.toInt ≤ p.toInt
      · rw [if_pos c]; exact ⟨_, rfl⟩
      · have e : (p + 1).toInt = p.toInt + 1 := tA (by show _ ≤ _ + (1 : Int); omega) (by show _ + (1 : Int) ≤ _; omega)
        obtain ⟨b, hb⟩ := month_ex (n := n) hs p
        rw [if_neg c, hb, bindV]
        cases b
        · exact ih kf _ _ (by omega) (by omega) (by omega)
        · exact ih kf _ _ (by omega) (by omega) (by omega)
theorem run_ex {s : SH} (hs : (sh_size s).toInt ≤ 40) {N : Int32} (hN : N.toInt ≤ 40) : ∀ (q kf : Nat) (w y p : Int32), 0 ≤ p.toInt → N.toInt ≤ p.toInt + q → q < kf → ∃ r, F_X5_longestRun_L7 n s N kf w y p = some r := by
  intro q
  induction q with
  | zero =>
    intro kf w y p h1 h2 h3
    cases kf with
    | zero => omega
    | succ kf =>
      unfold F_X5_longestRun_L7
      rw [iLe, if_pos (by omega)]
      exact ⟨_, rfl⟩
  | succ q ih =>
    intro kf w y p h1 h2 h3
    cases kf with
    | zero => omega
    | succ kf =>
      unfold F_X5_longestRun_L7
      rw [iLe]
      by_cases c : N.toInt ≤ p.toInt
      · rw [if_pos c]; exact ⟨_, rfl⟩
      · have e : (p + 1).toInt = p.toInt + 1 := tA (by show _ ≤ _ + (1 : Int); omega) (by show _ + (1 : Int) ≤ _; omega)
        obtain ⟨b, hb⟩ := month_ex (n := n) hs p
        rw [if_neg c, hb, bindV]
        cases b
        · exact ih kf _ _ _ (by omega) (by omega) (by omega)
        · exact ih kf _ _ _ (by omega) (by omega) (by omega)
theorem threes_ex {s : SH} (hs : (sh_size s).toInt ≤ 40) {N : Int32} (hN : N.toInt ≤ 40) : ∀ (q kf : Nat) (w p : Int32), 0 ≤ p.toInt → p.toInt ≤ 100 → N.toInt ≤ p.toInt + q → q < kf → ∃ r, F_X5_threesOfMonths_L4 n s N kf w p = some r := by
  intro q
  induction q with
  | zero =>
    intro kf w p h1 h1' h2 h3
    cases kf with
    | zero => omega
    | succ kf =>
      have e : (p + 2).toInt = p.toInt + 2 := tA (by show _ ≤ _ + (2 : Int); omega) (by show _ + (2 : Int) ≤ _; omega)
      unfold F_X5_threesOfMonths_L4
      rw [iLe, e, if_pos (by omega)]
      exact ⟨_, rfl⟩
  | succ q ih =>
    intro kf w p h1 h1' h2 h3
    cases kf with
    | zero => omega
    | succ kf =>
      have e2 : (p + 2).toInt = p.toInt + 2 := tA (by show _ ≤ _ + (2 : Int); omega) (by show _ + (2 : Int) ≤ _; omega)
      unfold F_X5_threesOfMonths_L4
      rw [iLe, e2]
      by_cases c : N.toInt ≤ p.toInt + 2
      · rw [if_pos c]; exact ⟨_, rfl⟩
      · have e : (p + 1).toInt = p.toInt + 1 := tA (by show _ ≤ _ + (1 : Int); omega) (by show _ + (1 : Int) ≤ _; omega)
        rw [if_neg c, at_eq hs, bindV, at_eq hs, bindV, at_eq hs, bindV]
        cases F_X5_isThreeMonths (if 0 ≤ p.toInt ∧ p.toInt < (sh_size s).toInt then sh_el s p.toInt.toNat else 0) (if 0 ≤ (p + 1).toInt ∧ (p + 1).toInt < (sh_size s).toInt then sh_el s (p + 1).toInt.toNat else 0) (if 0 ≤ (p + 2).toInt ∧ (p + 2).toInt < (sh_size s).toInt then sh_el s (p + 2).toInt.toNat else 0)
        · exact ih kf _ _ (by omega) (by omega) (by omega) (by omega)
        · exact ih kf _ _ (by omega) (by omega) (by omega) (by omega)
theorem bone_ex (k : Nat) (p1 v3 : Int32) {N : Int32} (hN : N.toInt ≤ 40) : ∀ (q kf : Nat) (a b c d p : Int32), 0 ≤ p.toInt → N.toInt ≤ p.toInt + q → q < kf → ∃ r, F_X9_bone_L98 n m k p1 N v3 0 kf a b c d p = some (r, m) := by
  intro q
  induction q with
  | zero =>
    intro kf a b c d p h1 h2 h3
    cases kf with
    | zero => omega
    | succ kf =>
      unfold F_X9_bone_L98
      rw [iLe N p, if_pos (by omega)]
      split
      · exact ⟨_, rfl⟩
      · split
        · exact ⟨_, rfl⟩
        · exact ⟨_, rfl⟩
  | succ q ih =>
    intro kf a b c d p h1 h2 h3
    cases kf with
    | zero => omega
    | succ kf =>
      unfold F_X9_bone_L98
      rw [iLe N p]
      by_cases z : N.toInt ≤ p.toInt
      · rw [if_pos z]
        split
        · exact ⟨_, rfl⟩
        · split
          · exact ⟨_, rfl⟩
          · exact ⟨_, rfl⟩
      · have e : (p + 1).toInt = p.toInt + 1 := tA (by show _ ≤ _ + (1 : Int); omega) (by show _ + (1 : Int) ≤ _; omega)
        have ihs : ∀ a b c d, ∃ r, F_X9_bone_L98 n m k p1 N v3 0 kf a b c d (p + 1) = some (r, m) := fun a b c d => ih kf a b c d (p + 1) (by omega) (by omega) (by omega)
        generalize F_X9_bone_L98 n m k p1 N v3 0 kf = G at ihs ⊢
        have g0 : inb p 40 = true := inb_t (by omega) (by omega)
        rw [if_neg z]
        by_cases y : p < 2
        · simp only [if_pos y, g0, gd_t, in_eq, bf_d]
          split <;> split <;> exact ihs _ _ _ _
        · have y' : ¬ p.toInt < 2 := fun w => y (ltI.mpr w)
          have s1 : (p - 1).toInt = p.toInt - 1 := tS (by show _ ≤ _ - (1 : Int); omega) (by show _ - (1 : Int) ≤ _; omega)
          have s2 : (p - 2).toInt = p.toInt - 2 := tS (by show _ ≤ _ - (2 : Int); omega) (by show _ - (2 : Int) ≤ _; omega)
          have g1 : inb (p - 1) 40 = true := inb_t (by omega) (by omega)
          have g2 : inb (p - 2) 40 = true := inb_t (by omega) (by omega)
          simp only [if_neg y, g0, g1, g2, gd_t, in_eq, bf_d]
          split <;> split <;> split <;> exact ihs _ _ _ _
theorem ok_bone (h : Rel x m ka ta mk) (hn : 20000 ≤ n) (p1 p2 p3 : Int32) : Ok0 (F_X8_bone n x p1 p2 p3) (F_X9_bone n m p1 p2 p3) ka ta mk ∧ ((∀ k : Nat, k < 8 → m_shelf m k = 0) → Ok (F_X8_bone n x p1 p2 p3) (F_X9_bone n m p1 p2 p3) ka ta mk) := by
  unfold F_X8_bone F_X9_bone
  simp only [bindE]
  rw [shelfAt_eq, bindV, mIn p1 0 7 0 7 rfl rfl, bf_d, mIn p2 1 40 1 40 rfl rfl, bf_d, mIn p3 0 2 0 2 rfl rfl, bf_d]
  by_cases h1 : 0 ≤ p1.toInt ∧ p1.toInt ≤ 7
  · rw [if_pos h1, if_pos h1, oM_s, nat_toInt, gd_d (k8 h1), xIn p2 1 40 1 40 rfl rfl, bf_d, xIn p3 0 2 0 2 rfl rfl, bf_d]
    by_cases h2 : 1 ≤ p2.toInt ∧ p2.toInt ≤ 40
    · rw [if_pos h2, if_pos h2]
      by_cases h3 : 0 ≤ p3.toInt ∧ p3.toInt ≤ 2
      · rw [if_pos h3, if_pos h3, noRow_eq h1]
        have hR := h
        obtain ⟨r1, r2, -⟩ := hR
        rcases RH_cases (r2 _ (k8 h1)) with ⟨w, b, e, ro, -⟩ | ⟨w, b, e, ro, c1, c2, c3, c4, c5⟩ | ⟨w, b, e, ro, -⟩
        · rw [asRow_b e b, if_neg (show ¬ (-4 : Int32) = 0 by decide), w, if_neg zero_n2, if_pos rfl]
          exact ⟨(ref_go h _ (by decide) _).weak, fun _ => ref_go h _ (by decide) _⟩
        · have g8 : inb p1 8 = true := inb_t (by omega) (by omega)
          refine ⟨?_, fun q => ?_⟩
          · rw [asRow_r e b, c3, w, if_neg two_ne, if_neg one_n0, bindV, if_pos rfl]
            dsimp only
            rw [g8, gd_t, gd_t, iLe]
            by_cases q : p2.toInt ≤ (m_rowSize m p1.toInt.toNat).toInt
            · rw [if_pos q, if_pos rfl, if_pos q]
              have hs : (sh_size (x_sh x p1.toInt.toNat)).toInt ≤ 40 := by rw [c3]; exact c4.2
              obtain ⟨r', e'⟩ := bone_ex (n := n) (m := m) p1.toInt.toNat p1 p3 h2.2 p2.toInt.toNat n 0 0 0 0 0 (by decide) (by show _ ≤ (0 : Int) + _; omega) (by omega)
              obtain ⟨ra, ea⟩ := counts_ex (n := n) hs h2.2 p2.toInt.toNat n 0 0 (by decide) (by show _ ≤ (0 : Int) + _; omega) (by omega)
              obtain ⟨rb, eb⟩ := run_ex (n := n) hs h2.2 p2.toInt.toNat n 0 0 0 (by decide) (by show _ ≤ (0 : Int) + _; omega) (by omega)
              obtain ⟨rc, ec⟩ := threes_ex (n := n) hs h2.2 p2.toInt.toNat n 0 0 (by decide) (by decide) (by show _ ≤ (0 : Int) + _; omega) (by omega)
              have ea' : F_X5_monthCounts n (x_sh x p1.toInt.toNat) p2 = some ra := ea
              have eb' : F_X5_longestRun n (x_sh x p1.toInt.toNat) p2 = some rb := eb
              have ec' : F_X5_threesOfMonths n (x_sh x p1.toInt.toNat) p2 = some rc := ec
              rw [e', ea', eb', ec', bindV, bindV, bindV]
              split
              · exact ⟨_, _, _, _, rfl, rfl, h⟩
              · split
                · exact ⟨_, _, _, _, rfl, rfl, h⟩
                · exact ⟨_, _, _, _, rfl, rfl, h⟩
            · rw [if_neg q, if_neg (show ¬ (-2 : Int32) = 0 by decide), if_neg q]
              exact (bad h).weak
          · have q1 := q _ (k8 h1)
            rw [q1] at w
            exact absurd w (by decide)
        · rw [asRow_e e, if_neg (show ¬ (-3 : Int32) = 0 by decide), w, if_pos rfl]
          exact ⟨(ref_go h _ (by decide) _).weak, fun _ => ref_go h _ (by decide) _⟩
      · rw [if_neg h3, if_neg h3]; exact ⟨(bad h).weak, fun _ => bad h⟩
    · rw [if_neg h2, if_neg h2]; exact ⟨(bad h).weak, fun _ => bad h⟩
  · rw [if_neg h1, if_neg h1, oM_n]; exact ⟨(bad h).weak, fun _ => bad h⟩
end BO
