/-! ===== image and back in the shape of part 41 ===== -/
section KEPT
variable {n : Nat} {x : XS} {m : MS} {ka ta : Option Nat} {mk : Option MS}
theorem ok_imageK (h : Rel x m ka ta mk) (hn : 20000 ≤ n) (s : MS) (a : Nat) : ∃ x' r, F_X8_image n x = some (1, x') ∧ F_X9_image n a m s = some r ∧ r.1 = 1 ∧ r.2.1 = m_set_kept m (some a) ∧ Rel x' (m_set_kept m (some a)) (some a) ta (some r.2.2) := by
  obtain ⟨r1, r2, r3, r4, r5, r6, r7⟩ := h
  obtain ⟨s', e1, h1⟩ := st_become (n := n) r1 hn (x_kept x)
  have r1' : RS (x_now x) (m_set_kept m (some a)) := r1
  have h1' : RS s' (m_set_kept m (some a)) := h1
  obtain ⟨q, nt, st, cl, e2, h2⟩ := take_RS (n := n) hn s (m_set_kept m (some a)) r1'
  obtain ⟨q', nt', st', cl', e3, h3⟩ := take_RS (n := n) hn s (m_set_kept m (some a)) h1'
  rw [e2] at e3
  have e4 := Option.some.inj e3
  rw [← e4] at h3
  refine ⟨x_set_isKept (x_set_kept x s') true, (1, m_set_kept m (some a), tkM s (m_set_kept m (some a)) q nt st cl), ?_, ?_, rfl, rfl, ⟨r1, r2, r3, r4, ⟨rfl, fun k hk => ?_⟩, rfl, r7⟩⟩
  · unfold F_X8_image
    rw [e1, bindV]
  · unfold F_X9_image
    rw [e2]
    rfl
  · rw [← Option.some.inj hk]
    exact h3
theorem ok_backK {k : MS} {a : Nat} (h : Rel x m (some a) ta (some k)) (hn : 20000 ≤ n) : ∃ x' m', F_X8_back n x = some (1, x') ∧ F_X9_back n a m k = some (1, m', k) ∧ Rel x' m' (some a) ta (some k) := by
  obtain ⟨x', m', e1, e2, e3⟩ := ok_back (n := n) h hn
  refine ⟨x', m', e1, ?_, e3⟩
  have e : m = m_set_kept m (some a) := set_kept_eta h.2.2.2.2.2.1
  unfold F_X9_back
  rw [← e, e2]
  rfl
end KEPT
