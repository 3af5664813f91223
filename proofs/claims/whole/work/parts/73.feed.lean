/-! ===== feed, both ===== -/
theorem feed_ok {S M : Sto} (h : Rl S M) (a b c d e : Int32) : ∃ r S' M', F_w_feed a b c d e S = some (r, S') ∧ F_m_feed a b c d e M = some (r, M') ∧ Rl S' M' := by
  obtain ⟨t, f, Z, s, i, h1, h2, h3, hC, hM⟩ := h
  have hC' := hC
  have hM' := hM
  obtain ⟨c1, c2, c3, c4, c5, c6, c7⟩ := hC
  obtain ⟨m1, m2, m3, m4, m5, m6⟩ := hM
  by_cases q : t.1 + 20 ≤ 500
  · obtain ⟨S', s1, s2, s3⟩ := w_feed_ok (a := a) (b := b) (c := c) (d := d) (e := e) c1 q
    obtain ⟨M', n1, n2, n3⟩ := m_feed_ok (a := a) (b := b) (c := c) (d := d) (e := e) m1 q
    refine ⟨_, S', M', s1, n1, tpF t a b c d e, f, Z, s, i, h1, h2, h3, ⟨s3, ?_, ZC_fr c3 s2 (by decide) (by decide) (by decide), ScC_fr c4 s2 (by decide) (by decide) (by decide) (by decide), ?_, fun k hk => ScC_fr (c6 k hk) s2 (by decide) (by decide) (by decide) (by decide), ?_⟩, ⟨n3, ?_, ZM_fr m3 n2 (by decide) (by decide), ScM_fr m4 n2 (by decide) (by decide) (by decide) (by decide), ?_, fun k hk => ScN_fr (m6 k hk) n2 (by decide) (by decide) (by decide)⟩⟩
    · rw [s2.gi 8 (by decide)]; exact c2
    · rw [s2.gi 50 (by decide)]; exact c5
    · rw [s2.gr 48 (by decide), s2.gr 49 (by decide)]; exact c7
    · rw [n2.gi 1012 (by decide)]; exact m2
    · rw [n2.gi 1029 (by decide)]; exact m5
  · refine ⟨-1, S, si M 1001 0, ?_, ?_, t, f, Z, s, i, h1, h2, h3, hC', hM'.cd 0⟩
    · have ht := c1.2.1
      unfold F_w_feed
      rw [c1.1, (show (20 : Int32) = nI 20 from rfl), (show (500 : Int32) = nI 500 from rfl), nI_add, if_neg (nI_ge (by omega) (by omega))]
    · have ht := c1.2.1
      unfold F_m_feed
      have e0 : gi (si M 1001 0) 1003 = nI t.1 := m1.1
      rw [e0, (show (20 : Int32) = nI 20 from rfl), (show (500 : Int32) = nI 500 from rfl), nI_add, if_neg (nI_ge (by omega) (by omega))]
