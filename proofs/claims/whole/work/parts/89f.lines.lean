/-! ===== a line of a net ===== -/
section
variable {y : Nat → Nat} {n N : Nat} {g : Nat → Nt5} {S M T U : Sto}
abbrev NtO (y : Nat → Nat) (n N b : Nat) (S M : Sto) : Prop := (∃ b' a' k' g', b < b' ∧ Tk y n b' a' k' S M ∧ NtR (N + 1) g' S M) ∨ Dd S M
theorem at_ui {k j : Nat} {x : Int32} : ai (ui M k (upd (ai M k) j x)) k j = x := by
  rw [ai_ui, if_pos rfl, upd_at, if_pos rfl]
theorem at_ul {k j : Nat} {x : Int64} : al (ul M k (vp_updL (al M k) j x)) k j = x := by
  rw [al_ul, if_pos rfl, updL_at, if_pos rfl]
theorem sh2 {k : Nat} (hk : k ≤ 20) : (2 : Int32) * ((1 : Int32) <<< (nI k &&& 31)) = nI (2 * 2 ^ k) := by
  rw [sh1 (by omega), (show (2 : Int32) = nI 2 from rfl), pk_mul]
theorem p20 {k : Nat} (hk : k ≤ 20) : 1 ≤ 2 ^ k ∧ 2 ^ k ≤ 1048576 := by
  have : 2 ^ k ≤ 2 ^ 20 := Nat.pow_le_pow_right (by decide) hk
  exact ⟨Nat.pow_pos (by decide), this⟩
theorem readNet_ok {b a k q : Nat} (tk : Tk y n b a k S M) (hk : k = 1) (h : NtR N g S M) (hq : q ≤ 4) :
    ∃ S' M', F_Rd_readNet (nI q) S = some ((), S') ∧ F_m_readNet (nI q) M = some ((), M') ∧ ntC S S' ∧ ntM N M M' ∧ NtO y n N b S' M' := by
  have hba := tk.ba
  have a1 := h.1
  unfold F_Rd_readNet F_m_readNet
  rw [h.2.1, show ai M 1003 (Int32.toNatClampNeg 3) = nI N from h.n3, (show (8 : Int32) = nI 8 from rfl)]
  by_cases hN : N < 8
  · rw [if_pos (nI_lt hN (by decide)), if_neg (by rw [eq_nI (by omega) (by decide)]; omega)]
    obtain ⟨b1', a2, k2, S1, M1, g1, g2, g3, g4, g5, g6⟩ := tk.go
    have N1 := h.fr g3.e g4.e
    have i16 : ib (nI (8 + N)) 16 = true := ib_nI (by omega) (by omega)
    have fq : Fr [] [] [1004] [] [] M1 (ui M1 1004 (upd (ai M1 1004) (8 + N) (nI q))) := Fr.rfl.ui (by decide)
    have nq : ntM N M1 (ui M1 1004 (upd (ai M1 1004) (8 + N) (nI q))) := nt_i (Or.inl rfl)
    have t2 : Tk y n b1' a2 k2 S1 (ui M1 1004 (upd (ai M1 1004) (8 + N) (nI q))) := g6.mm fq (by decide)
    have N2 : NtR N g S1 (ui M1 1004 (upd (ai M1 1004) (8 + N) (nI q))) := N1.m nq rfl
    have c4 : ai (ui M1 1004 (upd (ai M1 1004) (8 + N) (nI q))) 1004 (8 + N) = nI q := at_ui
    have nM2 : ntM N M (ui M1 1004 (upd (ai M1 1004) (8 + N) (nI q))) := (g4.e.n N).trans nq
    have nC1 : ntC S S1 := g3.e.n
    unfold F_m_readNet_16
    rw [if_pos tk.m10, g1, b2_s, g2, b2_s, show ai M1 1003 (Int32.toNatClampNeg 3) = nI N from N1.n3, (show (8 : Int32) = nI 8 from rfl), nI_add, ck_t i16, nI_clamp (show 8 + N < 2147483648 by omega)]
    generalize ui M1 1004 (upd (ai M1 1004) (8 + N) (nI q)) = M2 at *
    -- what stands behind the two numbers
    have fin : ∀ {S3 M3 : Sto} {b3 a3 k3 m r : Nat}, Tk y n b3 a3 k3 S3 M3 → b < b3 → NtR N g S3 M3 → ntC S S3 → ntM N M M3 → 1 ≤ m → m ≤ 2097152 → r < m → ai M3 1004 (8 + N) = nI q → al M3 1009 (8 + N) = lN m → al M3 1010 (8 + N) = lN r →
        ∃ S' M', F_Rd_readNet_162 (nI q) (nI m) (nI r) S3 = some ((), S') ∧ F_m_readNet_222 (nI (8 + N)) M3 = some ((), M') ∧ ntC S S' ∧ ntM N M M' ∧ NtO y n N b S' M' := by
      intro S3 M3 b3 a3 k3 m r t3 hb3 N3 nc nm m1 m2 m3 d4 d9 d10
      obtain ⟨S', M', p1, p2, p3, p4, p5⟩ := tail_nt t3 N3 hN ⟨hq, m1, m2, m3⟩ d4 d9 d10
      refine ⟨S', M', p1, p2, nc.trans p3, nm.trans p4, ?_⟩
      rcases p5 with ⟨b', a', k', g', v1, v2, v3⟩ | v
      · exact Or.inl ⟨b', a', k', g', by omega, v2, v3⟩
      · exact Or.inr v
    have dead : ∀ {S3 M3 : Sto} (x2 x3 : Int32), Dd S3 M3 → ai M3 1003 3 = nI N → ntC S S3 → ntM N M M3 → ∃ S' M', F_Rd_readNet_162 (nI q) x2 x3 S3 = some ((), S') ∧ F_m_readNet_222 (nI (8 + N)) M3 = some ((), M') ∧ ntC S S' ∧ ntM N M M' ∧ NtO y n N b S' M' := by
      intro S3 M3 x2 x3 hD h3 nc nm
      obtain ⟨M', p1, p2, p3, p4⟩ := tail_d hD hN h3 (nI q) x2 x3
      exact ⟨S3, M', p1, p2, nc, nm.trans p3, Or.inr p4⟩
    have hq5 : q = 0 ∨ q = 1 ∨ q = 2 ∨ q = 3 ∨ q = 4 := by omega
    rcases hq5 with rfl | rfl | rfl | rfl | rfl
    · -- mesh
      rw [if_pos (show nI 0 = 0 from rfl), if_pos (show nI 0 = 0 from rfl)]
      obtain ⟨r, r', S3, M3, n1, n2, n3, n4, n5⟩ := num_ok t2 (lo := 2) (hi := 999) (by decide) (by decide)
      have N3 := N2.fr n3 n4
      rw [show F_Rd_expectNumber 2 999 S1 = some (r, S3) from n1, b2_s, show F_m_readNumber 2 999 M2 = some (r', M3) from n2, b2_s, ck_t i16, ck_t i16]
      have e1 : al (ul M3 1009 (vp_updL (al M3 1009) (8 + N) r'.toInt64)) 1009 (8 + N) = r'.toInt64 := at_ul
      have f4 : Fr [] [] [] [1009] [] M3 (ul M3 1009 (vp_updL (al M3 1009) (8 + N) r'.toInt64)) := Fr.rfl.ul (by decide)
      have m4 : ntM N M3 (ul M3 1009 (vp_updL (al M3 1009) (8 + N) r'.toInt64)) := nt_l (Or.inl rfl)
      have N4 : NtR N g S3 (ul M3 1009 (vp_updL (al M3 1009) (8 + N) r'.toInt64)) := N3.m m4 rfl
      have d4 : ai (ul M3 1009 (vp_updL (al M3 1009) (8 + N) r'.toInt64)) 1004 (8 + N) = nI 0 := by
        show ai M3 1004 (8 + N) = _
        rw [n4.ai 1004 (by decide)]; exact c4
      have nM4 := (nM2.trans (n4.n N)).trans m4
      rw [e1]
      generalize ul M3 1009 (vp_updL (al M3 1009) (8 + N) r'.toInt64) = M4 at *
      rcases n5 with ⟨v, b3, a3, k3, v1, v2, v3, v4, v5, v6⟩ | ⟨v1, hD⟩
      · have t4 := v6.mm f4 (by decide)
        obtain ⟨r5, r5', S5, M5, z1, z2, z3, z4, z5⟩ := num_ok t4 (lo := 0) (hi := v - 1) (by decide) (by omega)
        have N5 := N4.fr z3 z4
        have hv : nI v - (1 : Int32) = nI (v - 1) := sub_nI (b := 1) (by omega)
        have hv2 : (nI v).toInt64.toInt32 - (1 : Int32) = nI (v - 1) := by rw [i2l_nI (by omega), l2i_lN]; exact hv
        rw [v3, v4, if_pos v6.c9, hv, hv2, (show (0 : Int32) = nI 0 from rfl), z1, b2_s, z2, b2_s, ck_t i16]
        have m6 : ntM N M5 (ul M5 1010 (vp_updL (al M5 1010) (8 + N) r5'.toInt64)) := nt_l (Or.inr rfl)
        have f6 : Fr [] [] [] [1010] [] M5 (ul M5 1010 (vp_updL (al M5 1010) (8 + N) r5'.toInt64)) := Fr.rfl.ul (by decide)
        have N6 : NtR N g S5 (ul M5 1010 (vp_updL (al M5 1010) (8 + N) r5'.toInt64)) := N5.m m6 rfl
        have d6 : ai (ul M5 1010 (vp_updL (al M5 1010) (8 + N) r5'.toInt64)) 1004 (8 + N) = nI 0 := by
          show ai M5 1004 (8 + N) = _
          rw [z4.ai 1004 (by decide)]; exact d4
        have d9 : al (ul M5 1010 (vp_updL (al M5 1010) (8 + N) r5'.toInt64)) 1009 (8 + N) = lN v := by
          show al M5 1009 (8 + N) = _
          rw [z4.al 1009 (by decide), e1, v4, i2l_nI (by omega)]
        have d10 : al (ul M5 1010 (vp_updL (al M5 1010) (8 + N) r5'.toInt64)) 1010 (8 + N) = r5'.toInt64 := at_ul
        have nM6 := (nM4.trans (z4.n N)).trans m6
        have nC6 := (nC1.trans n3.n).trans z3.n
        unfold F_Rd_readNet_88
        generalize ul M5 1010 (vp_updL (al M5 1010) (8 + N) r5'.toInt64) = M6 at *
        rcases z5 with ⟨w, b6, a6, k6, u1, u2, u3, u4, u5, u6⟩ | ⟨u1, hD⟩
        · rw [u3]
          exact fin (u6.mm f6 (by decide)) (by omega) N6 nC6 nM6 (by omega) (by omega) (by omega) d6 d9 (by rw [d10, u4, i2l_nI (by omega)])
        · exact dead _ _ (hD.mm f6 (by decide)) N6.n3 nC6 nM6
      · have hD4 := hD.mm f4 (by decide)
        unfold F_Rd_readNet_88
        rw [if_neg hD.c, md_num hD4.m, b2_s, ck_t i16]
        exact dead _ _ (hD4.mm (Fr.rfl.ul (a := []) (b := []) (c := []) (d := [1010]) (e := []) (by decide)) (by decide)) (show ai M4 1003 3 = nI N from N4.n3) (nC1.trans n3.n) (nM4.trans (nt_l (Or.inr rfl)))
    · -- twos
      rw [if_neg (show ¬ nI 1 = 0 by decide), if_pos (show nI 1 = 1 from rfl), if_neg (show ¬ nI 1 = 0 by decide), if_pos (show nI 1 = 1 from rfl)]
      obtain ⟨r, r', S3, M3, n1, n2, n3, n4, n5⟩ := num_ok t2 (lo := 0) (hi := 20) (by decide) (by decide)
      have N3 := N2.fr n3 n4
      rw [show F_Rd_expectNumber 0 20 S1 = some (r, S3) from n1, b2_s, show F_m_readNumber 0 20 M2 = some (r', M3) from n2, b2_s, ck_t i16, ck_t i16]
      have go : ∀ x z : Int64, ∃ M4, ul (ul M3 1009 (vp_updL (al M3 1009) (8 + N) x)) 1010 (vp_updL (al (ul M3 1009 (vp_updL (al M3 1009) (8 + N) x)) 1010) (8 + N) z) = M4 ∧ Fr [] [] [] [1009, 1010] [] M3 M4 ∧ ntM N M3 M4 ∧ al M4 1009 (8 + N) = x ∧ al M4 1010 (8 + N) = z ∧ ai M4 1004 (8 + N) = nI 1 ∧ ai M4 1003 3 = ai M3 1003 3 := by
        intro x z
        refine ⟨_, rfl, (Fr.rfl.ul (by decide)).ul (by decide), (nt_l (Or.inl rfl)).trans (nt_l (Or.inr rfl)), ?_, at_ul, ?_, rfl⟩
        · show al (ul M3 1009 (vp_updL (al M3 1009) (8 + N) x)) 1009 (8 + N) = x
          exact at_ul
        · show ai M3 1004 (8 + N) = _
          rw [n4.ai 1004 (by decide)]; exact c4
      obtain ⟨M4, w1, w2, w3, w4, w5, w6, w7⟩ := go ((2 : Int64) <<< (Int32.toInt64 r' &&& 63)) ((1 : Int64) <<< (Int32.toInt64 r' &&& 63))
      rw [w1]
      have N4 := N3.m w3 w7
      rcases n5 with ⟨v, b3, a3, k3, v1, v2, v3, v4, v5, v6⟩ | ⟨v1, hD⟩
      · have hp := p20 v2
        rw [v3, sh2 v2, sh1 (by omega)]
        rw [v4] at w4 w5
        exact fin (v6.mm w2 (by decide)) (by omega) N4 (nC1.trans n3.n) ((nM2.trans (n4.n N)).trans w3) (by omega) (by omega) (by omega) w6 (by rw [w4, (show (2 : Int64) = lN 2 from rfl), wb_shl 2 (by omega)]) (by rw [w5, shl1 (by omega)])
      · exact dead _ _ (hD.mm w2 (by decide)) N4.n3 (nC1.trans n3.n) ((nM2.trans (n4.n N)).trans w3)
    · -- ending
      rw [if_neg (show ¬ nI 2 = 0 by decide), if_neg (show ¬ nI 2 = 1 by decide), if_pos (show nI 2 = 2 from rfl), if_neg (show ¬ nI 2 = 0 by decide), if_neg (show ¬ nI 2 = 1 by decide), if_pos (show nI 2 = 2 from rfl)]
      obtain ⟨r, r', S3, M3, n1, n2, n3, n4, n5⟩ := num_ok t2 (lo := 1) (hi := 4) (by decide) (by decide)
      have N3 := N2.fr n3 n4
      rw [show F_Rd_expectNumber 1 4 S1 = some (r, S3) from n1, b2_s, show F_m_readNumber 1 4 M2 = some (r', M3) from n2, b2_s]
      have e4 : ai M3 1004 (8 + N) = nI 2 := by rw [n4.ai 1004 (by decide)]; exact c4
      have go : ∀ x : Int64, ∃ M4, ul M3 1009 (vp_updL (al M3 1009) (8 + N) x) = M4 ∧ Fr [] [] [] [1009] [] M3 M4 ∧ ntM N M3 M4 ∧ al M4 1009 (8 + N) = x ∧ ai M4 1004 (8 + N) = nI 2 ∧ ai M4 1003 3 = ai M3 1003 3 :=
        fun x => ⟨_, rfl, Fr.rfl.ul (by decide), nt_l (Or.inl rfl), at_ul, e4, rfl⟩
      have go2 : ∀ (M5 : Sto) (x : Int64), ∃ M6, ul M5 1010 (vp_updL (al M5 1010) (8 + N) x) = M6 ∧ Fr [] [] [] [1010] [] M5 M6 ∧ ntM N M5 M6 ∧ al M6 1010 (8 + N) = x ∧ ai M6 1004 (8 + N) = ai M5 1004 (8 + N) ∧ al M6 1009 (8 + N) = al M5 1009 (8 + N) ∧ ai M6 1003 3 = ai M5 1003 3 :=
        fun M5 x => ⟨_, rfl, Fr.rfl.ul (by decide), nt_l (Or.inr rfl), at_ul, rfl, rfl, rfl⟩
      rcases n5 with ⟨v, b3, a3, k3, v1, v2, v3, v4, v5, v6⟩ | ⟨v1, hD⟩
      · have hp := pow_b v (by omega) v1
        obtain ⟨M4, w1, w2, w3, w4, w5, w6⟩ := go (nI (10 ^ v)).toInt64
        rw [v3, pow_c v (by omega) v1, b1_s, v4, pow_m v (by omega), b1_s, ck_t i16, ck_t i16, w1, w4]
        have N4 := N3.m w3 w6
        have t4 := v6.mm w2 (by decide)
        obtain ⟨r5, r5', S5, M5, z1, z2, z3, z4, z5⟩ := num_ok t4 (lo := 0) (hi := 10 ^ v - 1) (by decide) (by omega)
        have N5 := N4.fr z3 z4
        have hv : nI (10 ^ v) - (1 : Int32) = nI (10 ^ v - 1) := sub_nI (b := 1) (by omega)
        have hv2 : (nI (10 ^ v)).toInt64.toInt32 - (1 : Int32) = nI (10 ^ v - 1) := by rw [i2l_nI (by omega), l2i_lN]; exact hv
        obtain ⟨M6, x1, x2, x3, x4, x5, x6, x7⟩ := go2 M5 r5'.toInt64
        rw [if_pos v6.c9, hv, hv2, (show (0 : Int32) = nI 0 from rfl), z1, b2_s, z2, b2_s, ck_t i16, x1]
        have N6 := N5.m x3 x7
        have nM6 := (((nM2.trans (n4.n N)).trans w3).trans (z4.n N)).trans x3
        have nC6 := (nC1.trans n3.n).trans z3.n
        unfold F_Rd_readNet_138
        rcases z5 with ⟨w, b6, a6, k6, u1, u2, u3, u4, u5, u6⟩ | ⟨u1, hD⟩
        · rw [u3]
          exact fin (u6.mm x2 (by decide)) (by omega) N6 nC6 nM6 (by omega) (by omega) (by omega) (by rw [x5, z4.ai 1004 (by decide)]; exact w5) (by rw [x6, z4.al 1009 (by decide), w4, i2l_nI (by omega)]) (by rw [x4, u4, i2l_nI (by omega)])
        · exact dead _ _ (hD.mm x2 (by decide)) N6.n3 nC6 nM6
      · obtain ⟨pr, hpr⟩ := pow_t r
        obtain ⟨M4, w1, w2, w3, w4, w5, w6⟩ := go (nI (10 ^ 0)).toInt64
        have hD4 := hD.mm w2 (by decide)
        have N4 := N3.m w3 w6
        obtain ⟨M6, x1, x2, x3, x4, x5, x6, x7⟩ := go2 M4 (Int32.toInt64 0)
        unfold F_Rd_readNet_138
        rw [hpr, b1_s, if_neg hD.c, v1, (show (0 : Int32) = nI 0 from rfl), pow_m 0 (by decide), b1_s, ck_t i16, ck_t i16, w1]
        refine Exists.elim (dead pr (nI 0) (hD4.mm x2 (by decide)) ((N4.m x3 x7).n3) (nC1.trans n3.n) (((nM2.trans (n4.n N)).trans w3).trans x3)) (fun S' hS => Exists.elim hS (fun M' hM => ⟨S', M', hM.1, ?_, hM.2.2⟩))
        refine (congrArg (fun z => b2 z _) (md_num hD4.m _ _)).trans ?_
        rw [b2_s, ck_t i16]
        refine Eq.trans ?_ hM.2.1
        exact congrArg (F_m_readNet_222 (nI (8 + N))) x1
    · -- week
      rw [if_neg (show ¬ nI 3 = 0 by decide), if_neg (show ¬ nI 3 = 1 by decide), if_neg (show ¬ nI 3 = 2 by decide), if_pos (show nI 3 = 3 from rfl), if_neg (show ¬ nI 3 = 0 by decide), if_neg (show ¬ nI 3 = 1 by decide), if_neg (show ¬ nI 3 = 2 by decide), if_pos (show nI 3 = 3 from rfl), ck_t i16]
      have go : ∃ M4, ul M2 1009 (vp_updL (al M2 1009) (8 + N) 7) = M4 ∧ Fr [] [] [] [1009] [] M2 M4 ∧ ntM N M2 M4 ∧ al M4 1009 (8 + N) = lN 7 ∧ ai M4 1004 (8 + N) = nI 3 ∧ ai M4 1003 3 = ai M2 1003 3 :=
        ⟨_, rfl, Fr.rfl.ul (by decide), nt_l (Or.inl rfl), at_ul, c4, rfl⟩
      obtain ⟨M4, w1, w2, w3, w4, w5, w6⟩ := go
      rw [w1]
      have N4 := N2.m w3 w6
      have t4 := t2.mm w2 (by decide)
      obtain ⟨r5, r5', S5, M5, z1, z2, z3, z4, z5⟩ := num_ok t4 (lo := 0) (hi := 6) (by decide) (by decide)
      have N5 := N4.fr z3 z4
      rw [show F_Rd_expectNumber 0 6 S1 = some (r5, S5) from z1, b2_s, show F_m_readNumber 0 6 M4 = some (r5', M5) from z2, b2_s, ck_t i16]
      have go2 : ∃ M6, ul M5 1010 (vp_updL (al M5 1010) (8 + N) r5'.toInt64) = M6 ∧ Fr [] [] [] [1010] [] M5 M6 ∧ ntM N M5 M6 ∧ al M6 1010 (8 + N) = r5'.toInt64 ∧ ai M6 1004 (8 + N) = ai M5 1004 (8 + N) ∧ al M6 1009 (8 + N) = al M5 1009 (8 + N) ∧ ai M6 1003 3 = ai M5 1003 3 :=
        ⟨_, rfl, Fr.rfl.ul (by decide), nt_l (Or.inr rfl), at_ul, rfl, rfl, rfl⟩
      obtain ⟨M6, x1, x2, x3, x4, x5, x6, x7⟩ := go2
      rw [x1]
      have N6 := N5.m x3 x7
      have nM6 := ((nM2.trans w3).trans (z4.n N)).trans x3
      have nC6 := nC1.trans z3.n
      rcases z5 with ⟨w, b6, a6, k6, u1, u2, u3, u4, u5, u6⟩ | ⟨u1, hD⟩
      · rw [u3]
        exact fin (m := 7) (u6.mm x2 (by decide)) (by omega) N6 nC6 nM6 (by omega) (by omega) (by omega) (by rw [x5, z4.ai 1004 (by decide)]; exact w5) (by rw [x6, z4.al 1009 (by decide), w4]) (by rw [x4, u4, i2l_nI (by omega)])
      · exact dead _ _ (hD.mm x2 (by decide)) N6.n3 nC6 nM6
    · -- salted
      rw [if_neg (show ¬ nI 4 = 0 by decide), if_neg (show ¬ nI 4 = 1 by decide), if_neg (show ¬ nI 4 = 2 by decide), if_neg (show ¬ nI 4 = 3 by decide), if_neg (show ¬ nI 4 = 0 by decide), if_neg (show ¬ nI 4 = 1 by decide), if_neg (show ¬ nI 4 = 2 by decide), if_neg (show ¬ nI 4 = 3 by decide)]
      obtain ⟨r, r', S3, M3, n1, n2, n3, n4, n5⟩ := num_ok t2 (lo := 2) (hi := 999) (by decide) (by decide)
      have N3 := N2.fr n3 n4
      rw [show F_Rd_expectNumber 2 999 S1 = some (r, S3) from n1, b2_s, show F_m_readNumber 2 999 M2 = some (r', M3) from n2, b2_s, ck_t i16, ck_t i16]
      have go : ∀ x z : Int64, ∃ M4, ul (ul M3 1009 (vp_updL (al M3 1009) (8 + N) x)) 1010 (vp_updL (al (ul M3 1009 (vp_updL (al M3 1009) (8 + N) x)) 1010) (8 + N) z) = M4 ∧ Fr [] [] [] [1009, 1010] [] M3 M4 ∧ ntM N M3 M4 ∧ al M4 1009 (8 + N) = x ∧ al M4 1010 (8 + N) = z ∧ ai M4 1004 (8 + N) = nI 4 ∧ ai M4 1003 3 = ai M3 1003 3 := by
        intro x z
        refine ⟨_, rfl, (Fr.rfl.ul (by decide)).ul (by decide), (nt_l (Or.inl rfl)).trans (nt_l (Or.inr rfl)), ?_, at_ul, ?_, rfl⟩
        · show al (ul M3 1009 (vp_updL (al M3 1009) (8 + N) x)) 1009 (8 + N) = x
          exact at_ul
        · show ai M3 1004 (8 + N) = _
          rw [n4.ai 1004 (by decide)]; exact c4
      obtain ⟨M4, w1, w2, w3, w4, w5, w6, w7⟩ := go r'.toInt64 0
      rw [w1]
      have N4 := N3.m w3 w7
      rcases n5 with ⟨v, b3, a3, k3, v1, v2, v3, v4, v5, v6⟩ | ⟨v1, hD⟩
      · rw [v3]
        exact fin (r := 0) (v6.mm w2 (by decide)) (by omega) N4 (nC1.trans n3.n) ((nM2.trans (n4.n N)).trans w3) (by omega) (by omega) (by omega) w6 (by rw [w4, v4, i2l_nI (by omega)]) w5
      · exact dead _ _ (hD.mm w2 (by decide)) N4.n3 (nC1.trans n3.n) ((nM2.trans (n4.n N)).trans w3)
  · have e8 : N = 8 := by omega
    obtain ⟨S1, M1, p1, p2, p3, p4, p5⟩ := tk.bad (e := 2) (by decide) (by decide)
    rw [if_neg (by rw [lt_nI (by omega) (by decide)]; exact hN), if_pos (by rw [e8]), (show (2 : Int32) = nI 2 from rfl), p1, b2_s, p2, b2_s]
    unfold F_m_readNet_16
    rw [if_neg p5.m]
    exact ⟨S1, M1, rfl, rfl, p3.e.n, p4.e.n N, Or.inr p5⟩
end
