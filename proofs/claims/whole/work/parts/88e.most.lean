/-! ===== the operations some, just, haul, most ===== -/
theorem RC_26 {t : Tp} {f : Int32} {Z : Zt} {c : Scn} {i : Option Scn} {S T : Sto} (h : RC t f Z c i S) (q : Fr [] [] [] [26] [] S T) : RC t f Z c i T :=
  RC_q h (q.mono (by decide) (by decide) (by decide) (by decide) (by decide)) (by rw [q.gr 48 (by decide), q.gr 49 (by decide)]; exact h.gr)
theorem some_ok : Ok_some := by
  intro S M O h x
  obtain ⟨t, f, Z, c, i, h1, h2, h3, hC, hM⟩ := h
  have zc := hC.z
  have zm := (hM.cd 0).z
  obtain ⟨s26, s27, _⟩ := hC.sc
  have hS : ShC Z S := zc.2.2.2.2.2.2.2
  obtain ⟨c1, c2, c3, _⟩ := h2.1
  have c1 : 1 ≤ sLo c := c1
  have c2 : sLo c ≤ sHi c := c2
  have c3 : sHi c ≤ 1000000000000 := c3
  by_cases hx : ∃ s, s < 2 ^ zN Z ∧ x = nI s
  · obtain ⟨s, hs, rfl⟩ := hx
    obtain ⟨T, t1, t2, t3⟩ := me_ok h1 hS c1 (by omega) c3
    obtain ⟨M', m1, m2⟩ := so_ok hs h1 h2.1 zm (hM.cd 0).sc
    refine ⟨0, T, oW O (zL (sv Z (sLo c) (sHi c) s)), zL (sv Z (sLo c) (sHi c) s), M', ?_, ?_, ?_, fun _ => rfl, t, f, Z, c, i, h1, h2, h3, RC_26 hC t2, RM_q (hM.cd 0) (oF_QM m2)⟩
    · unfold F_l_some F_w_some
      rw [shas_y hS.1 (p2N h1) hs, b1_s, if_neg I1_0, s26, s27, t1, b2_s, bs_ok hs h1 t3, b1_s, b2_s, su_l]
    · unfold F_m_some
      rw [mset_y h1 zm hs, b1_s, if_neg I1_0, m1, b2_s]
    · rw [m2.gi _ (by decide)]; rfl
  · refine ⟨1, S, O, 0, si (si M 1001 0) 1001 1, ?_, ?_, rfl, fun e => absurd e (by decide), t, f, Z, c, i, h1, h2, h3, hC, (hM.cd 0).cd 1⟩
    · unfold F_l_some F_w_some
      rw [shas_n h1 hS.1 hx, b1_s, if_pos rfl, b2_s, su_r]
      rfl
    · unfold F_m_some
      rw [mset_n h1 zm hx, b1_s, if_pos rfl]
      rfl
theorem haul_ok : Ok_haul := by
  intro S M h
  obtain ⟨t, f, Z, c, i, h1, h2, h3, hC, hM⟩ := h
  have zc := hC.z
  have zm := (hM.cd 0).z
  obtain ⟨s26, s27, s28, _⟩ := hC.sc
  obtain ⟨_, _, n16, _⟩ := (hM.cd 0).sc
  have hS : ShC Z S := zc.2.2.2.2.2.2.2
  obtain ⟨c1, c2, c3, c4, _⟩ := h2.1
  have c1 : 1 ≤ sLo c := c1
  have c2 : sLo c ≤ sHi c := c2
  have c3 : sHi c ≤ 1000000000000 := c3
  have c4 : sLw c < 2 ^ zN Z := c4
  obtain ⟨T, t1, t2, t3⟩ := me_ok h1 hS c1 (by omega) c3
  obtain ⟨M', m1, m2⟩ := so_ok c4 h1 h2.1 zm (hM.cd 0).sc
  refine ⟨zL (sv Z (sLo c) (sHi c) (sLw c)), T, M', ?_, ?_, t, f, Z, c, i, h1, h2, h3, RC_26 hC t2, RM_q (hM.cd 0) (oF_QM m2)⟩
  · unfold F_w_haul
    rw [s26, s27, t1, b2_s, t2.gi 28 (by decide), s28, bs_ok c4 h1 t3, b1_s]
  · unfold F_m_haul
    rw [n16, m1, b2_s]
theorem just_ok : Ok_just := by
  intro S M O h x y
  obtain ⟨t, f, Z, c, i, h1, h2, h3, hC, hM⟩ := h
  have zc := hC.z
  have zm := (hM.cd 0).z
  obtain ⟨s26, s27, _⟩ := hC.sc
  have hS : ShC Z S := zc.2.2.2.2.2.2.2
  obtain ⟨c1, c2, c3, _⟩ := h2.1
  have c1 : 1 ≤ sLo c := c1
  have c2 : sLo c ≤ sHi c := c2
  have c3 : sHi c ≤ 1000000000000 := c3
  have bad : (F_l_just x y S O = some (1, S, O) ∧ F_m_just x y M = some (0, si (si M 1001 0) 1001 1)) → ∃ k S' O' b M', F_l_just x y S O = some (k, S', O') ∧ F_m_just x y M = some (b, M') ∧ gi M' 1001 = k ∧ (k = 0 → al O' 2000 (Int32.toNatClampNeg 0) = b) ∧ Rl S' M' :=
    fun w => ⟨1, S, O, 0, si (si M 1001 0) 1001 1, w.1, w.2, rfl, fun e => absurd e (by decide), t, f, Z, c, i, h1, h2, h3, hC, (hM.cd 0).cd 1⟩
  by_cases hx : ∃ s, s < 2 ^ zN Z ∧ x = nI s
  · obtain ⟨s, hs, rfl⟩ := hx
    by_cases hy : ∃ k, k ≤ 8 ∧ y = nI k
    · obtain ⟨k, hk, rfl⟩ := hy
      obtain ⟨T, t1, t2, t3⟩ := me_ok h1 hS c1 (by omega) c3
      obtain ⟨M', m1, m2⟩ := jo_ok (k := k) hs h1 h2.1 hk zm (hM.cd 0).sc
      refine ⟨0, T, oW O (zL (sm (trm Z (sLo c) (sHi c) s k) (s + 1))), zL (sm (trm Z (sLo c) (sHi c) s k) (s + 1)), M', ?_, ?_, ?_, fun _ => rfl, t, f, Z, c, i, h1, h2, h3, RC_26 hC t2, RM_q (hM.cd 0) (oF_QM m2)⟩
      · unfold F_l_just F_w_just
        rw [shas_y hS.1 (p2N h1) hs, b1_s, if_neg I1_0, if_neg (nI_pos (by omega)), (show (8 : Int32) = nI 8 from rfl), if_pos (by rw [le_nI (by omega) (by decide)]; exact hk), s26, s27, t1, b2_s, bj_ok hs h1 hk t3, b1_s, b2_s, su_l]
      · unfold F_m_just
        rw [mset_y h1 zm hs, b1_s, if_neg I1_0, i2l_nI (by omega), (show (0 : Int64) = lN 0 from rfl), (show (8 : Int64) = lN 8 from rfl), isIn_y (by omega) hk (by decide), b1_s, if_neg I1_0, m1, b2_s]
      · rw [m2.gi _ (by decide)]; rfl
    · refine bad ⟨?_, ?_⟩
      · unfold F_l_just F_w_just
        rw [shas_y hS.1 (p2N h1) hs, b1_s, if_neg I1_0]
        by_cases q : y < 0
        · rw [if_pos q]; rfl
        · rw [if_neg q, if_neg]
          · rfl
          · obtain ⟨k, hk, rfl⟩ := nI_of q
            rw [(show (8 : Int32) = nI 8 from rfl), le_nI hk (by decide)]
            exact fun w => hy ⟨k, w, rfl⟩
      · unfold F_m_just
        rw [mset_y h1 zm hs, b1_s, if_neg I1_0, (show (0 : Int64) = lN 0 from rfl), (show (8 : Int64) = lN 8 from rfl), isIn_n (by decide) (by decide) (fun ⟨k, _, k2, k3⟩ => hy ⟨k, k2, by rw [in_wide (by omega)] at k3; exact k3⟩), b1_s, if_pos rfl]
        rfl
  · refine bad ⟨?_, ?_⟩
    · unfold F_l_just F_w_just
      rw [shas_n h1 hS.1 hx, b1_s, if_pos rfl]
      rfl
    · unfold F_m_just
      rw [mset_n h1 zm hx, b1_s, if_pos rfl]
      rfl
theorem mo_lp {Z : Zt} {c : Scn} {S : Sto} {k : Nat} (hz : ZOk Z) (hc : SnOk Z c.1) (h25 : gi S 25 = nI (2 ^ zN Z)) (ht : Cts Z (sLo c) (sHi c) S) (hk : k ≤ 8) : ∀ (j n n' q : Nat) (M : Sto) (best : Int32) (cc cm : Int64), q + j = 2 ^ zN Z → j < n → j < n' → ZM Z M → ScM c M →
    ((best = -1 ∧ cc = -1) ∨ (¬ best = -1 ∧ cc = cm ∧ ∃ z : Int, cc = zL z ∧ 0 ≤ z ∧ z ≤ 1000000000000)) → ∃ b M', F_w_most_53 n (nI k) best cc (nI q) S = some (.inl b, S) ∧ F_m_most_34 n' (nI k) best cm (nI q) M = some (b, M') ∧ oF M M' := by
  have p := p2N hz
  have c0 : 1 ≤ sLo c := hc.1
  have c3 : sHi c ≤ 1000000000000 := hc.2.2.1
  intro j
  induction j with
  | zero =>
    intro n n' q M best cc cm hq hn hn' hZ hM hI
    obtain ⟨n, rfl⟩ : ∃ q, n = q + 1 := ⟨n - 1, by omega⟩
    obtain ⟨n', rfl⟩ : ∃ q, n' = q + 1 := ⟨n' - 1, by omega⟩
    refine ⟨best, M, ?_, ?_, Fr.rfl⟩
    · rw [F_w_most_53, h25, if_pos (nI_le (by omega) (by omega))]
    · rw [F_m_most_34, sets_m hz hZ, if_pos (nI_le (by omega) (by omega))]
  | succ j ih =>
    intro n n' q M best cc cm hq hn hn' hZ hM hI
    obtain ⟨n, rfl⟩ : ∃ q, n = q + 1 := ⟨n - 1, by omega⟩
    obtain ⟨n', rfl⟩ : ∃ q, n' = q + 1 := ⟨n' - 1, by omega⟩
    have n1 : nI q + (1 : Int32) = nI (q + 1) := nI_add q 1
    have hpc : pc q ≤ 8 := pc256 (by omega)
    by_cases w : pc q = k
    · obtain ⟨T, t1, t2⟩ := so_ok (c := c) (set := q) (by omega) hz hc hZ hM
      have zT := ZM_o hZ t2
      have sT := ScM_fr hM t2 (by decide) (by decide) (by decide) (by decide)
      have bd := sv_bd (Z := Z) (lo := sLo c) (hi := sHi c) (set := q) (by omega)
      have c1 : F_w_most_53 (n + 1) (nI k) best cc (nI q) S = if zL (sv Z (sLo c) (sHi c) q) ≤ cc then F_w_most_53 n (nI k) best cc (nI (q + 1)) S else F_w_most_53 n (nI k) (nI q) (zL (sv Z (sLo c) (sHi c) q)) (nI (q + 1)) S := by
        rw [F_w_most_53, h25, if_neg (nI_ge (by omega) (by omega)), bitCountI_ok q (by omega), b1_s, w, if_pos rfl, bs_ok (by omega) hz ht, b1_s]
        unfold F_w_most_89 F_w_most_104
        rw [n1]
      have m1 : F_m_most_34 (n' + 1) (nI k) best cm (nI q) M = if best = -1 then F_m_most_34 n' (nI k) (nI q) (zL (sv Z (sLo c) (sHi c) q)) (nI (q + 1)) T else if cm < zL (sv Z (sLo c) (sHi c) q) then F_m_most_34 n' (nI k) (nI q) (zL (sv Z (sLo c) (sHi c) q)) (nI (q + 1)) T else F_m_most_34 n' (nI k) best cm (nI (q + 1)) T := by
        rw [F_m_most_34, sets_m hz hZ, if_neg (nI_ge (by omega) (by omega)), i2l_nI (by omega), bitsOf_ok (by omega), b1_s, w, if_pos rfl, t1, b2_s]
        unfold F_m_most_83 F_m_most_89
        rw [n1]
      have nq : ¬ nI q = -1 := by
        rw [show (-1 : Int32) = zI (-1) from rfl, nI_z, eq_zI (by omega) (by omega) (by omega) (by omega)]
        omega
      obtain ⟨b, U, u1, u2, u3⟩ := ih n n' (q + 1) T (nI q) (zL (sv Z (sLo c) (sHi c) q)) (zL (sv Z (sLo c) (sHi c) q)) (by omega) (by omega) (by omega) zT sT (Or.inr ⟨nq, rfl, _, rfl, bd.1, by omega⟩)
      rcases hI with ⟨i1, i2⟩ | ⟨i1, i2, z, i3, i4, i5⟩
      · refine ⟨b, U, ?_, ?_, t2.trans u3⟩
        · rw [c1, i2, if_neg (by rw [show (-1 : Int64) = zL (-1) from rfl, le_zL (by omega) (by omega) (by omega) (by omega)]; omega)]
          exact u1
        · rw [m1, if_pos i1]
          exact u2
      · by_cases v : sv Z (sLo c) (sHi c) q ≤ z
        · obtain ⟨b2, U2, v1, v2, v3⟩ := ih n n' (q + 1) T best cc cm (by omega) (by omega) (by omega) zT sT (Or.inr ⟨i1, i2, z, i3, i4, i5⟩)
          refine ⟨b2, U2, ?_, ?_, t2.trans v3⟩
          · rw [c1, if_pos (by rw [i3, le_zL (by omega) (by omega) (by omega) (by omega)]; exact v)]
            exact v1
          · rw [m1, if_neg i1, if_neg (by rw [← i2, i3, lt_zL (by omega) (by omega) (by omega) (by omega)]; omega)]
            exact v2
        · refine ⟨b, U, ?_, ?_, t2.trans u3⟩
          · rw [c1, if_neg (by rw [i3, le_zL (by omega) (by omega) (by omega) (by omega)]; exact v)]
            exact u1
          · rw [m1, if_neg i1, if_pos (by rw [← i2, i3, lt_zL (by omega) (by omega) (by omega) (by omega)]; omega)]
            exact u2
    · obtain ⟨b, U, u1, u2, u3⟩ := ih n n' (q + 1) M best cc cm (by omega) (by omega) (by omega) hZ hM hI
      refine ⟨b, U, ?_, ?_, u3⟩
      · rw [F_w_most_53, h25, if_neg (nI_ge (by omega) (by omega)), bitCountI_ok q (by omega), b1_s, if_neg (by rw [eq_nI (by omega) (by omega)]; exact w)]
        unfold F_w_most_89 F_w_most_104
        rw [n1, if_pos]
        · exact u1
        · rcases hI with ⟨i1, i2⟩ | ⟨i1, i2, z, i3, i4, i5⟩
          · rw [i2]; decide
          · rw [i3, show (-1 : Int64) = zL (-1) from rfl, le_zL (by omega) (by omega) (by omega) (by omega)]; omega
      · rw [F_m_most_34, sets_m hz hZ, if_neg (nI_ge (by omega) (by omega)), i2l_nI (by omega), bitsOf_ok (by omega), b1_s, if_neg (by rw [eq_nI (by omega) (by omega)]; exact w)]
        unfold F_m_most_89
        rw [n1]
        exact u2
theorem most_ok : Ok_most := by
  intro S M O h x
  obtain ⟨t, f, Z, c, i, h1, h2, h3, hC, hM⟩ := h
  have zc := hC.z
  have zm := (hM.cd 0).z
  have h8 := h1.1
  obtain ⟨s26, s27, _⟩ := hC.sc
  have hS : ShC Z S := zc.2.2.2.2.2.2.2
  have e3 : ai (si M 1001 0) 1003 (Int32.toNatClampNeg 0) = nI (zN Z) := zm.1
  obtain ⟨c1, c2, c3, _⟩ := h2.1
  have c1 : 1 ≤ sLo c := c1
  have c2 : sLo c ≤ sHi c := c2
  have c3 : sHi c ≤ 1000000000000 := c3
  by_cases hx : ∃ k, k ≤ zN Z ∧ x = nI k
  · obtain ⟨k, hk, rfl⟩ := hx
    obtain ⟨T, t1, t2, t3⟩ := me_ok h1 hS c1 (by omega) c3
    obtain ⟨b, M', m1, m2, m3⟩ := mo_lp (k := k) h1 h2.1 ((t2.gi 25 (by decide)).trans hS.1) t3 (by omega) (2 ^ zN Z) FU FU 0 (si M 1001 0) (-1) (-1) 0 (Nat.zero_add _) (by rw [FU_v]; have := p2N h1; omega) (by rw [FU_v]; have := p2N h1; omega) zm (hM.cd 0).sc (Or.inl ⟨rfl, rfl⟩)
    refine ⟨0, T, oW O b.toInt64, b, M', ?_, ?_, ?_, fun _ => rfl, t, f, Z, c, i, h1, h2, h3, RC_26 hC t2, RM_q (hM.cd 0) (oF_QM m3)⟩
    · unfold F_l_most F_w_most
      rw [if_neg (nI_pos (by omega)), zc.1, if_pos (by rw [le_nI (by omega) (by omega)]; exact hk), s26, s27, t1, b2_s]
      refine (congrArg (fun q => b2 q _) m1).trans ?_
      rw [b2_s, su_l]
    · unfold F_m_most
      rw [e3, i2l_nI (by omega), i2l_nI (by omega), (show (0 : Int64) = lN 0 from rfl), isIn_y (by omega) hk (by omega), b1_s, if_neg I1_0]
      exact m2
    · rw [m3.gi _ (by decide)]; rfl
  · refine ⟨1, S, O, 0, si (si M 1001 0) 1001 1, ?_, ?_, rfl, fun e => absurd e (by decide), t, f, Z, c, i, h1, h2, h3, hC, (hM.cd 0).cd 1⟩
    · unfold F_l_most F_w_most
      by_cases q : x < 0
      · rw [if_pos q]; rfl
      · rw [if_neg q, if_neg]
        · rfl
        · obtain ⟨k, hk, rfl⟩ := nI_of q
          rw [zc.1, le_nI hk (by omega)]
          exact fun w => hx ⟨k, w, rfl⟩
    · unfold F_m_most
      rw [e3, i2l_nI (show zN Z < 2147483648 by omega), (show (0 : Int64) = lN 0 from rfl), isIn_n (by decide) (by omega) (fun ⟨k, _, k2, k3⟩ => hx ⟨k, k2, by rw [in_wide (by omega)] at k3; exact k3⟩), b1_s, if_pos rfl]
      rfl
