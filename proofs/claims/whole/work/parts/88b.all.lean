/-! ===== all, next, place ===== -/
theorem oF_QM {M T : Sto} (h : oF M T) : QM M T := h.mono (by decide) (by decide) (by decide) (by decide) (by decide)
theorem mset_y {Z : Zt} {M : Sto} (hz : ZOk Z) (hZ : ZM Z M) {s : Nat} (hs : s < 2 ^ zN Z) : F_m_isSet (nI s) M = some 1 := by
  unfold F_m_isSet
  rw [sets_m hz hZ, isNet_y hs (p2N hz), b1_s, ck_t (by decide)]
theorem mset_n {Z : Zt} {M : Sto} (hz : ZOk Z) (hZ : ZM Z M) {x : Int32} (h : ¬ ∃ s, s < 2 ^ zN Z ∧ x = nI s) : F_m_isSet x M = some 0 := by
  unfold F_m_isSet
  rw [sets_m hz hZ, isNet_n (p2N hz) h, b1_s, ck_t (by decide)]
theorem allOf_ok {Z : Zt} {c : Scn} {M : Sto} {s : Nat} (hz : ZOk Z) (hc : SnOk Z c.1) (hZ : ZM Z M) (hM : ScM c M) (hs : s < 2 ^ zN Z) : ∃ M', F_m_allOf (nI s) M = some (lN (nC Z s (sLo c) (sHi c)), M') ∧ oF M M' := by
  obtain ⟨c1, c2, c3, _⟩ := hc
  have c1 : 1 ≤ sLo c := c1
  have c2 : sLo c ≤ sHi c := c2
  have c3 : sHi c ≤ 1000000000000 := c3
  obtain ⟨M', m1, m2, m3⟩ := tell_ok (lo := sLo c) (hi := sHi c) hz hZ hs c1 (by omega) c3 hM.1 hM.2.1
  refine ⟨M', ?_, m2⟩
  unfold F_m_allOf
  rw [m1, b2_s, (mo_use m3 hs c1 (by omega) c3).1, b1_s]
theorem all_ok : Ok_all := by
  intro S M O h x
  obtain ⟨t, f, Z, c, i, h1, h2, h3, hC, hM⟩ := h
  have zc := hC.z
  have zm := (hM.cd 0).z
  obtain ⟨s26, s27, _⟩ := hC.sc
  obtain ⟨h25, hE⟩ : ShC Z S := zc.2.2.2.2.2.2.2
  obtain ⟨c1, c2, c3, _⟩ := h2.1
  have c1 : 1 ≤ sLo c := c1
  have c2 : sLo c ≤ sHi c := c2
  have c3 : sHi c ≤ 1000000000000 := c3
  by_cases hx : ∃ s, s < 2 ^ zN Z ∧ x = nI s
  · obtain ⟨s, hs, rfl⟩ := hx
    have p := p2N h1
    obtain ⟨g, r, f', t', e1, e2, e3, e4, hsh⟩ := hE s hs
    obtain ⟨M', m1, m2⟩ := allOf_ok h1 h2.1 zm (hM.cd 0).sc hs
    refine ⟨0, oW O (lN (nC Z s (sLo c) (sHi c))), lN (nC Z s (sLo c) (sHi c)), M', ?_, ?_, ?_, fun _ => rfl, t, f, Z, c, i, h1, h2, h3, hC, RM_q (hM.cd 0) (oF_QM m2)⟩
    · unfold F_l_all F_w_all
      rw [shas_y h25 p hs, b1_s, if_neg I1_0, s26, s27, amount_ok h1 h25 hs ⟨e1, e2, e3, e4⟩ hsh c1 (by omega) c3, b1_s, b1_s, su_l]
    · unfold F_m_all
      rw [mset_y h1 zm hs, b1_s, if_neg I1_0, m1, b2_s]
    · rw [m2.gi _ (by decide)]; rfl
  · refine ⟨1, O, 0, si (si M 1001 0) 1001 1, ?_, ?_, rfl, fun e => absurd e (by decide), t, f, Z, c, i, h1, h2, h3, hC, (hM.cd 0).cd 1⟩
    · unfold F_l_all F_w_all
      rw [shas_n h1 h25 hx, b1_s, if_pos rfl, b1_s, su_r]
      rfl
    · unfold F_m_all
      rw [mset_n h1 zm hx, b1_s, if_pos rfl]
      rfl
theorem next_ok : Ok_next := by
  intro S M O h x y
  obtain ⟨t, f, Z, c, i, h1, h2, h3, hC, hM⟩ := h
  have zc := hC.z
  have zm := (hM.cd 0).z
  obtain ⟨s26, s27, _⟩ := hC.sc
  obtain ⟨n13, n14, _⟩ := (hM.cd 0).sc
  obtain ⟨h25, hE⟩ : ShC Z S := zc.2.2.2.2.2.2.2
  obtain ⟨c1, c2, c3, _⟩ := h2.1
  have c1 : 1 ≤ sLo c := c1
  have c2 : sLo c ≤ sHi c := c2
  have c3 : sHi c ≤ 1000000000000 := c3
  by_cases hx : ∃ s, s < 2 ^ zN Z ∧ x = nI s
  · obtain ⟨s, hs, rfl⟩ := hx
    have p := p2N h1
    obtain ⟨g, r, f', t', e1, e2, e3, e4, hsh⟩ := hE s hs
    obtain ⟨M', m1, m2, m3⟩ := tell_ok (lo := sLo c) (hi := sHi c) h1 zm hs c1 (by omega) c3 n13 n14
    obtain ⟨_, mn, _⟩ := mo_use m3 hs c1 (by omega) c3
    have key : ∃ w, F_w_next (nI s) y S = some (.inl w) ∧ F_m_leastFrom y M' = some w := by
      unfold F_w_next
      rw [shas_y h25 p hs, b1_s, if_neg I1_0, s26, s27]
      rcases L_cases y with q | ⟨v, hv, rfl⟩
      · obtain ⟨w, w1, w2⟩ := mn y 0 (by omega) (Or.inl ⟨q, rfl⟩)
        obtain ⟨u, u1, u2⟩ := pick_ok (low := sLo c) (hi := sHi c) h1 h25 hs ⟨e1, e2, e3, e4⟩ hsh c1 (by omega) c3 (lN 0)
        rw [Nat.max_zero] at w2
        rw [PickR.uni c3 w2 u2] at w1
        refine ⟨u, ?_, w1⟩
        have hle : y ≤ lN (sHi c) := by
          have e := neg_ltL q (show sHi c < 9223372036854775808 by omega)
          exact Int64.le_of_lt (by rw [e]; trivial)
        rw [if_pos hle, mx_n2 q (by omega), (show (0 : Int64) = lN 0 from rfl), u1, b1_s]
      · obtain ⟨w, w1, w2⟩ := mn (lN v) v hv (Or.inr rfl)
        by_cases q : v ≤ sHi c
        · obtain ⟨u, u1, u2⟩ := pick_ok (low := max (sLo c) v) (hi := sHi c) h1 h25 hs ⟨e1, e2, e3, e4⟩ hsh (by omega) (by omega) c3 (lN 0)
          rw [PickR.uni c3 w2 u2] at w1
          refine ⟨u, ?_, w1⟩
          rw [if_pos (by rw [le_lN (by omega) (by omega)]; exact q), mxN (by omega) (by omega), (show (0 : Int64) = lN 0 from rfl), Nat.max_comm, u1, b1_s]
        · refine ⟨-1, ?_, ?_⟩
          · rw [if_neg (by rw [le_lN (by omega) (by omega)]; exact q)]
          · have hn := nC_le Z s (max (sLo c) v) (sHi c)
            rcases w2 with ⟨j, z, z1, _⟩ | ⟨_, z2⟩
            · omega
            · rw [← z2]; exact w1
    obtain ⟨w, w1, w2⟩ := key
    refine ⟨0, oW O w, w, M', ?_, ?_, ?_, fun _ => rfl, t, f, Z, c, i, h1, h2, h3, hC, RM_q (hM.cd 0) (oF_QM m2)⟩
    · unfold F_l_next
      rw [w1, b1_s, su_l]
    · unfold F_m_next
      rw [mset_y h1 zm hs, b1_s, if_neg I1_0, m1, b2_s, w2, b1_s]
    · rw [m2.gi _ (by decide)]; rfl
  · refine ⟨1, O, 0, si (si M 1001 0) 1001 1, ?_, ?_, rfl, fun e => absurd e (by decide), t, f, Z, c, i, h1, h2, h3, hC, (hM.cd 0).cd 1⟩
    · unfold F_l_next F_w_next
      rw [shas_n h1 h25 hx, b1_s, if_pos rfl, b1_s, su_r]
      rfl
    · unfold F_m_next
      rw [mset_n h1 zm hx, b1_s, if_pos rfl]
      rfl
theorem place_ok : Ok_place := by
  intro S M O h x y
  obtain ⟨t, f, Z, c, i, h1, h2, h3, hC, hM⟩ := h
  have zc := hC.z
  have zm := (hM.cd 0).z
  obtain ⟨s26, s27, _⟩ := hC.sc
  obtain ⟨n13, n14, _⟩ := (hM.cd 0).sc
  obtain ⟨h25, hE⟩ : ShC Z S := zc.2.2.2.2.2.2.2
  obtain ⟨c1, c2, c3, _⟩ := h2.1
  have c1 : 1 ≤ sLo c := c1
  have c2 : sLo c ≤ sHi c := c2
  have c3 : sHi c ≤ 1000000000000 := c3
  have bad : (F_l_place x y S O = some (1, O) ∧ F_m_place x y M = some (0, si (si M 1001 0) 1001 1)) → ∃ k O' b M', F_l_place x y S O = some (k, O') ∧ F_m_place x y M = some (b, M') ∧ gi M' 1001 = k ∧ (k = 0 → al O' 2000 (Int32.toNatClampNeg 0) = b) ∧ Rl S M' :=
    fun w => ⟨1, O, 0, si (si M 1001 0) 1001 1, w.1, w.2, rfl, fun e => absurd e (by decide), t, f, Z, c, i, h1, h2, h3, hC, (hM.cd 0).cd 1⟩
  by_cases hx : ∃ s, s < 2 ^ zN Z ∧ x = nI s
  · obtain ⟨s, hs, rfl⟩ := hx
    have p := p2N h1
    rcases L_cases y with q | ⟨v, hv, rfl⟩
    · have nq : ¬ (0 : Int64) ≤ y := fun w => by
        have e := neg_leL q (show 0 < 9223372036854775808 by decide)
        rw [← e]; exact w
      refine bad ⟨?_, ?_⟩
      · unfold F_l_place F_w_place
        rw [shas_y h25 p hs, b1_s, if_neg I1_0, if_neg nq]
        rfl
      · unfold F_m_place
        rw [mset_y h1 zm hs, b1_s, if_neg I1_0, if_neg nq]
        rfl
    · obtain ⟨g, r, f', t', e1, e2, e3, e4, hsh⟩ := hE s hs
      obtain ⟨M', m1, m2, m3⟩ := tell_ok (lo := sLo c) (hi := sHi c) h1 zm hs c1 (by omega) c3 n13 n14
      obtain ⟨mm, _, mi⟩ := mo_use m3 hs c1 (by omega) c3
      obtain ⟨u, u1, u2⟩ := pick_ok (low := sLo c) (hi := sHi c) h1 h25 hs ⟨e1, e2, e3, e4⟩ hsh c1 (by omega) c3 (lN v)
      have hn := nC_le Z s (sLo c) (sHi c)
      have p0 : (0 : Int64) ≤ lN v := by rw [(show (0 : Int64) = lN 0 from rfl), le_lN (by decide) hv]; omega
      refine ⟨0, oW O u, u, M', ?_, ?_, ?_, fun _ => rfl, t, f, Z, c, i, h1, h2, h3, hC, RM_q (hM.cd 0) (oF_QM m2)⟩
      · unfold F_l_place F_w_place
        rw [shas_y h25 p hs, b1_s, if_neg I1_0, if_pos p0, s26, s27, u1, b1_s, b1_s, su_l]
      · unfold F_m_place
        rw [mset_y h1 zm hs, b1_s, if_neg I1_0, if_pos p0, m1, b2_s, mm, b1_s]
        rcases u2 with ⟨j, z, z1, z2, z3, z4⟩ | ⟨z1, z2⟩
        · rw [eq_lN hv (by omega)] at z2
          subst z2
          obtain ⟨y', w, y1, y2, y3⟩ := mi v z1
          rw [if_neg (by rw [le_lN (by omega) hv]; omega), y2, b1_s, y3, z4, z3.uni y1]
        · have : nC Z s (sLo c) (sHi c) ≤ v := Nat.not_lt.mp (fun w => z1 ⟨v, w, rfl⟩)
          rw [if_pos (by rw [le_lN (by omega) hv]; exact this), z2]
      · rw [m2.gi _ (by decide)]; rfl
  · refine bad ⟨?_, ?_⟩
    · unfold F_l_place F_w_place
      rw [shas_n h1 h25 hx, b1_s, if_pos rfl]
      rfl
    · unfold F_m_place
      rw [mset_n h1 zm hx, b1_s, if_pos rfl]
      rfl
