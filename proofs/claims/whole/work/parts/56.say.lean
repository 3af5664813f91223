/-! ===== refusals, wishes, what is seen ===== -/
def cSt (c : Scn) (k : Nat) : Scn := (c.1, c.2.1, c.2.2.1, c.2.2.2.1, fun j => if j = k then sSt c k + 1 else sSt c j)
section Say
variable {t : Tp} {f : Int32} {Z : Zt} {c : Scn} {i : Option Scn} {S M : Sto}
theorem ScOk_st (h : ScOk Z c) (k : Nat) : ScOk Z (cSt c k) := h
theorem refC_ok (h : RC t f Z c i S) {k : Nat} (hk : k < 3) : ∃ S', F_Sc_refuse (nI k) S = some ((), S') ∧ RC t f Z (cSt c k) i S' := by
  refine ⟨ui S 34 (upd (ai S 34) k (ai S 34 k + 1)), ?_, ?_⟩
  · unfold F_Sc_refuse
    rw [if_neg (nI_pos (by omega)), (show (3 : Int32) = nI 3 from rfl), if_neg (nI_ge hk (by decide)), ck_t (ib_nI hk (by decide)), ck_t (ib_nI hk (by decide)), nI_clamp (by omega)]
  · obtain ⟨h1, h2, h3, h4, h5, h6, h7⟩ := h
    have q : Fr [] [] [34] [] [] S (ui S 34 (upd (ai S 34) k (ai S 34 k + 1))) := Fr.rfl.ui (by decide)
    refine ⟨h1, h2, ZC_fr h3 q (by decide) (by decide) (by decide), ?_, h5, fun k hk => ScC_fr (h6 k hk) q (by decide) (by decide) (by decide) (by decide), h7⟩
    obtain ⟨c1, c2, c3, c4, c5, c6, c7, c8, c9, c10, c11, c12⟩ := h4
    refine ⟨c1, c2, c3, c4, c5, c6, c7, c8, c9, c10, c11, fun j hj => ?_⟩
    show upd (ai S 34) k (ai S 34 k + 1) j = if j = k then sSt c k + 1 else sSt c j
    rw [upd_at]
    have e : ∀ j, j < 3 → ai S 34 j = sSt c j := c12
    by_cases q : j = k
    · rw [if_pos q, if_pos q, e k hk]
    · rw [if_neg q, if_neg q, e j hj]
theorem refM_ok (h : RM t f Z c i M) {k : Nat} (hk : k < 3) : RM t f Z (cSt c k) i (ui M 1008 (upd (ai M 1008) k (ai M 1008 k + 1))) := by
  obtain ⟨h1, h2, h3, h4, h5, h6⟩ := h
  have q : Fr [] [] [1008] [] [] M (ui M 1008 (upd (ai M 1008) k (ai M 1008 k + 1))) := Fr.rfl.ui (by decide)
  refine ⟨h1, h2, ZM_fr h3 q (by decide) (by decide), ?_, h5, fun k hk => ScN_fr (h6 k hk) q (by decide) (by decide) (by decide)⟩
  obtain ⟨c1, c2, c3, c4, c5, c6, c7, c8, c9, c10⟩ := h4
  obtain ⟨d1, d2, d3, d4⟩ := c10
  refine ⟨c1, c2, c3, c4, c5, c6, c7, c8, c9, d1, d2, d3, fun j hj => ?_⟩
  show upd (ai M 1008) k (ai M 1008 k + 1) j = if j = k then sSt c k + 1 else sSt c j
  rw [upd_at]
  by_cases q : j = k
  · rw [if_pos q, if_pos q, d4 k hk]
  · rw [if_neg q, if_neg q, d4 j hj]
theorem refM_f {k : Nat} (hk : k < 3) : F_m_refuse (nI k) M = some (-1, ui M 1008 (upd (ai M 1008) k (ai M 1008 k + 1))) := by
  unfold F_m_refuse
  rw [ck_t (ib_nI hk (by decide)), ck_t (ib_nI hk (by decide)), nI_clamp (by omega)]
end Say
/-! see -/
def cSee (c : Scn) (v : Nat) : Scn := (c.1, c.2.1, c.2.2.1, (sE c + 1, fun j => if j = sE c then v else sEn c j), c.2.2.2.2)
theorem see_ok {S M : Sto} (h : Rl S M) (x : Int64) : ∃ r S' M', F_w_see x S = some (r, S') ∧ F_m_see x M = some (r, M') ∧ Rl S' M' := by
  obtain ⟨t, f, Z, c, i, h1, h2, h3, hC, hM⟩ := h
  have hE : sE c ≤ 12 := h2.2.2.2.2.2.1
  have bad : (F_w_see x S = F_w_see_18 S ∧ F_m_see x M = F_m_see_21 (si M 1001 0)) → ∃ r S' M', F_w_see x S = some (r, S') ∧ F_m_see x M = some (r, M') ∧ Rl S' M' := by
    intro hv
    obtain ⟨S', s1, s2⟩ := refC_ok hC (k := 2) (by decide)
    refine ⟨-1, S', _, ?_, ?_, t, f, Z, cSt c 2, i, h1, h2, h3, s2, refM_ok (hM.cd 0) (k := 2) (by decide)⟩
    · rw [hv.1]
      unfold F_w_see_18
      rw [(show (2 : Int32) = nI 2 from rfl), s1, b2_s]
    · rw [hv.2]
      unfold F_m_see_21
      rw [(show (2 : Int32) = nI 2 from rfl), refM_f (by decide), b2_s]
  have c10 := hC.sc.2.2.2.2.2.2.2.2.2.1
  have m9 : gi (si M 1001 0) 1021 = nI (sE c) := (hM.cd 0).sc.2.2.2.2.2.2.2.2.1
  by_cases hx : isNum x
  · obtain ⟨k, k1, k2, rfl⟩ := hx
    by_cases q : sE c = 12
    · refine bad ⟨?_, ?_⟩
      · unfold F_w_see F_Sc_addSeen
        rw [wnum_y k1 k2, b1_s, if_neg I1_0, c10, q, if_neg (by decide), if_neg (by decide), b2_s, if_pos rfl]
      · unfold F_m_see
        rw [m9, q, if_pos (show nI 12 = (12 : Int32) from rfl)]
    · have hw : F_w_see (lN k) S = some (nI (sE c + 1), si (ul S 33 (vp_updL (al S 33) (sE c) (lN k))) 33 (nI (sE c + 1))) := by
        unfold F_w_see F_Sc_addSeen
        rw [wnum_y k1 k2, b1_s, if_neg I1_0, c10, if_neg (nI_pos (by omega)), (show (12 : Int32) = nI 12 from rfl), if_pos (nI_lt (by omega) (by omega)), ck_t (ib_nI (by omega) (by decide)), nI_clamp (by omega), gi_ul, c10, (show (1 : Int32) = nI 1 from rfl), nI_add, b2_s, (show (0 : Int32) = nI 0 from rfl), if_neg (by decide)]
        rfl
      have hm : F_m_see (lN k) M = some (nI (sE c + 1), si (ul (si M 1001 0) 1017 (vp_updL (al (si M 1001 0) 1017) (sE c) (lN k))) 1021 (nI (sE c + 1))) := by
        unfold F_m_see
        rw [m9, if_neg (by rw [(show (12 : Int32) = nI 12 from rfl), eq_nI (by omega) (by decide)]; exact q), mnum_y k1 k2, b1_s, if_neg I1_0, ck_t (ib_nI (by omega) (by decide)), nI_clamp (by omega), gi_ul, m9, (show (1 : Int32) = nI 1 from rfl), nI_add]
        rfl
      refine ⟨_, _, _, hw, hm, t, f, Z, cSee c k, i, h1, ?_, h3, ?_, ?_⟩
      · obtain ⟨g1, g2, g3, g4, g5, g6, g7⟩ := h2
        refine ⟨g1, g2, g3, g4, g5, (by show sE c + 1 ≤ 12; omega), fun j hj => ?_⟩
        have hj : j < sE c + 1 := hj
        show 1 ≤ (if j = sE c then k else sEn c j) ∧ (if j = sE c then k else sEn c j) ≤ 1000000000000
        by_cases e : j = sE c
        · rw [if_pos e]; exact ⟨k1, k2⟩
        · rw [if_neg e]; exact g7 j (by omega)
      · obtain ⟨a1, a2, a3, a4, a5, a6, a7⟩ := hC
        have q : Fr [33] [] [] [33] [] S (si (ul S 33 (vp_updL (al S 33) (sE c) (lN k))) 33 (nI (sE c + 1))) := (Fr.rfl.ul (by decide)).si (by decide)
        refine ⟨a1, a2, ZC_fr a3 q (by decide) (by decide) (by decide), ?_, a5, fun k hk => ScC_fr (a6 k hk) q (by decide) (by decide) (by decide) (by decide), a7⟩
        obtain ⟨c1, c2, c3, c4, c5, c6, c7, c8, c9, c10, c11, c12⟩ := a4
        refine ⟨c1, c2, c3, c4, c5, c6, c7, c8, c9, rfl, fun j hj => ?_, c12⟩
        have hj : j < sE c + 1 := hj
        show vp_updL (al S 33) (sE c) (lN k) j = lN (if j = sE c then k else sEn c j)
        rw [updL_at]
        by_cases e : j = sE c
        · rw [if_pos e, if_pos e]
        · rw [if_neg e, if_neg e]; exact c11 j (by omega)
      · obtain ⟨a1, a2, a3, a4, a5, a6⟩ := hM.cd 0
        have q : Fr [1021] [] [] [1017] [] (si M 1001 0) (si (ul (si M 1001 0) 1017 (vp_updL (al (si M 1001 0) 1017) (sE c) (lN k))) 1021 (nI (sE c + 1))) := (Fr.rfl.ul (by decide)).si (by decide)
        refine ⟨a1, a2, ZM_fr a3 q (by decide) (by decide), ?_, a5, fun k hk => ScN_fr (a6 k hk) q (by decide) (by decide) (by decide)⟩
        obtain ⟨c1, c2, c3, c4, c5, c6, c7, c8, c9, d1, d2, d3, d4⟩ := a4
        refine ⟨c1, c2, c3, c4, c5, c6, c7, c8, rfl, d1, d2, fun j hj => ?_, d4⟩
        have hj : j < sE c + 1 := hj
        show vp_updL (al (si M 1001 0) 1017) (sE c) (lN k) j = lN (if j = sE c then k else sEn c j)
        rw [updL_at]
        by_cases e : j = sE c
        · rw [if_pos e, if_pos e]
        · rw [if_neg e, if_neg e]; exact d3 j (by omega)
  · refine bad ⟨?_, ?_⟩
    · unfold F_w_see
      rw [wnum_n hx, b1_s, if_pos rfl]
    · unfold F_m_see
      rw [m9]
      by_cases q : nI (sE c) = 12
      · rw [if_pos q]
      · rw [if_neg q, mnum_n hx, b1_s, if_pos rfl]
/-! forget -/
def cFo (c : Scn) : Scn := (c.1, c.2.1, (0, c.2.2.1.2), (0, c.2.2.2.1.2), c.2.2.2.2)
theorem forget_ok {S M : Sto} (h : Rl S M) : ∃ S' M', F_w_forget S = some ((), S') ∧ F_m_forget M = some ((), M') ∧ Rl S' M' := by
  obtain ⟨t, f, Z, c, i, h1, h2, h3, hC, hM⟩ := h
  refine ⟨_, _, rfl, rfl, t, f, Z, cFo c, i, h1, ?_, h3, ?_, ?_⟩
  · obtain ⟨g1, g2, g3, g4, g5, g6, g7⟩ := h2
    exact ⟨g1, g2, g3, Nat.zero_le _, fun j hj => absurd hj (Nat.not_lt_zero j), Nat.zero_le _, fun j hj => absurd hj (Nat.not_lt_zero j)⟩
  · obtain ⟨a1, a2, a3, a4, a5, a6, a7⟩ := hC
    have q : Fr [32, 33] [] [] [] [] S (si (si S 32 0) 33 0) := (Fr.rfl.si (by decide)).si (by decide)
    refine ⟨a1, a2, ZC_fr a3 q (by decide) (by decide) (by decide), ?_, a5, fun k hk => ScC_fr (a6 k hk) q (by decide) (by decide) (by decide) (by decide), a7⟩
    obtain ⟨c1, c2, c3, c4, c5, c6, c7, c8, c9, c10, c11, c12⟩ := a4
    exact ⟨c1, c2, c3, c4, c5, c6, c7, rfl, fun j hj => absurd hj (Nat.not_lt_zero j), rfl, fun j hj => absurd hj (Nat.not_lt_zero j), c12⟩
  · obtain ⟨a1, a2, a3, a4, a5, a6⟩ := hM.cd 0
    have q : Fr [1019, 1020, 1021] [] [] [] [] (si M 1001 0) (si (si (si (si M 1001 0) 1019 0) 1020 0) 1021 0) := ((Fr.rfl.si (by decide)).si (by decide)).si (by decide)
    refine ⟨a1, a2, ZM_fr a3 q (by decide) (by decide), ?_, a5, fun k hk => ScN_fr (a6 k hk) q (by decide) (by decide) (by decide)⟩
    obtain ⟨c1, c2, c3, c4, c5, c6, c7, c8, c9, d1, d2, d3, d4⟩ := a4
    exact ⟨c1, c2, c3, c4, c5, c6, rfl, rfl, rfl, d1, fun j hj => absurd hj (Nat.not_lt_zero j), fun j hj => absurd hj (Nat.not_lt_zero j), d4⟩
/-! wish -/
def cWi (c : Scn) (v : Nat) (w : Bool) : Scn := (c.1, c.2.1, (sW c + 1, (fun j => if j = sW c then v else sWn c j), (fun j => if j = sW c then w else sWb c j)), c.2.2.2.1, c.2.2.2.2)
def wS (c : Scn) (v : Nat) (w : Bool) (S : Sto) : Sto := si (ui (ul S 31 (vp_updL (al S 31) (sW c) (lN v))) 32 (upd (ai S 32) (sW c) (bI w))) 32 (nI (sW c + 1))
def wM (c : Scn) (v : Nat) (w : Bool) (M : Sto) : Sto := si (si (ui (ul M 1016 (vp_updL (al M 1016) (sW c) (lN v))) 1018 (upd (ai M 1018) (sW c) (bI w))) 1019 (nI (sW c + 1))) 1020 (nI (wCt (sWb c) (sW c)) + bI w)
theorem wish_c {S : Sto} {c : Scn} (h : Sc0 c S) (hb : ∀ i, i < sW c → sWn c i ≤ 1000000000000) (hW : sW c < 12) {v : Nat} (hv : v ≤ 1000000000000) (w : Bool) : ∀ (j n k : Nat), k + j = sW c → j < n →
    ((∃ i, k ≤ i ∧ i < sW c ∧ sWn c i = v) ∧ F_Sc_addWish_21 n (lN v) (bI w) (nI k) S = some (0, S)) ∨ ((∀ i, k ≤ i → i < sW c → sWn c i ≠ v) ∧ F_Sc_addWish_21 n (lN v) (bI w) (nI k) S = some (1, wS c v w S)) := by
  intro j
  obtain ⟨_, _, _, _, _, _, _, c8, c9, _⟩ := h
  induction j with
  | zero =>
    intro n k hk hn
    obtain ⟨n, rfl⟩ : ∃ q, n = q + 1 := ⟨n - 1, by omega⟩
    refine Or.inr ⟨fun i a b => by omega, ?_⟩
    rw [F_Sc_addWish_21, c8, if_pos (nI_le (by omega) (by omega)), ck_t (ib_nI hW (by decide)), gi_ul, c8, ck_t (ib_nI hW (by decide)), gi_ui, gi_ul, c8, vpn_b, nI_clamp (by omega), (show (1 : Int32) = nI 1 from rfl), nI_add]
    rfl
  | succ j ih =>
    intro n k hk hn
    obtain ⟨n, rfl⟩ : ∃ q, n = q + 1 := ⟨n - 1, by omega⟩
    rw [F_Sc_addWish_21, c8, if_neg (nI_ge (by omega) (by omega)), ck_t (ib_nI (by omega) (by decide)), nI_clamp (by omega), (c9 k (by omega)).1]
    have hbk := hb k (by omega)
    by_cases q : sWn c k = v
    · rw [if_pos (by rw [q])]
      exact Or.inl ⟨⟨k, by omega, by omega, q⟩, rfl⟩
    · rw [if_neg (by rw [eq_lN (by omega) (by omega)]; exact q), (show (1 : Int32) = nI 1 from rfl), nI_add]
      rcases ih n (k + 1) (by omega) (by omega) with ⟨⟨i, i1, i2, i3⟩, e⟩ | ⟨i1, e⟩
      · exact Or.inl ⟨⟨i, by omega, i2, i3⟩, e⟩
      · refine Or.inr ⟨fun i a b => ?_, e⟩
        by_cases r : i = k
        · rw [r]; exact q
        · exact i1 i (by omega) b
theorem wish_m {M : Sto} {c : Scn} (h : ScM c M) (hb : ∀ i, i < sW c → sWn c i ≤ 1000000000000) (hW : sW c ≤ 12) {x : Int64} (w : Bool) : ∀ (j n k : Nat) (b : Bool), k + j = sW c → j < n → (b = false → sW c < 12 ∧ ∃ v, v ≤ 1000000000000 ∧ x = lN v) →
    ((b = true ∨ ∃ i, k ≤ i ∧ i < sW c ∧ lN (sWn c i) = x) ∧ F_m_wish_31 n x (bI w) (bI b) (nI k) M = some (-1, ui M 1008 (upd (ai M 1008) 2 (ai M 1008 2 + 1)))) ∨ ((b = false ∧ ∀ i, k ≤ i → i < sW c → lN (sWn c i) ≠ x) ∧ ∀ v, x = lN v → F_m_wish_31 n x (bI w) (bI b) (nI k) M = some (nI (sW c + 1), wM c v w M)) := by
  intro j
  obtain ⟨_, _, _, _, _, _, c7, c8, _, _, d2, _, _⟩ := h
  induction j with
  | zero =>
    intro n k b hk hn hq
    obtain ⟨n, rfl⟩ : ∃ q, n = q + 1 := ⟨n - 1, by omega⟩
    cases b with
    | true =>
      refine Or.inl ⟨Or.inl rfl, ?_⟩
      rw [F_m_wish_31, c7, if_pos (nI_le (by omega) (by omega)), if_neg (by decide), (show (2 : Int32) = nI 2 from rfl), refM_f (by decide), b2_s]
    | false =>
      obtain ⟨hW, _⟩ := hq rfl
      refine Or.inr ⟨⟨rfl, fun i a b => by omega⟩, fun v hv => ?_⟩
      subst hv
      rw [F_m_wish_31, c7, if_pos (nI_le (by omega) (by omega)), if_pos (by decide), ck_t (ib_nI hW (by decide)), gi_ul, c7, ck_t (ib_nI hW (by decide)), gi_ui, gi_ul, c7, vpn_b, nI_clamp (by omega), (show (1 : Int32) = nI 1 from rfl), nI_add]
      unfold F_m_wish_125
      have e : ∀ (A : Sto) (p : Int32), gi (si A 1019 p) 1020 = gi A 1020 := fun _ _ => rfl
      rw [e, gi_ui, gi_ul, c8]
      cases w with
      | true => rw [if_neg (by decide)]; rfl
      | false => rw [if_pos (by decide)]; rfl
  | succ j ih =>
    intro n k b hk hn hq
    obtain ⟨n, rfl⟩ : ∃ q, n = q + 1 := ⟨n - 1, by omega⟩
    cases b with
    | true =>
      rw [F_m_wish_31, c7, if_neg (nI_ge (by omega) (by omega)), if_neg (by decide)]
      unfold F_m_wish_57 F_m_wish_62
      rw [(show (1 : Int32) = nI 1 from rfl), nI_add]
      rcases ih n (k + 1) true (by omega) (by omega) (fun e => by cases e) with ⟨_, e⟩ | ⟨⟨e, _⟩, _⟩
      · exact Or.inl ⟨Or.inl rfl, e⟩
      · cases e
    | false =>
      obtain ⟨hW', v, v1, rfl⟩ := hq rfl
      have hbk := hb k (by omega)
      rw [F_m_wish_31, c7, if_neg (nI_ge (by omega) (by omega)), if_pos (by decide), ck_t (ib_nI (by omega) (by decide)), nI_clamp (by omega), (d2 k (by omega)).1]
      by_cases q : sWn c k = v
      · rw [if_pos (by rw [q])]
        unfold F_m_wish_57 F_m_wish_62
        rw [(show (1 : Int32) = nI 1 from rfl), nI_add]
        rcases ih n (k + 1) true (by omega) (by omega) (fun e => by cases e) with ⟨_, e⟩ | ⟨⟨e, _⟩, _⟩
        · exact Or.inl ⟨Or.inr ⟨k, by omega, by omega, by rw [q]⟩, e⟩
        · cases e
      · have q2 : ¬ lN (sWn c k) = lN v := by rw [eq_lN (by omega) (by omega)]; exact q
        rw [if_neg q2]
        unfold F_m_wish_62
        rw [(show (1 : Int32) = nI 1 from rfl), nI_add]
        rcases ih n (k + 1) false (by omega) (by omega) hq with ⟨e1, e⟩ | ⟨⟨_, e1⟩, e⟩
        · refine Or.inl ⟨Or.inr ?_, e⟩
          rcases e1 with e1 | ⟨i, i1, i2, i3⟩
          · cases e1
          · exact ⟨i, by omega, i2, i3⟩
        · refine Or.inr ⟨⟨rfl, fun i a b => ?_⟩, e⟩
          by_cases r : i = k
          · rw [r]; exact q2
          · exact e1 i (by omega) b
theorem ct_w (wb : Nat → Bool) (w : Bool) (n : Nat) : fb_ct (fun j => if j = n then w else wb j) (n + 1) = fb_ct wb n + (if w then 1 else 0) := by
  rw [fb_ct_succ, if_pos rfl]
  congr 1
  exact fb_ct_cong (fun k hk => by rw [if_neg (by omega)])
theorem wish_ok {S M : Sto} (h : Rl S M) (x : Int64) (w : Bool) : ∃ r S' M', F_w_wish x (bI w) S = some (r, S') ∧ F_m_wish x (bI w) M = some (r, M') ∧ Rl S' M' := by
  obtain ⟨t, f, Z, c, i, h1, h2, h3, hC, hM⟩ := h
  have hW : sW c ≤ 12 := h2.2.2.2.1
  have hb : ∀ i, i < sW c → sWn c i ≤ 1000000000000 := fun i hi => (h2.2.2.2.2.1 i hi).2
  have bad : (F_w_wish x (bI w) S = F_w_wish_19 S ∧ F_m_wish x (bI w) M = some (-1, ui (si M 1001 0) 1008 (upd (ai (si M 1001 0) 1008) 2 (ai (si M 1001 0) 1008 2 + 1)))) → ∃ r S' M', F_w_wish x (bI w) S = some (r, S') ∧ F_m_wish x (bI w) M = some (r, M') ∧ Rl S' M' := by
    intro hv
    obtain ⟨S', s1, s2⟩ := refC_ok hC (k := 2) (by decide)
    refine ⟨-1, S', _, ?_, hv.2, t, f, Z, cSt c 2, i, h1, h2, h3, s2, refM_ok (hM.cd 0) (k := 2) (by decide)⟩
    rw [hv.1]
    unfold F_w_wish_19
    rw [(show (2 : Int32) = nI 2 from rfl), s1, b2_s]
  have c8 : gi S 32 = nI (sW c) := hC.sc.2.2.2.2.2.2.2.1
  have m7 : gi (si M 1001 0) 1019 = nI (sW c) := (hM.cd 0).sc.2.2.2.2.2.2.1
  have fb : sW c < FU := by rw [FU_v]; omega
  have mt : F_m_wish_26 x (bI w) (bI true) (si M 1001 0) = some (-1, ui (si M 1001 0) 1008 (upd (ai (si M 1001 0) 1008) 2 (ai (si M 1001 0) 1008 2 + 1))) := by
    rcases wish_m (hM.cd 0).sc hb hW (x := x) w (sW c) FU 0 true (Nat.zero_add _) fb (fun e => by cases e) with ⟨_, e⟩ | ⟨⟨e, _⟩, _⟩
    · exact e
    · cases e
  by_cases hx : isNum x
  · obtain ⟨k, k1, k2, rfl⟩ := hx
    by_cases q : sW c = 12
    · refine bad ⟨?_, ?_⟩
      · unfold F_w_wish F_Sc_addWish
        rw [wnum_y k1 k2, b1_s, if_neg I1_0, c8, q, if_neg (by decide), if_neg (by decide), b2_s, if_pos rfl]
      · unfold F_m_wish F_m_wish_21
        rw [m7, if_pos (by rw [q]; rfl)]
        exact mt
    · have hm0 : F_m_wish (lN k) (bI w) M = F_m_wish_31 FU (lN k) (bI w) (bI false) (nI 0) (si M 1001 0) := by
        unfold F_m_wish F_m_wish_26
        rw [m7, if_neg (by rw [(show (12 : Int32) = nI 12 from rfl), eq_nI (by omega) (by decide)]; exact q), mnum_y k1 k2, b1_s, if_neg I1_0]
        rfl
      have hw0 : F_w_wish (lN k) (bI w) S = b2 (F_Sc_addWish_21 FU (lN k) (bI w) (nI 0) S) (fun r3 S5 => if r3 = 0 then F_w_wish_19 S5 else some (gi S5 32, S5)) := by
        unfold F_w_wish F_Sc_addWish
        rw [wnum_y k1 k2, b1_s, if_neg I1_0, c8, if_neg (nI_pos (by omega)), (show (12 : Int32) = nI 12 from rfl), if_pos (nI_lt (by omega) (by decide))]
        rfl
      rcases wish_m (hM.cd 0).sc hb hW (x := lN k) w (sW c) FU 0 false (Nat.zero_add _) fb (fun _ => ⟨by omega, k, k2, rfl⟩) with ⟨e1, e2⟩ | ⟨⟨_, e1⟩, e2⟩
      · rcases wish_c hC.sc hb (by omega) k2 w (sW c) FU 0 (Nat.zero_add _) fb with ⟨_, e4⟩ | ⟨e3, _⟩
        · refine bad ⟨?_, ?_⟩
          · rw [hw0, e4, b2_s, if_pos rfl]
          · rw [hm0]; exact e2
        · rcases e1 with e1 | ⟨j, j1, j2, j3⟩
          · cases e1
          · have := hb j j2
            rw [eq_lN (by omega) (by omega)] at j3
            exact absurd j3 (e3 j j1 j2)
      · rcases wish_c hC.sc hb (by omega) k2 w (sW c) FU 0 (Nat.zero_add _) fb with ⟨⟨j, j1, j2, j3⟩, _⟩ | ⟨_, e4⟩
        · exact absurd (by rw [j3]) (e1 j j1 j2)
        · refine ⟨nI (sW c + 1), wS c k w S, wM c k w (si M 1001 0), ?_, ?_, t, f, Z, cWi c k w, i, h1, ?_, h3, ?_, ?_⟩
          · rw [hw0, e4, b2_s, if_neg I1_0]
            rfl
          · rw [hm0]; exact e2 k rfl
          · obtain ⟨g1, g2, g3, g4, g5, g6, g7⟩ := h2
            refine ⟨g1, g2, g3, (by show sW c + 1 ≤ 12; omega), fun j hj => ?_, g6, g7⟩
            have hj : j < sW c + 1 := hj
            show 1 ≤ (if j = sW c then k else sWn c j) ∧ (if j = sW c then k else sWn c j) ≤ 1000000000000
            by_cases e : j = sW c
            · rw [if_pos e]; exact ⟨k1, k2⟩
            · rw [if_neg e]; exact g5 j (by omega)
          · obtain ⟨a1, a2, a3, a4, a5, a6, a7⟩ := hC
            have q : Fr [32] [] [32] [31] [] S (wS c k w S) := ((Fr.rfl.ul (by decide)).ui (by decide)).si (by decide)
            refine ⟨a1, a2, ZC_fr a3 q (by decide) (by decide) (by decide), ?_, a5, fun k hk => ScC_fr (a6 k hk) q (by decide) (by decide) (by decide) (by decide), a7⟩
            obtain ⟨c1, c2, c3, c4, c5, c6, c7, c8, c9, c10, c11, c12⟩ := a4
            refine ⟨c1, c2, c3, c4, c5, c6, c7, rfl, fun j hj => ?_, c10, c11, c12⟩
            have hj : j < sW c + 1 := hj
            show vp_updL (al S 31) (sW c) (lN k) j = lN (if j = sW c then k else sWn c j) ∧ upd (ai S 32) (sW c) (bI w) j = bI (if j = sW c then w else sWb c j)
            rw [updL_at, upd_at]
            by_cases e : j = sW c
            · rw [if_pos e, if_pos e, if_pos e, if_pos e]; exact ⟨rfl, rfl⟩
            · rw [if_neg e, if_neg e, if_neg e, if_neg e]; exact c9 j (by omega)
          · obtain ⟨a1, a2, a3, a4, a5, a6⟩ := hM.cd 0
            have q : Fr [1019, 1020] [] [1018] [1016] [] (si M 1001 0) (wM c k w (si M 1001 0)) := (((Fr.rfl.ul (by decide)).ui (by decide)).si (by decide)).si (by decide)
            refine ⟨a1, a2, ZM_fr a3 q (by decide) (by decide), ?_, a5, fun k hk => ScN_fr (a6 k hk) q (by decide) (by decide) (by decide)⟩
            obtain ⟨c1, c2, c3, c4, c5, c6, c7, c8, c9, d1, d2, d3, d4⟩ := a4
            refine ⟨c1, c2, c3, c4, c5, c6, rfl, ?_, c9, d1, fun j hj => ?_, d3, d4⟩
            · show nI (wCt (sWb c) (sW c)) + bI w = nI (fb_ct (fun j => if j = sW c then w else sWb c j) (sW c + 1))
              rw [ct_w]
              cases w with
              | true => exact nI_add _ 1
              | false => exact nI_add _ 0
            · have hj : j < sW c + 1 := hj
              show vp_updL (al (si M 1001 0) 1016) (sW c) (lN k) j = lN (if j = sW c then k else sWn c j) ∧ upd (ai (si M 1001 0) 1018) (sW c) (bI w) j = bI (if j = sW c then w else sWb c j)
              rw [updL_at, upd_at]
              by_cases e : j = sW c
              · rw [if_pos e, if_pos e, if_pos e, if_pos e]; exact ⟨rfl, rfl⟩
              · rw [if_neg e, if_neg e, if_neg e, if_neg e]; exact d2 j (by omega)
  · refine bad ⟨?_, ?_⟩
    · unfold F_w_wish
      rw [wnum_n hx, b1_s, if_pos rfl]
    · unfold F_m_wish F_m_wish_21
      rw [m7]
      by_cases q : nI (sW c) = 12
      · rw [if_pos q]; exact mt
      · rw [if_neg q, mnum_n hx, b1_s, if_pos rfl]; exact mt
