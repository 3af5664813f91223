/-! ===== what was read is taken over ===== -/
section
variable {S T M U : Sto}
def cpS (S : Sto) (k : Nat) : Sto := ul (ul (ul (ul (ui S 13 (upd (ai S 13) k (ai S 4 k))) 14 (vp_updL (al S 14) k (al S 5 k))) 15 (vp_updL (al S 15) k (al S 6 k))) 16 (vp_updL (al S 16) k (al S 7 k))) 17 (vp_updL (al S 17) k (al S 8 k))
theorem cp_s {n k : Nat} (hk : k < 8) : F_Se_copy_2 (n + 1) (nI k) S = F_Se_copy_2 n (nI (k + 1)) (cpS S k) := by
  rw [F_Se_copy_2, (show (8 : Int32) = nI 8 from rfl), if_neg (nI_ge hk (by decide)), ck_t (ib_nI hk (by omega)), ck_t (ib_nI hk (by omega)), ck_t (ib_nI hk (by omega)), ck_t (ib_nI hk (by omega)), ck_t (ib_nI hk (by omega)), ck_t (ib_nI hk (by omega)), ck_t (ib_nI hk (by omega)), ck_t (ib_nI hk (by omega)), ck_t (ib_nI hk (by omega)), ck_t (ib_nI hk (by omega)), nI_clamp (by omega), show nI k + (1 : Int32) = nI (k + 1) from nI_add k 1]
  rfl
def CpI (S : Sto) (k : Nat) (T : Sto) : Prop := Fr [] [] [13] [14, 15, 16, 17] [] S T ∧ ∀ i, i < k → ai T 13 i = ai S 4 i ∧ al T 14 i = al S 5 i ∧ al T 15 i = al S 6 i ∧ al T 16 i = al S 7 i ∧ al T 17 i = al S 8 i
theorem cp_i {k : Nat} (h : CpI S k T) : CpI S (k + 1) (cpS T k) := by
  obtain ⟨f, g⟩ := h
  refine ⟨((((f.ui (by decide)).ul (by decide)).ul (by decide)).ul (by decide)).ul (by decide), fun i hi => ?_⟩
  show upd (ai T 13) k (ai T 4 k) i = _ ∧ vp_updL (al T 14) k (al T 5 k) i = _ ∧ vp_updL (al T 15) k (al T 6 k) i = _ ∧ vp_updL (al T 16) k (al T 7 k) i = _ ∧ vp_updL (al T 17) k (al T 8 k) i = _
  rw [upd_at, updL_at, updL_at, updL_at, updL_at]
  by_cases q : i = k
  · rw [if_pos q, if_pos q, if_pos q, if_pos q, if_pos q, q, f.ai 4 (by decide), f.al 5 (by decide), f.al 6 (by decide), f.al 7 (by decide), f.al 8 (by decide)]
    exact ⟨rfl, rfl, rfl, rfl, rfl⟩
  · rw [if_neg q, if_neg q, if_neg q, if_neg q, if_neg q]
    exact g i (by omega)
theorem cp_lp {S : Sto} : ∀ (j n k : Nat) (T : Sto), k + j = 8 → j < n → CpI S k T → ∃ U n', F_Se_copy_2 n (nI k) T = F_Se_copy_2 (n' + 1) (nI 8) U ∧ CpI S 8 U := by
  intro j
  induction j with
  | zero =>
    intro n k T hk hn h
    obtain ⟨n, rfl⟩ : ∃ q, n = q + 1 := ⟨n - 1, by omega⟩
    have : k = 8 := by omega
    subst this
    exact ⟨T, n, rfl, h⟩
  | succ j ih =>
    intro n k T hk hn h
    obtain ⟨n, rfl⟩ : ∃ q, n = q + 1 := ⟨n - 1, by omega⟩
    obtain ⟨U, n', u1, u2⟩ := ih n (k + 1) _ (by omega) (by omega) (cp_i h)
    exact ⟨U, n', by rw [cp_s (by omega)]; exact u1, u2⟩
def cpR (S : Sto) (k : Nat) : Sto := ui (ui S 19 (upd (ai S 19) k (ai S 10 k))) 20 (upd (ai S 20) k (ai S 11 k))
theorem cr_lp {s : Nat} (hs : s ≤ 500) : ∀ (j n k : Nat) (T : Sto), k + j = s → j < n → gi T 1 = nI s → (∀ i, i < k → ai T 19 i = ai T 10 i ∧ ai T 20 i = ai T 11 i) → ∃ U, F_Ru_copy_2 n (nI k) T = F_Ru_copy_47 U ∧ Fr [] [] [19, 20] [] [] T U ∧ ∀ i, i < s → ai U 19 i = ai T 10 i ∧ ai U 20 i = ai T 11 i := by
  intro j
  induction j with
  | zero =>
    intro n k T hk hn h1 h
    obtain ⟨n, rfl⟩ : ∃ q, n = q + 1 := ⟨n - 1, by omega⟩
    have : k = s := by omega
    subst this
    refine ⟨T, ?_, Fr.rfl, h⟩
    rw [F_Ru_copy_2, h1, if_pos (nI_le (Nat.le_refl _) (by omega))]
  | succ j ih =>
    intro n k T hk hn h1 h
    obtain ⟨n, rfl⟩ : ∃ q, n = q + 1 := ⟨n - 1, by omega⟩
    have f1 : Fr [] [] [19, 20] [] [] T (cpR T k) := (Fr.rfl.ui (by decide)).ui (by decide)
    obtain ⟨U, u1, u2, u3⟩ := ih n (k + 1) (cpR T k) (by omega) (by omega) h1 (fun i hi => by
      show upd (ai T 19) k (ai T 10 k) i = ai T 10 i ∧ upd (ai T 20) k (ai T 11 k) i = ai T 11 i
      rw [upd_at, upd_at]
      by_cases q : i = k
      · rw [if_pos q, if_pos q, q]; exact ⟨rfl, rfl⟩
      · rw [if_neg q, if_neg q]; exact h i (by omega))
    refine ⟨U, ?_, f1.trans u2, u3⟩
    rw [F_Ru_copy_2, h1, if_neg (nI_ge (by omega) (by omega)), (show (500 : Int32) = nI 500 from rfl), if_neg (nI_ge (by omega) (by decide)), ck_t (ib_nI (by omega) (by omega)), ck_t (ib_nI (by omega) (by omega)), ck_t (ib_nI (by omega) (by omega)), ck_t (ib_nI (by omega) (by omega)), nI_clamp (by omega), show nI k + (1 : Int32) = nI (k + 1) from nI_add k 1]
    exact u1
theorem copy_nx {s : Nat} {b2' b3' : Bool} (hs : s ≤ 500) (h1 : gi S 1 = nI s) (h2 : gi S 2 = bI b2') (h3 : gi S 3 = bI b3') : ∃ S', F_Se_copy S = some ((), S') ∧ Fr [19, 20, 21, 22, 23] [24] [13, 19, 20] [14, 15, 16, 17] [] S S' ∧
    (∀ i, i < 8 → ai S' 13 i = ai S 4 i ∧ al S' 14 i = al S 5 i ∧ al S' 15 i = al S 6 i ∧ al S' 16 i = al S 7 i ∧ al S' 17 i = al S 8 i) ∧ (∀ i, i < s → ai S' 19 i = ai S 10 i ∧ ai S' 20 i = ai S 11 i) ∧
    gi S' 19 = gi S 1 ∧ gi S' 20 = gi S 2 ∧ gi S' 21 = gi S 3 ∧ gi S' 22 = gi S 4 ∧ gi S' 23 = gi S 5 ∧ gl S' 24 = gl S 6 := by
  obtain ⟨A, n', a1, a2, a3⟩ := cp_lp (S := S) 8 FU 0 S (by decide) (by rw [FU_v]; omega) ⟨Fr.rfl, fun i hi => absurd hi (Nat.not_lt_zero i)⟩
  have e1 : gi A 1 = nI s := (a2.gi 1 (by decide)).trans h1
  obtain ⟨B, b1', b2'', b3''⟩ := cr_lp hs s FU 0 A (Nat.zero_add _) (by rw [FU_v]; omega) e1 (fun i hi => absurd hi (Nat.not_lt_zero i))
  have fB : Fr [] [] [13, 19, 20] [14, 15, 16, 17] [] S B := (a2.mono (by decide) (by decide) (by decide) (by decide) (by decide)).trans (b2''.mono (by decide) (by decide) (by decide) (by decide) (by decide))
  have g1 : gi B 1 = gi S 1 := fB.gi 1 (by decide)
  have g2 : gi B 2 = gi S 2 := fB.gi 2 (by decide)
  have g3 : gi B 3 = gi S 3 := fB.gi 3 (by decide)
  refine ⟨sl (si (si (si (si (si B 19 (gi B 1)) 20 (gi B 2)) 21 (gi B 3)) 22 (gi B 4)) 23 (gi B 5)) 24 (gl B 6), ?_, ?_, fun i hi => ?_, fun i hi => ?_, g1, g2, g3, fB.gi 4 (by decide), fB.gi 5 (by decide), fB.gl 6 (by decide)⟩
  · have e47 : F_Ru_copy_47 B = some ((), si (si (si B 19 (gi B 1)) 20 (gi B 2)) 21 (gi B 3)) := by
      unfold F_Ru_copy_47
      have w2 : b01 (gi (si B 19 (gi B 1)) 2) = true := by
        show b01 (gi B 2) = true
        rw [g2, h2]; exact b01_b _
      have w3 : b01 (gi (si (si B 19 (gi B 1)) 20 (gi (si B 19 (gi B 1)) 2)) 3) = true := by
        show b01 (gi B 3) = true
        rw [g3, h3]; exact b01_b _
      rw [ck_t w2, ck_t w3]
      rfl
    unfold F_Se_copy
    rw [(show (0 : Int32) = nI 0 from rfl), a1, F_Se_copy_2, if_pos (by decide)]
    unfold F_Ru_copy
    rw [(show (0 : Int32) = nI 0 from rfl), b1', e47, b2_s]
    rfl
  · exact ((((((fB.mono (by decide) (by decide) (by decide) (by decide) (by decide) : Fr [19, 20, 21, 22, 23] [24] [13, 19, 20] [14, 15, 16, 17] [] S B).si (by decide)).si (by decide)).si (by decide)).si (by decide)).si (by decide)).sl (by decide)
  · have := a3 i hi
    show ai B 13 i = _ ∧ al B 14 i = _ ∧ al B 15 i = _ ∧ al B 16 i = _ ∧ al B 17 i = _
    rw [b2''.ai 13 (by decide), b2''.al 14 (by decide), b2''.al 15 (by decide), b2''.al 16 (by decide), b2''.al 17 (by decide)]
    exact this
  · have := b3'' i hi
    show ai B 19 i = _ ∧ ai B 20 i = _
    rw [this.1, this.2, a2.ai 10 (by decide), a2.ai 11 (by decide)]
    exact ⟨rfl, rfl⟩
/-! the model's halves -/
theorem half_nx {K h : Nat} {G : Nat → Int32 → Sto → Option (Unit × Sto)} (hh : h ≤ 500) (hG : ∀ f i M, i < h → G (f + 1) (nI i) M = G f (nI (i + 1)) (ui M K (upd (ai M K) i (ai M K (h + i))))) (hE : ∀ f M, G (f + 1) (nI h) M = some ((), M)) (M : Sto) : ∃ M', G FU 0 M = some ((), M') ∧ Fr [] [] [K] [] [] M M' ∧ ∀ i, i < h → ai M' K i = ai M K (h + i) := by
  have lp : ∀ (j n k : Nat) (T : Sto), k + j = h → j < n → Fr [] [] [K] [] [] M T → (∀ i, i < k → ai T K i = ai M K (h + i)) → (∀ i, h ≤ i → ai T K i = ai M K i) → ∃ M', G n (nI k) T = some ((), M') ∧ Fr [] [] [K] [] [] M M' ∧ ∀ i, i < h → ai M' K i = ai M K (h + i) := by
    intro j
    induction j with
    | zero =>
      intro n k T hk hn f h1 h2
      obtain ⟨n, rfl⟩ : ∃ q, n = q + 1 := ⟨n - 1, by omega⟩
      have : k = h := by omega
      subst this
      exact ⟨T, hE n T, f, h1⟩
    | succ j ih =>
      intro n k T hk hn f h1 h2
      obtain ⟨n, rfl⟩ : ∃ q, n = q + 1 := ⟨n - 1, by omega⟩
      have e : ∀ i, ai (ui T K (upd (ai T K) k (ai T K (h + k)))) K i = if i = k then ai T K (h + k) else ai T K i := by
        intro i
        rw [ai_ui, if_pos rfl, upd_at]
      obtain ⟨U, u1, u2⟩ := ih n (k + 1) (ui T K (upd (ai T K) k (ai T K (h + k)))) (by omega) (by omega) (f.ui (List.mem_singleton.mpr rfl)) (fun i hi => by
        rw [e]
        by_cases q : i = k
        · rw [if_pos q, q]; exact h2 (h + k) (by omega)
        · rw [if_neg q]; exact h1 i (by omega)) (fun i hi => by
        rw [e, if_neg (by omega)]
        exact h2 i hi)
      exact ⟨U, by rw [hG n k T (by omega)]; exact u1, u2⟩
  exact lp h FU 0 M (Nat.zero_add _) (by rw [FU_v]; omega) Fr.rfl (fun i hi => absurd hi (Nat.not_lt_zero i)) (fun _ _ => rfl)
theorem h16 : (nI 16) / (2 : Int32) = nI 8 := by decide
theorem h6 : (nI 6) / (2 : Int32) = nI 3 := by decide
theorem h1000 : (nI 1000) / (2 : Int32) = nI 500 := by decide
theorem half_1003 (M : Sto) : ∃ M', F_m_takeHalf_1003 M = some ((), M') ∧ Fr [] [] [1003] [] [] M M' ∧ ∀ i, i < 3 → ai M' 1003 i = ai M 1003 (3 + i) :=
  half_nx (G := F_m_takeHalf_1003_2) (by decide) (fun f i M hi => by
    rw [F_m_takeHalf_1003_2, h6, if_neg (nI_ge hi (by decide)), nI_add, ck_t (ib_nI (by omega) (by omega)), ck_t (ib_nI (by omega) (by omega)), nI_clamp (by omega), nI_clamp (by omega), show nI i + (1 : Int32) = nI (i + 1) from nI_add i 1]) (fun f M => by
    rw [F_m_takeHalf_1003_2, h6, if_pos (by decide)]) M
theorem half_1004 (M : Sto) : ∃ M', F_m_takeHalf_1004 M = some ((), M') ∧ Fr [] [] [1004] [] [] M M' ∧ ∀ i, i < 8 → ai M' 1004 i = ai M 1004 (8 + i) :=
  half_nx (G := F_m_takeHalf_1004_2) (by decide) (fun f i M hi => by
    rw [F_m_takeHalf_1004_2, h16, if_neg (nI_ge hi (by decide)), nI_add, ck_t (ib_nI (by omega) (by omega)), ck_t (ib_nI (by omega) (by omega)), nI_clamp (by omega), nI_clamp (by omega), show nI i + (1 : Int32) = nI (i + 1) from nI_add i 1]) (fun f M => by
    rw [F_m_takeHalf_1004_2, h16, if_pos (by decide)]) M
theorem half_1005 (M : Sto) : ∃ M', F_m_takeHalf_1005 M = some ((), M') ∧ Fr [] [] [1005] [] [] M M' ∧ ∀ i, i < 8 → ai M' 1005 i = ai M 1005 (8 + i) :=
  half_nx (G := F_m_takeHalf_1005_2) (by decide) (fun f i M hi => by
    rw [F_m_takeHalf_1005_2, h16, if_neg (nI_ge hi (by decide)), nI_add, ck_t (ib_nI (by omega) (by omega)), ck_t (ib_nI (by omega) (by omega)), nI_clamp (by omega), nI_clamp (by omega), show nI i + (1 : Int32) = nI (i + 1) from nI_add i 1]) (fun f M => by
    rw [F_m_takeHalf_1005_2, h16, if_pos (by decide)]) M
theorem half_1006 (M : Sto) : ∃ M', F_m_takeHalf_1006 M = some ((), M') ∧ Fr [] [] [1006] [] [] M M' ∧ ∀ i, i < 8 → ai M' 1006 i = ai M 1006 (8 + i) :=
  half_nx (G := F_m_takeHalf_1006_2) (by decide) (fun f i M hi => by
    rw [F_m_takeHalf_1006_2, h16, if_neg (nI_ge hi (by decide)), nI_add, ck_t (ib_nI (by omega) (by omega)), ck_t (ib_nI (by omega) (by omega)), nI_clamp (by omega), nI_clamp (by omega), show nI i + (1 : Int32) = nI (i + 1) from nI_add i 1]) (fun f M => by
    rw [F_m_takeHalf_1006_2, h16, if_pos (by decide)]) M
theorem half_1007 (M : Sto) : ∃ M', F_m_takeHalf_1007 M = some ((), M') ∧ Fr [] [] [1007] [] [] M M' ∧ ∀ i, i < 500 → ai M' 1007 i = ai M 1007 (500 + i) :=
  half_nx (G := F_m_takeHalf_1007_2) (by decide) (fun f i M hi => by
    rw [F_m_takeHalf_1007_2, h1000, if_neg (nI_ge hi (by decide)), nI_add, ck_t (ib_nI (by omega) (by omega)), ck_t (ib_nI (by omega) (by omega)), nI_clamp (by omega), nI_clamp (by omega), show nI i + (1 : Int32) = nI (i + 1) from nI_add i 1]) (fun f M => by
    rw [F_m_takeHalf_1007_2, h1000, if_pos (by decide)]) M
abbrev anew (M : Sto) : Sto := si (si (si (si (si (si (sl (si (sl (sl M 1013 1) 1014 1000) 1016 0) 1015 (gl M 1002)) 1017 0) 1018 0) 1020 0) 1019 0) 1021 0) 1029 0
theorem to_lp {M : Sto} : ∀ (j n k : Nat) (T : Sto), k + j = 8 → j < n → Fr [] [] [] [1009, 1010] [] M T → (∀ i, i < k → al T 1009 i = al M 1009 (8 + i) ∧ al T 1010 i = al M 1010 (8 + i)) → (∀ i, 8 ≤ i → al T 1009 i = al M 1009 i ∧ al T 1010 i = al M 1010 i) → ∃ U, F_m_takeOver_37 n (nI k) T = some ((), anew U) ∧ Fr [] [] [] [1009, 1010] [] M U ∧ ∀ i, i < 8 → al U 1009 i = al M 1009 (8 + i) ∧ al U 1010 i = al M 1010 (8 + i) := by
  intro j
  induction j with
  | zero =>
    intro n k T hk hn f h1 h2
    obtain ⟨n, rfl⟩ : ∃ q, n = q + 1 := ⟨n - 1, by omega⟩
    have : k = 8 := by omega
    subst this
    refine ⟨T, ?_, f, h1⟩
    rw [F_m_takeOver_37, if_pos (by decide)]
    rfl
  | succ j ih =>
    intro n k T hk hn f h1 h2
    obtain ⟨n, rfl⟩ : ∃ q, n = q + 1 := ⟨n - 1, by omega⟩
    obtain ⟨U, u1, u2⟩ := ih n (k + 1) (ul (ul T 1009 (vp_updL (al T 1009) k (al T 1009 (8 + k)))) 1010 (vp_updL (al T 1010) k (al T 1010 (8 + k)))) (by omega) (by omega) ((f.ul (by decide)).ul (by decide)) (fun i hi => by
      show vp_updL (al T 1009) k (al T 1009 (8 + k)) i = _ ∧ vp_updL (al T 1010) k (al T 1010 (8 + k)) i = _
      rw [updL_at, updL_at]
      by_cases q : i = k
      · rw [if_pos q, if_pos q, q]; exact h2 (8 + k) (by omega)
      · rw [if_neg q, if_neg q]; exact h1 i (by omega)) (fun i hi => by
      show vp_updL (al T 1009) k (al T 1009 (8 + k)) i = _ ∧ vp_updL (al T 1010) k (al T 1010 (8 + k)) i = _
      rw [updL_at, updL_at, if_neg (by omega), if_neg (by omega)]
      exact h2 i hi)
    refine ⟨U, ?_, u2⟩
    rw [F_m_takeOver_37, (show (8 : Int32) = nI 8 from rfl), if_neg (nI_ge (by omega) (by decide)), nI_add, ck_t (ib_nI (by omega) (by omega)), ck_t (ib_nI (by omega) (by omega)), ck_t (ib_nI (by omega) (by omega)), ck_t (ib_nI (by omega) (by omega)), nI_clamp (by omega), nI_clamp (by omega), show nI k + (1 : Int32) = nI (k + 1) from nI_add k 1]
    exact u1
theorem over_nx (M : Sto) : ∃ U, F_m_takeOver M = some ((), anew U) ∧ Fr [] [] [1003, 1004, 1005, 1006, 1007] [1009, 1010] [] M U ∧ (∀ i, i < 3 → ai U 1003 i = ai M 1003 (3 + i)) ∧ (∀ i, i < 8 → ai U 1004 i = ai M 1004 (8 + i) ∧ ai U 1005 i = ai M 1005 (8 + i) ∧ ai U 1006 i = ai M 1006 (8 + i) ∧ al U 1009 i = al M 1009 (8 + i) ∧ al U 1010 i = al M 1010 (8 + i)) ∧ ∀ i, i < 500 → ai U 1007 i = ai M 1007 (500 + i) := by
  obtain ⟨A, a1, a2, a3⟩ := half_1003 M
  obtain ⟨B, b1', b2', b3'⟩ := half_1004 A
  obtain ⟨C, c1, c2, c3⟩ := half_1005 B
  obtain ⟨D, d1, d2, d3⟩ := half_1006 C
  obtain ⟨E, e1, e2, e3⟩ := half_1007 D
  obtain ⟨U, u1, u2, u3⟩ := to_lp (M := E) 8 FU 0 E (by decide) (by rw [FU_v]; omega) Fr.rfl (fun i hi => absurd hi (Nat.not_lt_zero i)) (fun _ _ => ⟨rfl, rfl⟩)
  refine ⟨U, ?_, ?_, fun i hi => ?_, fun i hi => ?_, fun i hi => ?_⟩
  · unfold F_m_takeOver
    rw [a1, b2_s, b1', b2_s, c1, b2_s, d1, b2_s, e1, b2_s]
    exact u1
  · exact (((((a2.mono (by decide) (by decide) (by decide) (by decide) (by decide) : Fr [] [] [1003, 1004, 1005, 1006, 1007] [1009, 1010] [] M A).trans (b2'.mono (by decide) (by decide) (by decide) (by decide) (by decide))).trans (c2.mono (by decide) (by decide) (by decide) (by decide) (by decide))).trans (d2.mono (by decide) (by decide) (by decide) (by decide) (by decide))).trans (e2.mono (by decide) (by decide) (by decide) (by decide) (by decide))).trans (u2.mono (by decide) (by decide) (by decide) (by decide) (by decide))
  · rw [u2.ai 1003 (by decide), e2.ai 1003 (by decide), d2.ai 1003 (by decide), c2.ai 1003 (by decide), b2'.ai 1003 (by decide)]
    exact a3 i hi
  · obtain ⟨u4, u5⟩ := u3 i hi
    rw [u4, u5, u2.ai 1004 (by decide), u2.ai 1005 (by decide), u2.ai 1006 (by decide), e2.ai 1004 (by decide), e2.ai 1005 (by decide), e2.ai 1006 (by decide), d2.ai 1004 (by decide), d2.ai 1005 (by decide), d3 i hi, c2.ai 1004 (by decide), c3 i hi, c2.ai 1006 (by decide), b3' i hi, b2'.ai 1005 (by decide), b2'.ai 1006 (by decide), a2.ai 1004 (by decide), a2.ai 1005 (by decide), a2.ai 1006 (by decide), e2.al 1009 (by decide), e2.al 1010 (by decide), d2.al 1009 (by decide), d2.al 1010 (by decide), c2.al 1009 (by decide), c2.al 1010 (by decide), b2'.al 1009 (by decide), b2'.al 1010 (by decide), a2.al 1009 (by decide), a2.al 1010 (by decide)]
    exact ⟨rfl, rfl, rfl, rfl, rfl⟩
  · rw [u2.ai 1007 (by decide), e3 i hi, d2.ai 1007 (by decide), c2.ai 1007 (by decide), b2'.ai 1007 (by decide), a2.ai 1007 (by decide)]
end
