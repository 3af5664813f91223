/-! ===== sea ===== -/
abbrev clS (S : Sto) : Sto := si (si (si (sl (si (si S 4 0) 5 30) 6 0) 1 0) 2 0) 3 0
abbrev rd0 (S : Sto) (m : Nat) : Sto := si (si (si (si (si (si (si (clS S) 10 (nI m)) 11 0) 7 0) 9 0) 8 (-1)) 17 0) 18 0
abbrev ms0 (M : Sto) (m : Nat) : Sto := si (si (si (si (si (si M 1001 0) 1003 0) 1005 (nI m)) 1004 0) 1010 0) 1012 (-1)
abbrev ms1 (M : Sto) (m : Nat) : Sto := sl (ui (ui (ui (ms0 M m) 1003 (upd (ai M 1003) 3 0)) 1003 (upd (upd (ai M 1003) 3 0) 4 30)) 1003 (upd (upd (upd (ai M 1003) 3 0) 4 30) 5 0)) 1002 0
abbrev sC (S T : Sto) : Prop := Fr [1, 2, 3, 4, 5, 7, 8, 9, 10, 11, 12, 13, 14, 15, 16, 17, 18] [6] [4, 10, 11] [5, 6, 7, 8] [] S T
def sM (M T : Sto) : Prop := Fr [1001, 1003, 1004, 1005, 1006, 1007, 1008, 1009, 1010, 1011, 1012] [1002] [1003, 1004, 1005, 1006, 1007] [1009, 1010] [] M T ∧ (∀ i, i < 3 → ai T 1003 i = ai M 1003 i) ∧
  (∀ i, i < 8 → ai T 1004 i = ai M 1004 i ∧ ai T 1005 i = ai M 1005 i ∧ ai T 1006 i = ai M 1006 i ∧ al T 1009 i = al M 1009 i ∧ al T 1010 i = al M 1010 i) ∧ ∀ i, i < 500 → ai T 1007 i = ai M 1007 i
section
variable {S M T U : Sto} {Z : Zt} {t : Tp} {f : Int32} {c : Scn} {i : Option Scn}
theorem sM.trans (h : sM S T) (g : sM T U) : sM S U :=
  ⟨h.1.trans g.1, fun i hi => (g.2.1 i hi).trans (h.2.1 i hi), fun i hi => ⟨(g.2.2.1 i hi).1.trans (h.2.2.1 i hi).1, (g.2.2.1 i hi).2.1.trans (h.2.2.1 i hi).2.1, (g.2.2.1 i hi).2.2.1.trans (h.2.2.1 i hi).2.2.1, (g.2.2.1 i hi).2.2.2.1.trans (h.2.2.1 i hi).2.2.2.1, (g.2.2.1 i hi).2.2.2.2.trans (h.2.2.1 i hi).2.2.2.2⟩, fun i hi => (g.2.2.2 i hi).trans (h.2.2.2 i hi)⟩
theorem mF.s (h : mF S T) : sM S T := ⟨h.1.mono (by decide) (by decide) (by decide) (by decide) (by decide), h.2⟩
theorem eM.s (h : eM S T) : sM S T := h.c.s
theorem ms1_s (M : Sto) (m : Nat) : sM M (ms1 M m) := by
  refine ⟨((((((((((Fr.rfl.si (by decide)).si (by decide)).si (by decide)).si (by decide)).si (by decide)).si (by decide)).ui (by decide)).ui (by decide)).ui (by decide)).sl (by decide)), fun i hi => ?_, fun i hi => ⟨rfl, rfl, rfl, rfl, rfl⟩, fun i hi => rfl⟩
  show upd (upd (upd (ai M 1003) 3 0) 4 30) 5 0 i = _
  rw [upd_at, upd_at, upd_at, if_neg (by omega), if_neg (by omega), if_neg (by omega)]
theorem ZM_s (hz : ZOk Z) (h : ZM Z M) (q : sM M T) : ZM Z T := by
  obtain ⟨a1, a2, a3, a4, a5⟩ := h
  have h8 := hz.1
  have h5 := hz.2.2.2.1
  refine ⟨(q.2.1 0 (by decide)).trans a1, (q.2.1 1 (by decide)).trans a2, (q.2.1 2 (by decide)).trans a3, fun i hi => ?_, fun i hi => ?_⟩
  · obtain ⟨r1, r2, r3, r4, r5⟩ := q.2.2.1 i (by omega)
    rw [r1, r2, r3, r4, r5]
    exact a4 i hi
  · rw [q.2.2.2 i (by omega)]
    exact a5 i hi
/-- the scene of a new sea -/
def cNew (c : Scn) (tk : Nat) : Scn := ((1, 1000, 0, tk, 0), (0, c.2.1.2), (0, c.2.2.1.2), (0, c.2.2.2.1.2), c.2.2.2.2)
theorem cNew_ok {tk : Nat} (h : tk < 2 ^ zP Z) : ScOk Z (cNew c tk) :=
  ⟨⟨Nat.le_refl 1, (show 1 ≤ 1000 by decide), (show 1000 ≤ 1000000000000 by decide), Nat.pow_pos (by decide), h⟩, Nat.zero_le _, fun i hi => absurd hi (Nat.not_lt_zero i), Nat.zero_le _, fun i hi => absurd hi (Nat.not_lt_zero i), Nat.zero_le _, fun i hi => absurd hi (Nat.not_lt_zero i)⟩
theorem sh0_any {Z' : Zt} {g r f t : Nat} (h : shOk Z 0 g r f t) : shOk Z' 0 g r f t := by
  obtain ⟨h1, h2, h3, h4, h5⟩ := h
  refine ⟨h1, h2, h3, h4, fun v v1 v2 => ?_⟩
  have e := h5 v v1 v2
  have z : ∀ W : Zt, ∀ i, i < zN W → (0 : Nat).testBit i = true → catB W i v = true := fun W i _ w => by rw [Nat.zero_testBit] at w; cases w
  exact ⟨fun _ => e.mp (z Z), fun _ => z Z'⟩
theorem sea_ok : Ok_sea := by
  intro S M O h x
  obtain ⟨t, f, Z, c, i, h1, h2, h3, hC, hM⟩ := h
  have bad : (F_l_sea x S O = some (1, S, O) ∧ F_m_sea x M = some (0, si (si M 1001 0) 1001 1)) → ∃ k S' O' b M', F_l_sea x S O = some (k, S', O') ∧ F_m_sea x M = some (b, M') ∧ gi M' 1001 = k ∧ (k = 0 → al O' 2000 (Int32.toNatClampNeg 0) = b.toInt64) ∧ Rl S' M' :=
    fun w => ⟨1, S, O, 0, si (si M 1001 0) 1001 1, w.1, w.2, rfl, fun e => absurd e (by decide), t, f, Z, c, i, h1, h2, h3, hC, (hM.cd 0).cd 1⟩
  have e7 : gi S 7 = nI t.1 := hC.tp.1
  have ht : t.1 ≤ 500 := hC.tp.2.1
  have e3 : gi (si M 1001 0) 1003 = nI t.1 := hM.tp.1
  by_cases q : x < 0
  · refine bad ⟨?_, ?_⟩
    · unfold F_l_sea F_w_sea
      rw [if_pos q]
      rfl
    · unfold F_m_sea
      rw [if_pos q]
      rfl
  obtain ⟨m, hm, rfl⟩ := nI_of q
  by_cases w0 : ¬ m ≤ t.1
  · refine bad ⟨?_, ?_⟩
    · unfold F_l_sea F_w_sea
      rw [if_neg q, e7, if_neg (nI_ge (by omega) (by omega))]
      rfl
    · unfold F_m_sea
      rw [if_neg q, e3, if_neg (nI_ge (by omega) (by omega))]
      rfl
  have w : m ≤ t.1 := Classical.not_not.mp w0
  have f0 : sC S (rd0 S m) := ((((((((((((((Fr.rfl.si (by decide)).si (by decide)).sl (by decide)).si (by decide)).si (by decide)).si (by decide)).si (by decide)).si (by decide)).si (by decide)).si (by decide)).si (by decide)).si (by decide)).si (by decide)))
  have g0 := ms1_s M m
  have lc : LxC t.2 m (rd0 S m) := ⟨by omega, rfl, fun i hi => ⟨(hC.tp.2.2 i (by omega)).1, (hC.tp.2.2 i (by omega)).2⟩, rfl⟩
  have lm : LxM t.2 m (ms1 M m) := ⟨by omega, rfl, fun i hi => ⟨hM.tp.2 i (by omega), (hC.tp.2.2 i (by omega)).2⟩, rfl⟩
  obtain ⟨b, a, k, S1, M1, p1, p2, p3, p4, p5, p6⟩ := step_ok lc lm (p := 0) (Nat.zero_le _) rfl rfl rfl rfl
  have NT0 : NtR 0 (fun _ => (0, 0, 0, 0, 0)) (rd0 S m) (ms1 M m) := by
    refine ⟨by decide, rfl, ?_, fun i hi => absurd hi (Nat.not_lt_zero i)⟩
    show upd (upd (upd (ai M 1003) 3 0) 4 30) 5 0 3 = _
    rw [upd_at, upd_at, upd_at, if_neg (by decide), if_neg (by decide), if_pos rfl]; rfl
  have PL0 : PlcR 30 0 false false false (rd0 S m) (ms1 M m) := by
    refine ⟨⟨by decide, by decide⟩, by decide, fun _ => rfl, rfl, ?_, rfl, rfl, rfl, rfl, rfl⟩
    show upd (upd (upd (ai M 1003) 3 0) 4 30) 5 0 4 = _
    rw [upd_at, upd_at, if_neg (by decide), if_pos rfl]; rfl
  have RU0 : RuR 0 0 (rd0 S m) (ms1 M m) := by
    refine ⟨rfl, ?_, fun _ => (0, 0), fun i hi => absurd hi (Nat.not_lt_zero i), ?_, rfl⟩
    · show upd (upd (upd (ai M 1003) 3 0) 4 30) 5 0 5 = _
      rw [upd_at, if_pos rfl]; rfl
    · rw [decide_eq_false (fun ⟨i, hi, _⟩ => absurd hi (Nat.not_lt_zero i))]; rfl
  have L0 : LnP t.2 m b 0 (fun _ => (0, 0, 0, 0, 0)) 30 0 false false 0 S1 M1 := by
    refine ⟨⟨a, k, p6⟩, NT0.fr p3.e p4.e, ?_, ⟨0, RU0.e p3.e p4.e, fun z => absurd rfl z⟩, Nat.zero_le _⟩
    rw [decide_eq_false (fun z => z rfl)]
    exact PL0.gg p3 p4 (by decide) (by decide) (by decide) (by rw [p4.ai 1003 (by decide)])
  obtain ⟨S2, M2, r, z1, z2, z3, z4, z5⟩ := read_lp (m + 1) FU FU 0 b 0 30 0 0 _ false false S1 M1 (by omega) (by rw [FU_v]; omega) (by rw [FU_v]; omega) (Nat.zero_le _) L0
  have eR : F_Rd_read (nI m) S = some (r, S2) := by
    unfold F_Rd_read F_Se_clear F_Ru_clear
    rw [b2_s, b2_s]
    refine (congrArg (fun z => b2 z _) p1).trans ?_
    rw [b2_s]
    exact z1
  have eS : F_m_sea (nI m) M = F_m_sea_104 M2 := by
    unfold F_m_sea
    rw [if_neg q, e3, if_pos (nI_le w (by omega))]
    refine (congrArg (fun z => b2 z _) p2).trans ?_
    rw [b2_s]
    exact z2
  have fS : sC S S2 := (f0.trans (p3.mono (by decide) (by decide) (by decide) (by decide) (by decide))).trans (z3.mono (by decide) (by decide) (by decide) (by decide) (by decide))
  have fM' : sM M M2 := (g0.trans p4.e.s).trans z4.s
  have e7' : gi S2 7 = nI 0 := by rw [z3.gi 7 (by decide), p3.gi 7 (by decide)]; rfl
  have m1 : gi M2 1001 = 0 := by rw [z4.1.gi 1001 (by decide), p4.gi 1001 (by decide)]; rfl
  have m3 : gi M2 1003 = nI 0 := by rw [z4.1.gi 1003 (by decide), p4.gi 1003 (by decide)]; rfl
  have m12 : gi M2 1012 = -1 := by rw [z4.1.gi 1012 (by decide), p4.gi 1012 (by decide)]; rfl
  have im2 : gi S2 50 = bI i.isSome := by rw [fS.gi 50 (by decide)]; exact hC.im
  have mi2 : gi M2 1029 = bI i.isSome := by rw [fM'.1.gi 1029 (by decide)]; exact hM.im
  have gr2 : (gr S2 48 = 54 ∧ gr S2 49 = 55) ∨ (gr S2 48 = 55 ∧ gr S2 49 = 54) := by rw [fS.gr 48 (by decide), fS.gr 49 (by decide)]; exact hC.gr
  unfold F_l_sea F_w_sea
  rw [eS, if_neg q, e7, if_pos (nI_le w (by omega)), eR, b2_s]
  rcases z5 with ⟨r0, b', N, g, P, tk, pt, pd, s, hL⟩ | ⟨hD, hr⟩
  · obtain ⟨⟨a', k', tK⟩, hN, hP, ⟨d, hR, hd⟩, hs⟩ := hL
    have hba := tK.ba
    obtain ⟨P1, P2, P3, P4, P5, P6, P7, P8, P9, P10⟩ := hP
    obtain ⟨R1, R2, cc, R3, R4, R5⟩ := hR
    obtain ⟨N1, N2, N3, N4⟩ := hN
    have e8 : gi S2 8 = -1 := tK.1.2.2.2
    obtain ⟨S3, y1, y2, y3, y4, y5, y6, y7, y8, y9, y10⟩ := copy_nx (s := s) (by omega) R1 P10 R4
    have hZ : ZOk ((N, g), P, (s, cc)) := by
      refine ⟨N1, fun i hi => (N4 i hi).2.2, P1, (show s ≤ 500 by omega), fun i hi => ⟨(R3 i hi).2.2.2.1, (R3 i hi).2.2.2.2⟩, fun z => ?_⟩
      have := hd z
      rw [this] at R5
      exact R5
    -- the sets
    obtain ⟨_, hE⟩ : ShC Z S := hC.z.2.2.2.2.2.2.2
    obtain ⟨sg', sr, sf, st', s1, s2, s3, s4, s5⟩ := hE 0 (Nat.pow_pos (by decide))
    have fS3 : Fr [1, 2, 3, 4, 5, 7, 8, 9, 10, 11, 12, 13, 14, 15, 16, 17, 18, 19, 20, 21, 22, 23] [6, 24] [4, 10, 11, 13, 19, 20] [5, 6, 7, 8, 14, 15, 16, 17] [] S S3 := (fS.mono (by decide) (by decide) (by decide) (by decide) (by decide)).trans (y2.mono (by decide) (by decide) (by decide) (by decide) (by decide))
    have f4 : Fr [25] [] [] [] [] S3 (si S3 25 1) := Fr.rfl.si (by decide)
    have nc : NC ((N, g), P, (s, cc)) (si S3 25 1) := by
      intro i hi
      have hi' : i < N := hi
      obtain ⟨v1, v2, v3, v4, v5⟩ := y3 i (by omega)
      obtain ⟨⟨u1, u2, u3, u4, u5⟩, _⟩ := N4 i hi'
      exact ⟨v2.trans u2, v3.trans u3, v4.trans u4, v5.trans u5⟩
    have ti : TI ((N, g), P, (s, cc)) (2 ^ 0) (si S3 25 1) := by
      intro q' hq
      have : q' = 0 := by
        rw [Nat.pow_zero] at hq
        omega
      subst this
      refine ⟨sg', sr, sf, st', ?_, ?_, ?_, ?_, s5.1.2, sh0_any s5⟩
      · show al S3 22 0 = _
        rw [fS3.al 22 (by decide)]; exact s1
      · show al S3 23 0 = _
        rw [fS3.al 23 (by decide)]; exact s2
      · show al S3 24 0 = _
        rw [fS3.al 24 (by decide)]; exact s3
      · show al S3 25 0 = _
        rw [fS3.al 25 (by decide)]; exact s4
    obtain ⟨S4, x1, x2, x3, x4⟩ := tie7 hZ N FU 0 (si S3 25 1) (Nat.zero_add _) (by rw [FU_v]; omega) (show gi S3 22 = nI N from y8.trans N2) rfl nc ti
    have fS4 : Fr [25] [] [] [22, 23, 24, 25] [] S3 S4 := (f4.mono (by decide) (by decide) (by decide) (by decide) (by decide)).trans x2
    have e24 : gl S4 24 = lN tk := by rw [fS4.gl 24 (by decide), y10]; exact P6
    generalize hF : si (si (si (si (si (sl (si (sl (sl S4 26 1) 27 1000) 28 0) 29 (lN tk)) 30 0) 31 0) 32 0) 33 0) 50 0 = S5
    have f5 : Fr [28, 30, 31, 32, 33, 50] [26, 27, 29] [] [] [] S4 S5 := by
      rw [← hF]
      exact (((((((((Fr.rfl.sl (by decide)).sl (by decide)).si (by decide)).sl (by decide)).si (by decide)).si (by decide)).si (by decide)).si (by decide)).si (by decide))
    have zc : ZC ((N, g), P, (s, cc)) S5 := by
      refine ZC_fr (S := S4) ⟨?_, fun i hi => ?_, ?_, ?_, ?_, fun i hi => ?_, ?_, x3, fun s' hs' => ?_⟩ f5 (by decide) (by decide) (by decide)
      · rw [fS4.gi 22 (by decide)]; exact y8.trans N2
      · have hi' : i < N := hi
        obtain ⟨v1, v2, v3, v4, v5⟩ := y3 i (by omega)
        obtain ⟨⟨u1, u2, u3, u4, u5⟩, _⟩ := N4 i hi'
        rw [fS4.ai 13 (by decide), fS4.al 14 (by decide), fS4.al 15 (by decide), fS4.al 16 (by decide), fS4.al 17 (by decide)]
        exact ⟨v1.trans u1, v2.trans u2, v3.trans u3, v4.trans u4, v5.trans u5⟩
      · rw [fS4.gi 23 (by decide)]; exact y9.trans P4
      · rw [fS4.gi 19 (by decide)]; exact y5.trans R1
      · rw [fS4.gi 20 (by decide)]; exact y6.trans P10
      · have hi' : i < s := hi
        rw [fS4.ai 19 (by decide), fS4.ai 20 (by decide)]
        exact ⟨(y4 i hi').1.trans (R3 i hi').1, (y4 i hi').2.trans (R3 i hi').2.1⟩
      · rw [fS4.gi 21 (by decide)]; exact y7.trans R4
      · obtain ⟨g1, g2, g3, g4, g5, g6, g7, g8, _, g9⟩ := x4 s' hs'
        exact ⟨g1, g2, g3, g4, g5, g6, g7, g8, g9⟩
    have sc : ScC 0 (cNew c tk) S5 := by
      have e34 : ai S5 34 = ai S 34 := by
        rw [f5.ai 34 (by decide), fS4.ai 34 (by decide), fS3.ai 34 (by decide)]
      refine ⟨?_, ?_, ?_, ?_, ?_, ?_, fun i hi => absurd hi (Nat.not_lt_zero i), ?_, fun i hi => absurd hi (Nat.not_lt_zero i), ?_, fun i hi => absurd hi (Nat.not_lt_zero i), fun i hi => ?_⟩
      · rw [← hF]; rfl
      · rw [← hF]; rfl
      · rw [← hF]; rfl
      · rw [← hF]; rfl
      · rw [← hF]; rfl
      · rw [← hF]; rfl
      · rw [← hF]; rfl
      · rw [← hF]; rfl
      · show ai S5 34 i = _
        rw [e34]
        obtain ⟨_, _, _, _, _, _, _, _, _, _, _, c12⟩ := hC.sc
        exact c12 i hi
    have e50 : gi S5 50 = bI false := by rw [← hF]; rfl
    have e75 : gi S5 7 = nI 0 := by rw [f5.gi 7 (by decide), fS4.gi 7 (by decide), y2.gi 7 (by decide)]; exact e7'
    have e85 : gi S5 8 = -1 := by rw [f5.gi 8 (by decide), fS4.gi 8 (by decide), y2.gi 8 (by decide)]; exact e8
    have gr5 : (gr S5 48 = 54 ∧ gr S5 49 = 55) ∨ (gr S5 48 = 55 ∧ gr S5 49 = 54) := by
      rw [f5.gr 48 (by decide), f5.gr 49 (by decide), fS4.gr 48 (by decide), fS4.gr 49 (by decide), fS3.gr 48 (by decide), fS3.gr 49 (by decide)]
      exact hC.gr
    -- the model
    obtain ⟨U, u1, u2, u3, u4, u5⟩ := over_nx M2
    have a13 : ai (anew U) 1008 = ai M 1008 := by
      show ai U 1008 = _
      rw [u2.ai 1008 (by decide), fM'.1.ai 1008 (by decide)]
    have e02 : gl U 1002 = lN tk := by rw [u2.gl 1002 (by decide)]; exact P7
    have zm : ZM ((N, g), P, (s, cc)) (anew U) := by
      refine ⟨(u3 0 (by decide)).trans N3, (u3 1 (by decide)).trans P5, (u3 2 (by decide)).trans R2, fun i hi => ?_, fun i hi => ?_⟩
      · have hi' : i < N := hi
        obtain ⟨v1, v2, v3, v4, v5⟩ := u4 i (by omega)
        obtain ⟨_, ⟨t1, t2, t3, ⟨q1, q2, q3, q4⟩, q5, q6, q7, q8⟩, _⟩ := N4 i hi'
        exact ⟨v1.trans t1, v4.trans t2, v5.trans t3, ⟨q1, q2, v2.trans q3, q4⟩, q5, q6, v3.trans q7, q8⟩
      · have hi' : i < s := hi
        exact (u5 i (by omega)).trans (R3 i hi').2.2.1
    have sm' : ScM (cNew c tk) (anew U) := by
      refine ⟨rfl, rfl, rfl, ?_, rfl, rfl, rfl, rfl, rfl, fun i hi => absurd hi (Nat.not_lt_zero i), fun i hi => absurd hi (Nat.not_lt_zero i), fun i hi => absurd hi (Nat.not_lt_zero i), fun i hi => ?_⟩
      · show gl U 1002 = _
        exact e02
      · rw [a13]
        obtain ⟨_, _, _, _, _, _, _, _, _, _, _, _, c13⟩ := hM.sc
        exact c13 i hi
    have k1 : gi (anew U) 1003 = nI 0 := by
      show gi U 1003 = _
      rw [u2.gi 1003 (by decide)]; exact m3
    have k2 : gi (anew U) 1012 = -1 := by
      show gi U 1012 = _
      rw [u2.gi 1012 (by decide)]; exact m12
    have k3 : gi (anew U) 1001 = 0 := by
      show gi U 1001 = _
      rw [u2.gi 1001 (by decide)]; exact m1
    refine ⟨0, S5, oW O (Int32.toInt64 0), 0, anew U, ?_, ?_, k3, fun _ => rfl, (0, t.2), -1, ((N, g), P, (s, cc)), cNew c tk, none, hZ, cNew_ok P2, fun k hk => (by cases hk), ⟨⟨e75, Nat.zero_le _, fun i hi => absurd hi (Nat.not_lt_zero i)⟩, e85, zc, sc, e50, fun k hk => (by cases hk), gr5⟩, ⟨⟨k1, fun i hi => absurd hi (Nat.not_lt_zero i)⟩, k2, zm, sm', rfl, fun k hk => (by cases hk)⟩⟩
    · rw [r0, if_pos rfl, y1, b2_s]
      have eT : F_Sh_tie S3 = some ((), S4) := x1
      unfold F_Sc_begin
      rw [eT, b2_s, e24, b2_s, b2_s, su_l]
      exact congrArg (fun z => some ((0 : Int32), z, oW O (Int32.toInt64 0))) hF
    · unfold F_m_sea_104
      rw [if_pos tK.m10, u1, b2_s]
  · have hD' := hD
    obtain ⟨e, e1, e2, e9, e10, e11⟩ := hD
    have nr : ¬ r = 0 := by rw [hr]; exact hD'.c
    have rC : RC (0, t.2) (gi S2 8) Z c i S2 := by
      obtain ⟨c1, c2, c3, c4, c5, c6, c7⟩ := hC
      exact ⟨⟨e7', Nat.zero_le _, fun i hi => absurd hi (Nat.not_lt_zero i)⟩, rfl, ZC_fr c3 fS (by decide) (by decide) (by decide), ScC_fr c4 fS (by decide) (by decide) (by decide) (by decide), im2, fun k hk => ScC_fr (c6 k hk) fS (by decide) (by decide) (by decide) (by decide), gr2⟩
    have rM : RM (0, t.2) (gi S2 8) Z c i (si M2 1012 (gi M2 1011)) := by
      obtain ⟨d1, d2, d3, d4, d5, d6⟩ := hM
      have q2 : Fr [1012] [] [] [] [] M2 (si M2 1012 (gi M2 1011)) := Fr.rfl.si (by decide)
      refine ⟨⟨m3, fun i hi => absurd hi (Nat.not_lt_zero i)⟩, e11.symm, ZM_fr (ZM_s h1 d3 fM') q2 (by decide) (by decide), ScM_fr (ScM_fr d4 fM'.1 (by decide) (by decide) (by decide) (by decide)) q2 (by decide) (by decide) (by decide) (by decide), mi2, fun k hk => ScN_fr (ScN_fr (d6 k hk) fM'.1 (by decide) (by decide) (by decide)) q2 (by decide) (by decide) (by decide)⟩
    obtain ⟨S3, y1, y2⟩ := refC_ok rC (k := 0) (by decide)
    have rM2 := refM_ok rM (k := 0) (by decide)
    refine ⟨0, S3, oW O r.toInt64, r, ui (si M2 1012 (gi M2 1011)) 1008 (upd (ai M2 1008) 0 (ai M2 1008 0 + 1)), ?_, ?_, m1, fun _ => rfl, (0, t.2), gi S2 8, Z, cSt c 0, i, h1, h2, h3, y2, rM2⟩
    · rw [if_neg nr, show F_Sc_refuse 0 S2 = some ((), S3) from y1, b2_s, b2_s, su_l]
    · unfold F_m_sea_104
      rw [if_neg hD'.m]
      have e3' : r = gi M2 1010 := by rw [hr, e9, e10]
      rw [e3']
      rfl
end
