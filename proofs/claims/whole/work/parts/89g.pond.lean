/-! ===== lines of places, of a pond, of a rule ===== -/
section
variable {y : Nat → Nat} {n N s d : Nat} {g : Nat → Nt5} {S M T U : Sto}
abbrev cF (S T : Sto) : Prop := Fr [1, 2, 3, 4, 5, 8, 9, 11, 12, 13, 14, 15, 16, 17, 18] [6] [4, 10, 11] [5, 6, 7, 8] [] S T
def mF (M T : Sto) : Prop := Fr [1004, 1006, 1007, 1008, 1009, 1010, 1011] [1002] [1003, 1004, 1005, 1006, 1007] [1009, 1010] [] M T ∧ (∀ i, i < 3 → ai T 1003 i = ai M 1003 i) ∧
  (∀ i, i < 8 → ai T 1004 i = ai M 1004 i ∧ ai T 1005 i = ai M 1005 i ∧ ai T 1006 i = ai M 1006 i ∧ al T 1009 i = al M 1009 i ∧ al T 1010 i = al M 1010 i) ∧ ∀ i, i < 500 → ai T 1007 i = ai M 1007 i
theorem mF.rfl : mF M M := ⟨Fr.rfl, fun _ _ => Eq.refl _, fun _ _ => ⟨Eq.refl _, Eq.refl _, Eq.refl _, Eq.refl _, Eq.refl _⟩, fun _ _ => Eq.refl _⟩
theorem mF.trans (h : mF S T) (g : mF T U) : mF S U :=
  ⟨h.1.trans g.1, fun i hi => (g.2.1 i hi).trans (h.2.1 i hi), fun i hi => ⟨(g.2.2.1 i hi).1.trans (h.2.2.1 i hi).1, (g.2.2.1 i hi).2.1.trans (h.2.2.1 i hi).2.1, (g.2.2.1 i hi).2.2.1.trans (h.2.2.1 i hi).2.2.1, (g.2.2.1 i hi).2.2.2.1.trans (h.2.2.1 i hi).2.2.2.1, (g.2.2.1 i hi).2.2.2.2.trans (h.2.2.1 i hi).2.2.2.2⟩, fun i hi => (g.2.2.2 i hi).trans (h.2.2.2 i hi)⟩
theorem ntC.c (h : ntC S T) : cF S T := h.mono (by decide) (by decide) (by decide) (by decide) (by decide)
theorem xC.c (h : xC S T) : cF S T := h.mono (by decide) (by decide) (by decide) (by decide) (by decide)
theorem eC.c (h : eC S T) : cF S T := h.mono (by decide) (by decide) (by decide) (by decide) (by decide)
theorem ntM.c (h : ntM N S T) : mF S T := by
  refine ⟨h.1.mono (by decide) (by decide) (by decide) (by decide) (by decide), fun i hi => h.2.1 i (by omega), fun i hi => h.2.2 i (by omega), fun i _ => ?_⟩
  rw [h.1.ai 1007 (by decide)]
theorem xM.c (h : xM S T) : mF S T := by
  refine ⟨h.1.mono (by decide) (by decide) (by decide) (by decide) (by decide), fun i hi => h.2.1 i (by omega), fun i hi => ?_, h.2.2⟩
  rw [h.1.ai 1004 (by decide), h.1.ai 1005 (by decide), h.1.ai 1006 (by decide), h.1.al 1009 (by decide), h.1.al 1010 (by decide)]
  exact ⟨Eq.refl _, Eq.refl _, Eq.refl _, Eq.refl _, Eq.refl _⟩
theorem eM.c (h : eM S T) : mF S T := h.x.c
theorem NtR.gg {c1 c2 c3 c4 c5 d1 d2 d3 d4 d5 : List Nat} (h : NtR N g S M) (q : Fr c1 c2 c3 c4 c5 S T) (r : Fr d1 d2 d3 d4 d5 M U) (h1 : 4 ∉ c1) (h2 : 4 ∉ c3) (h3 : 5 ∉ c4 ∧ 6 ∉ c4 ∧ 7 ∉ c4 ∧ 8 ∉ c4) (h4 : 1004 ∉ d3 ∧ 1005 ∉ d3 ∧ 1006 ∉ d3) (h5 : 1009 ∉ d4 ∧ 1010 ∉ d4) (h6 : ai U 1003 3 = ai M 1003 3) : NtR N g T U := by
  unfold NtR at h ⊢
  rw [q.gi 4 h1, h6, q.ai 4 h2, q.al 5 h3.1, q.al 6 h3.2.1, q.al 7 h3.2.2.1, q.al 8 h3.2.2.2, r.ai 1004 h4.1, r.ai 1005 h4.2.1, r.ai 1006 h4.2.2, r.al 1009 h5.1, r.al 1010 h5.2]
  exact h
theorem RuR.gg {c1 c2 c3 c4 c5 d1 d2 d3 d4 d5 : List Nat} (h : RuR s d S M) (q : Fr c1 c2 c3 c4 c5 S T) (r : Fr d1 d2 d3 d4 d5 M U) (h1 : 1 ∉ c1 ∧ 3 ∉ c1) (h2 : 10 ∉ c3 ∧ 11 ∉ c3) (h3 : 1007 ∉ d3) (h4 : ai U 1003 5 = ai M 1003 5) : RuR s d T U := by
  unfold RuR at h ⊢
  rw [q.gi 1 h1.1, h4, q.ai 10 h2.1, q.ai 11 h2.2, r.ai 1007 h3, q.gi 3 h1.2]
  exact h
/-- places, what is taken, what was told -/
def PlcR (P tk : Nat) (pt pd rt : Bool) (S M : Sto) : Prop := (2 ≤ P ∧ P ≤ 60) ∧ tk < 2 ^ P ∧ (pd = false → tk = 0) ∧ gi S 5 = nI P ∧ ai M 1003 4 = nI P ∧ gl S 6 = lN tk ∧ gl M 1002 = lN tk ∧ gi S 17 = bI pt ∧ gi S 18 = bI pd ∧ gi S 2 = bI rt
theorem PlcR.gg {P tk : Nat} {pt pd rt : Bool} {c1 c2 c3 c4 c5 d1 d2 d3 d4 d5 : List Nat} (h : PlcR P tk pt pd rt S M) (q : Fr c1 c2 c3 c4 c5 S T) (r : Fr d1 d2 d3 d4 d5 M U) (h1 : 5 ∉ c1 ∧ 17 ∉ c1 ∧ 18 ∉ c1 ∧ 2 ∉ c1) (h2 : 6 ∉ c2) (h3 : 1002 ∉ d2) (h4 : ai U 1003 4 = ai M 1003 4) : PlcR P tk pt pd rt T U := by
  unfold PlcR at h ⊢
  rw [q.gi 5 h1.1, h4, q.gl 6 h2, r.gl 1002 h3, q.gi 17 h1.2.1, q.gi 18 h1.2.2.1, q.gi 2 h1.2.2.2]
  exact h
def sn (pt pd rt : Bool) : Nat := (if pt = true then 1 else 0) + (if pd = true then 2 else 0) + (if rt = true then 4 else 0)
theorem sn_1 : ∀ pt pd rt : Bool, ((((1 : Int32) &&& 5) &&& nI (sn pt pd rt) = 0) ↔ pt = false) ∧ ((nI (sn pt pd rt) &&& 2 = 0) ↔ pd = false) ∧ nI (sn pt pd rt) ||| 1 = nI (sn true pd rt) := by decide +kernel
theorem sn_2 : ∀ pt pd rt : Bool, (((2 : Int32) &&& 5) &&& nI (sn pt pd rt) = 0) ∧ nI (sn pt pd rt) ||| 2 = nI (sn pt true rt) := by decide +kernel
theorem sn_4 : ∀ pt pd rt : Bool, ((((4 : Int32) &&& 5) &&& nI (sn pt pd rt) = 0) ↔ rt = false) ∧ nI (sn pt pd rt) ||| 4 = nI (sn pt pd true) := by decide +kernel
theorem sn_0 : ∀ pt pd rt : Bool, (((0 : Int32) &&& 5) &&& nI (sn pt pd rt) = 0) ∧ nI (sn pt pd rt) ||| 0 = nI (sn pt pd rt) := by decide +kernel
/-! behind a fault -/
theorem md_128 (h : ¬ gi M 1010 = 0) (x1 : Int32) : F_m_readLine_117 x1 1 M = F_m_readLine_156 x1 1 (ui M 1003 (upd (ai M 1003) 4 0)) := by
  unfold F_m_readLine_117 F_m_readLine_128
  rw [if_neg h, if_pos rfl, md_num h, b2_s]
  unfold F_m_readLine_146
  rw [if_neg (by decide)]
  rfl
/-- 'places' -/
theorem places_ok {P tk b a k : Nat} {pt pd rt : Bool} (t : Tk y n b a k S M) (hk : k = 1) (h : PlcR P tk pt pd rt S M) (hw : F_m_which_1000_1001 M = some (-1)) :
    ∃ S' M', F_Rd_readPlaces S = some ((), S') ∧ F_m_readLine_43 (nI (sn pt pd rt)) 1 M = F_m_readLine_156 (nI (sn pt pd rt)) 1 M' ∧ Fr [5, 8, 9, 11, 12, 13, 14, 15, 16, 17] [] [] [] [] S S' ∧ Fr [1004, 1006, 1007, 1008, 1009, 1010, 1011] [] [1003] [] [] M M' ∧ (∀ i, i ≠ 4 → ai M' 1003 i = ai M 1003 i) ∧
      ((∃ b' a' k' P', b < b' ∧ Tk y n b' a' k' S' M' ∧ PlcR P' tk true pd rt S' M') ∨ Dd S' M') := by
  have hba := t.ba
  obtain ⟨h1, h2, h3, h4, h5, h6, h7, h8, h9, h10⟩ := h
  obtain ⟨s1, s2, _⟩ := sn_1 pt pd rt
  unfold F_Rd_readPlaces F_m_readLine_43
  rw [hw, b1_s, h8, h9]
  have u4 : ∀ (M : Sto) (x : Int32) (i : Nat), i ≠ 4 → ai (ui M 1003 (upd (ai M 1003) 4 x)) 1003 i = ai M 1003 i := by
    intro M x i hi
    rw [ai_ui, if_pos rfl, upd_at, if_neg hi]
  have bad : ∀ e, 1 ≤ e → e ≤ 6 → ∃ S' M', b2 (F_Rd_fail (nI e) S) (fun _ S12 => some ((), S12)) = some ((), S') ∧ b2 (F_m_wrong (nI e) M) (fun _ M3 => F_m_readLine_117 (nI (sn pt pd rt)) 1 M3) = F_m_readLine_156 (nI (sn pt pd rt)) 1 M' ∧ (∀ M3, F_m_wrong (nI e) M = some ((), M3) → ¬ gi M3 1010 = 0) ∧ Fr [5, 8, 9, 11, 12, 13, 14, 15, 16, 17] [] [] [] [] S S' ∧ Fr [1004, 1006, 1007, 1008, 1009, 1010, 1011] [] [1003] [] [] M M' ∧ (∀ i, i ≠ 4 → ai M' 1003 i = ai M 1003 i) ∧ Dd S' M' := by
    intro e e1 e2
    obtain ⟨S1, M1, p1, p2, p3, p4, p5⟩ := t.bad (e := e) e1 e2
    have f1 : Fr [] [] [1003] [] [] M1 (ui M1 1003 (upd (ai M1 1003) 4 0)) := Fr.rfl.ui (by decide)
    refine ⟨S1, ui M1 1003 (upd (ai M1 1003) 4 0), ?_, ?_, ?_, p3.mono (by decide) (by decide) (by decide) (by decide) (by decide), ?_, fun i hi => ?_, p5.mm f1 (by decide)⟩
    · rw [p1, b2_s]
    · rw [p2, b2_s, md_128 p5.m]
    · intro M3 q
      rw [p2] at q
      have q2 : M1 = M3 := congrArg Prod.snd (Option.some.inj q)
      rw [← q2]
      exact p5.m
    · exact (p4.mono (by decide) (by decide) (by decide) (by decide) (by decide)).trans (f1.mono (by decide) (by decide) (by decide) (by decide) (by decide))
    · rw [u4 M1 0 i hi, p4.ai 1003 (by decide)]
  cases pt
  · rw [if_pos (show bI false = 0 from rfl), if_pos (s1.mpr rfl)]
    unfold F_m_readLine_66 F_m_readLine_83
    rw [if_pos rfl]
    cases pd
    · rw [if_pos (show bI false = 0 from rfl), if_pos (s2.mpr rfl), if_pos rfl, if_neg (by decide), if_neg (by decide)]
      unfold F_m_readLine_117 F_m_readLine_128
      have f0 : Fr [17] [] [] [] [] S (si S 17 1) := Fr.rfl.si (by decide)
      have t0 : Tk y n b a k (si S 17 1) M := t.fr f0 (Fr.rfl (a := []) (b := []) (c := []) (d := []) (e := [])) (by decide) (by decide) (by decide) (by decide)
      obtain ⟨b1', a1, k1, S1, M1, g1, g2, g3, g4, g5, g6⟩ := t0.go
      obtain ⟨r, r', S2, M2, n1, n2, n3, n4, n5⟩ := num_ok g6 (lo := 2) (hi := 60) (by decide) (by decide)
      rw [g1, b2_s, show F_Rd_expectNumber 2 60 S1 = some (r, S2) from n1, b2_s, if_pos t.m10, g2, b2_s, if_pos rfl, show F_m_readNumber 2 60 M1 = some (r', M2) from n2, b2_s]
      unfold F_m_readLine_146
      rw [if_neg (by decide)]
      have f1 : Fr [5] [] [] [] [] S2 (si S2 5 r) := Fr.rfl.si (by decide)
      have f2 : Fr [] [] [1003] [] [] M2 (ui M2 1003 (upd (ai M2 1003) 4 r')) := Fr.rfl.ui (by decide)
      have fS : Fr [5, 8, 9, 11, 12, 13, 14, 15, 16, 17] [] [] [] [] S (si S2 5 r) := (((f0.mono (by decide) (by decide) (by decide) (by decide) (by decide)).trans (g3.e.mono (by decide) (by decide) (by decide) (by decide) (by decide))).trans (n3.mono (by decide) (by decide) (by decide) (by decide) (by decide))).trans (f1.mono (by decide) (by decide) (by decide) (by decide) (by decide))
      have fM' : Fr [1004, 1006, 1007, 1008, 1009, 1010, 1011] [] [1003] [] [] M (ui M2 1003 (upd (ai M2 1003) 4 r')) := ((g4.e.mono (by decide) (by decide) (by decide) (by decide) (by decide)).trans (n4.mono (by decide) (by decide) (by decide) (by decide) (by decide))).trans (f2.mono (by decide) (by decide) (by decide) (by decide) (by decide))
      refine ⟨si S2 5 r, ui M2 1003 (upd (ai M2 1003) 4 r'), rfl, rfl, fS, fM', fun i hi => ?_, ?_⟩
      · rw [u4 M2 r' i hi, n4.ai 1003 (by decide), g4.ai 1003 (by decide)]
      · rcases n5 with ⟨v, b3, a3, k3, v1, v2, v3, v4, v5, v6⟩ | ⟨v1, hD⟩
        · have e0 := h3 rfl
          refine Or.inl ⟨b3, a3, k3, v, by omega, v6.fr f1 f2 (by decide) (by decide) (by decide) (by decide), ⟨v1, v2⟩, by rw [e0]; exact Nat.pow_pos (by decide), fun _ => e0, v3, ?_, ?_, ?_, ?_, ?_, ?_⟩
          · rw [ai_ui, if_pos rfl, upd_at, if_pos rfl]; exact v4
          · rw [fS.gl 6 (by decide)]; exact h6
          · rw [fM'.gl 1002 (by decide)]; exact h7
          · rw [f1.gi 17 (by decide), n3.gi 17 (by decide), g3.gi 17 (by decide)]; rfl
          · rw [fS.gi 18 (by decide)]; exact h9
          · rw [fS.gi 2 (by decide)]; exact h10
        · exact Or.inr (hD.fr f1 f2 (by decide) (by decide))
    · obtain ⟨S1, M1, p1, p2, p3, p4, p5, p6, p7⟩ := bad 6 (by decide) (by decide)
      rw [if_neg (show ¬ bI true = 0 by decide), if_neg (fun w => absurd (s2.mp w) (by decide))]
      refine ⟨S1, M1, p1, ?_, p4, p5, p6, Or.inr p7⟩
      refine Eq.trans ?_ p2
      refine congrArg (b2 (F_m_wrong 6 M)) (funext fun _ => funext fun M3 => ?_)
      rw [if_pos rfl, if_neg (by decide), if_neg (by decide)]
  · obtain ⟨S1, M1, p1, p2, p3, p4, p5, p6, p7⟩ := bad 5 (by decide) (by decide)
    rw [if_neg (show ¬ bI true = 0 by decide), if_neg (fun w => absurd (s1.mp w) (by decide))]
    refine ⟨S1, M1, p1, ?_, p4, p5, p6, Or.inr p7⟩
    refine Eq.trans ?_ p2
    obtain ⟨S2, M2, q1, q2, q3, q4, q5⟩ := t.bad (e := 5) (by decide) (by decide)
    rw [show F_m_wrong 5 M = some ((), M2) from q2, b2_s, show F_m_wrong (nI 5) M = some ((), M2) from q2, b2_s]
    unfold F_m_readLine_66
    have e83 : F_m_readLine_83 (nI (sn true pd rt)) 1 (-1) M2 = F_m_readLine_117 (nI (sn true pd rt)) 1 M2 := by
      unfold F_m_readLine_83
      rw [if_pos rfl, if_neg (by decide), if_neg (by decide)]
    rw [if_pos rfl, md_wrong q5.m, b2_s, e83]
    split <;> rfl
/-! one place -/
theorem nn_bad {b a k hi : Nat} (t : Tk y n b a k S M) (hk : k = 2) (hh : hi ≤ 9999) (hb : a - b ≤ 4 → ∀ v, gi S 15 = nI v → v ≤ 9999 → hi < v) : ∃ r S1 M1, F_Rd_expectNumber 0 (nI hi) S = some (r, S1) ∧ F_m_numberNow 0 (nI hi) M = some (0, M1) ∧ fC S S1 ∧ fM M M1 ∧ Dd S1 M1 := by
  have hba := t.ba
  obtain ⟨S1, M1, p1, p2, p3, p4, p5⟩ := t.bad (e := 2) (by decide) (by decide)
  obtain ⟨t1, t2, t3, t4, t5, t6, t7, t8, t9, t10, t11, t12, t13⟩ := t
  have hh2 : gi M 1006 = 2 ∧ b < a ∧ gi S 16 = nI (a - b) ∧ (a - b ≤ 4 → ∃ v, v ≤ 9999 ∧ gi S 15 = nI v ∧ gi M 1007 = nI v) := by
    rcases t13 with w | w | w | w
    · omega
    · omega
    · exact w.2
    · omega
  obtain ⟨e6, e7, e16, ev⟩ := hh2
  refine ⟨gi S1 15, S1, M1, ?_, ?_, p3, p4, p5⟩
  · have e40 : F_Rd_expectNumber_40 S = some (gi S1 15, S1) := by
      unfold F_Rd_expectNumber_40 F_Rd_expectNumber_45
      rw [show F_Rd_fail 2 S = some ((), S1) from p1, b2_s, if_neg p5.c]
    unfold F_Rd_expectNumber
    rw [if_pos (show gi S 12 = 2 by rw [t10, hk]; rfl), e16, e40, (show (4 : Int32) = nI 4 from rfl)]
    by_cases w : a - b ≤ 4
    · obtain ⟨v, v1, v2, v3⟩ := ev w
      have := hb w v v2 v1
      rw [if_neg (show ¬ nI 4 < nI (a - b) by rw [lt_nI (by decide) (by omega)]; omega), v2, if_neg (nI_pos (by omega)), if_neg (nI_ge (by omega) (by omega))]
    · rw [if_pos (nI_lt (by omega) (by omega))]
  · have e54 : F_m_numberNow_54 M = some (0, M1) := by
      unfold F_m_numberNow_54 F_m_numberNow_59
      rw [show F_m_wrong 2 M = some ((), M1) from p2, b2_s, if_neg p5.m]
    unfold F_m_numberNow
    rw [if_pos t4, if_pos e6, t7, t9, sub_nI hba.1, e54, (show (4 : Int32) = nI 4 from rfl)]
    by_cases w : a - b ≤ 4
    · obtain ⟨v, v1, v2, v3⟩ := ev w
      have := hb w v v2 v1
      rw [if_neg (show ¬ nI 4 < nI (a - b) by rw [lt_nI (by decide) (by omega)]; omega), v3, if_neg (nI_pos (by omega)), if_neg (nI_ge (by omega) (by omega))]
    · rw [if_pos (nI_lt (by omega) (by omega))]
theorem nn_good {b a k hi v : Nat} (t : Tk y n b a k S M) (hk : k = 2) (hh : hi ≤ 9999) (hw : a - b ≤ 4) (h15 : gi S 15 = nI v) (h7 : gi M 1007 = nI v) (hv : v ≤ hi) : F_Rd_expectNumber 0 (nI hi) S = b2 (F_Rd_nextToken S) (fun _ S3 => some (nI v, S3)) ∧ F_m_numberNow 0 (nI hi) M = some (nI v, M) := by
  have hba := t.ba
  obtain ⟨t1, t2, t3, t4, t5, t6, t7, t8, t9, t10, t11, t12, t13⟩ := t
  have hh2 : gi M 1006 = 2 ∧ b < a ∧ gi S 16 = nI (a - b) := by
    rcases t13 with w | w | w | w
    · omega
    · omega
    · exact ⟨w.2.1, w.2.2.1, w.2.2.2.1⟩
    · omega
  obtain ⟨e6, e7, e16⟩ := hh2
  have n4 : ¬ nI 4 < nI (a - b) := by rw [lt_nI (by decide) (by omega)]; omega
  constructor
  · unfold F_Rd_expectNumber F_Rd_expectNumber_45
    rw [if_pos (show gi S 12 = 2 by rw [t10, hk]; rfl), e16, (show (4 : Int32) = nI 4 from rfl), if_neg n4, h15, if_neg (nI_pos (by omega)), if_pos (nI_le hv (by omega)), if_pos t3]
  · unfold F_m_numberNow F_m_numberNow_59
    rw [if_pos t4, if_pos e6, t7, t9, sub_nI hba.1, (show (4 : Int32) = nI 4 from rfl), if_neg n4, h7, if_neg (nI_pos (by omega)), if_pos (nI_le hv (by omega)), if_pos t4]
abbrev pC (S T : Sto) : Prop := Fr [8, 9, 11, 12, 13, 14, 15, 16] [6] [] [] [] S T
abbrev pM (S T : Sto) : Prop := Fr [1004, 1006, 1007, 1008, 1009, 1010, 1011] [1002] [] [] [] S T
theorem eC.p (h : eC S T) : pC S T := h.mono (by decide) (by decide) (by decide) (by decide) (by decide)
theorem eM.p (h : eM S T) : pM S T := h.mono (by decide) (by decide) (by decide) (by decide) (by decide)
def PdR (P tk : Nat) (S M : Sto) : Prop := (2 ≤ P ∧ P ≤ 60) ∧ tk < 2 ^ P ∧ gi S 5 = nI P ∧ ai M 1003 4 = nI P ∧ gl S 6 = lN tk ∧ gl M 1002 = lN tk
theorem tk_or {P tk v : Nat} (h : tk < 2 ^ P) (hv : v < P) : tk ||| 2 ^ v < 2 ^ P := Nat.or_lt_two_pow h (Nat.pow_lt_pow_right (by decide) hv)
theorem place_nx {P tk b a k : Nat} (t : Tk y n b a k S M) (hk : k = 2) (h : PdR P tk S M) (f : Nat) : ∃ S' M', F_Rd_readPlace S = some ((), S') ∧ pC S S' ∧ pM M M' ∧
    ((∃ b' a' k' tk', F_m_readPond_24 (f + 1) M = F_m_readPond_24 f M' ∧ b < b' ∧ Tk y n b' a' k' S' M' ∧ PdR P tk' S' M') ∨ (F_m_readPond_24 (f + 1) M = some ((), M') ∧ Dd S' M')) := by
  have hba := t.ba
  obtain ⟨h1, h2, h3, h4, h5, h6⟩ := h
  have p60 : 2 ^ P ≤ 2 ^ 60 := Nat.pow_le_pow_right (by decide) h1.2
  have hP : nI P - (1 : Int32) = nI (P - 1) := sub_nI (b := 1) (by omega)
  have e12 : gi S 12 = 2 := by
    obtain ⟨_, _, _, _, _, _, _, _, _, t10, _⟩ := t
    rw [t10, hk]; rfl
  have hh2 : gi M 1006 = 2 ∧ b < a ∧ gi S 16 = nI (a - b) ∧ (a - b ≤ 4 → ∃ v, v ≤ 9999 ∧ gi S 15 = nI v ∧ gi M 1007 = nI v) := by
    obtain ⟨_, _, _, _, _, _, _, _, _, _, _, _, t13⟩ := t
    rcases t13 with w | w | w | w
    · omega
    · omega
    · exact w.2
    · omega
  obtain ⟨e6, e7, e16, ev⟩ := hh2
  have bad : (a - b ≤ 4 → ∀ v, gi S 15 = nI v → v ≤ 9999 → P - 1 < v) → F_Rd_readPlace S = F_Rd_readPlace_54 S → ∃ S' M', F_Rd_readPlace S = some ((), S') ∧ pC S S' ∧ pM M M' ∧
    ((∃ b' a' k' tk', F_m_readPond_24 (f + 1) M = F_m_readPond_24 f M' ∧ b < b' ∧ Tk y n b' a' k' S' M' ∧ PdR P tk' S' M') ∨ (F_m_readPond_24 (f + 1) M = some ((), M') ∧ Dd S' M')) := by
    intro hb h54
    obtain ⟨r, S1, M1, p1, p2, p3, p4, p5⟩ := nn_bad t hk (hi := P - 1) (by omega) hb
    refine ⟨S1, M1, ?_, p3.e.p, p4.e.p, Or.inr ⟨?_, p5⟩⟩
    · rw [h54]
      unfold F_Rd_readPlace_54
      rw [h3, hP, p1, b2_s, if_neg p5.c]
    · rw [F_m_readPond_24, if_pos t.m10, if_pos e6, show ai M 1003 (Int32.toNatClampNeg 4) = nI P from h4, hP, p2, b2_s, if_neg p5.m]
      unfold F_m_readPond_78
      rw [if_neg p5.m]
  by_cases w : a - b ≤ 4
  · obtain ⟨v, v1, v2, v3⟩ := ev w
    by_cases u : v < P
    · obtain ⟨g1, g2⟩ := nn_good t hk (hi := P - 1) (by omega) w v2 v3 (by omega)
      have ePl : F_Rd_readPlace S = if nI (tk / 2 ^ v % 2) = 1 then b2 (F_Rd_fail 4 S) (fun _ S5 => some ((), S5)) else F_Rd_readPlace_54 S := by
        unfold F_Rd_readPlace
        rw [if_pos e12, e16, (show (4 : Int32) = nI 4 from rfl), if_neg (show ¬ nI 4 < nI (a - b) by rw [lt_nI (by decide) (by omega)]; omega), h3, v2, if_neg (nI_ge u (by omega)), h5, bitC_ok (by omega) (by omega), b1_s]
      have eM4 : F_m_readPond_24 (f + 1) M = if lN (tk / 2 ^ v % 2) = 1 then b2 (F_m_wrong 4 M) (fun _ M6 => F_m_readPond_78 (F_m_readPond_24 f) (nI v) M6) else F_m_readPond_78 (F_m_readPond_24 f) (nI v) M := by
        rw [F_m_readPond_24, if_pos t.m10, if_pos e6, show ai M 1003 (Int32.toNatClampNeg 4) = nI P from h4, hP, g2, b2_s, if_pos t.m10, h6, bitM_ok (by omega) (by omega)]
      have hr : tk / 2 ^ v % 2 < 2 := Nat.mod_lt _ (by decide)
      by_cases z : tk / 2 ^ v % 2 = 1
      · obtain ⟨S1, M1, p1, p2, p3, p4, p5⟩ := t.bad (e := 4) (by decide) (by decide)
        refine ⟨S1, M1, ?_, p3.e.p, p4.e.p, Or.inr ⟨?_, p5⟩⟩
        · rw [ePl, z, if_pos (show nI 1 = 1 from rfl), (show (4 : Int32) = nI 4 from rfl), p1, b2_s]
        · rw [eM4, z, if_pos (show lN 1 = 1 from rfl), (show (4 : Int32) = nI 4 from rfl), p2, b2_s]
          unfold F_m_readPond_78
          rw [if_neg p5.m]
      · have z0 : tk / 2 ^ v % 2 = 0 := by omega
        have f1 : Fr [] [1002] [] [] [] M (sl M 1002 (lN (tk ||| 2 ^ v))) := Fr.rfl.sl (by decide)
        have t1 : Tk y n b a k S (sl M 1002 (lN (tk ||| 2 ^ v))) := t.fr (Fr.rfl (a := []) (b := []) (c := []) (d := []) (e := [])) f1 (by decide) (by decide) (by decide) (by decide)
        obtain ⟨b2', a2, k2, S2, M2, w1, w2, w3, w4, w5, w6⟩ := t1.go
        have f2 : Fr [] [6] [] [] [] S2 (sl S2 6 (lN (tk ||| 2 ^ v))) := Fr.rfl.sl (by decide)
        have e62 : gl S2 6 = lN tk := by rw [w3.gl 6 (by decide)]; exact h5
        refine ⟨sl S2 6 (lN (tk ||| 2 ^ v)), M2, ?_, w3.e.p.trans (f2.mono (by decide) (by decide) (by decide) (by decide) (by decide)), (f1.mono (by decide) (by decide) (by decide) (by decide) (by decide)).trans w4.e.p, Or.inl ⟨b2', a2, k2, tk ||| 2 ^ v, ?_, by omega, ?_, ?_⟩⟩
        · rw [ePl, z0, if_neg (show ¬ nI 0 = 1 by decide)]
          unfold F_Rd_readPlace_54
          rw [h3, hP, g1, w1, b2_s, b2_s, if_pos w6.c9, e62, shl1 (by omega), fb_orL]
        · rw [eM4, z0, if_neg (show ¬ lN 0 = 1 by decide)]
          unfold F_m_readPond_78
          rw [if_pos t.m10, h6, shl1 (by omega), fb_orL, w2, b2_s]
        · exact w6.fr f2 (Fr.rfl (a := []) (b := []) (c := []) (d := []) (e := [])) (by decide) (by decide) (by decide) (by decide)
        · refine ⟨h1, tk_or h2 u, ?_, ?_, ?_, ?_⟩
          · rw [f2.gi 5 (by decide), w3.gi 5 (by decide)]; exact h3
          · rw [w4.ai 1003 (by decide), f1.ai 1003 (by decide)]; exact h4
          · rw [gl_sl, if_pos rfl]
          · rw [w4.gl 1002 (by decide), gl_sl, if_pos rfl]
    · refine bad (fun _ v' hv' hv9 => ?_) ?_
      · rw [v2, eq_nI (by omega) (by omega)] at hv'
        omega
      · unfold F_Rd_readPlace
        rw [if_pos e12, e16, (show (4 : Int32) = nI 4 from rfl), if_neg (show ¬ nI 4 < nI (a - b) by rw [lt_nI (by decide) (by omega)]; omega), h3, v2, if_pos (nI_le (by omega) (by omega))]
  · refine bad (fun z => absurd z w) ?_
    unfold F_Rd_readPlace
    rw [if_pos e12, e16, (show (4 : Int32) = nI 4 from rfl), if_pos (nI_lt (by omega) (by omega))]
theorem pond_lp {P : Nat} : ∀ (j f f' i b a k tk : Nat) (S M : Sto), n < b + j → j < f → j < f' → i ≤ b → Tk y n b a k S M → PdR P tk S M → ∃ S' M', F_Rd_readPond_15 f (nI i) S = some ((), S') ∧ F_m_readPond_24 f' M = some ((), M') ∧ pC S S' ∧ pM M M' ∧ ((∃ b' a' k' tk', b ≤ b' ∧ Tk y n b' a' k' S' M' ∧ PdR P tk' S' M') ∨ Dd S' M') := by
  intro j
  induction j with
  | zero =>
    intro f f' i b a k tk S M hj _ _ _ t _
    have := t.ba
    omega
  | succ j ih =>
    intro f f' i b a k tk S M hj hf hf' hi t h
    obtain ⟨f, rfl⟩ : ∃ q, f = q + 1 := ⟨f - 1, by omega⟩
    obtain ⟨f', rfl⟩ : ∃ q, f' = q + 1 := ⟨f' - 1, by omega⟩
    have hba := t.ba
    have hk3 := t.k3
    have e12 : gi S 12 = nI k := by
      obtain ⟨_, _, _, _, _, _, _, _, _, t10, _⟩ := t
      exact t10
    by_cases hk : k = 2
    · have ni : ¬ (500 : Int32) ≤ nI i := by rw [(show (500 : Int32) = nI 500 from rfl)]; exact nI_ge (by omega) (by decide)
      obtain ⟨S1, M1, p1, p2, p3, p4⟩ := place_nx t hk h f'
      rcases p4 with ⟨b1', a1, k1, tk1, q1, q2, q3, q4⟩ | ⟨q1, hD⟩
      · obtain ⟨S2, M2, z1, z2, z3, z4, z5⟩ := ih f f' (i + 1) b1' a1 k1 tk1 S1 M1 (by omega) (by omega) (by omega) (by omega) q3 q4
        refine ⟨S2, M2, ?_, by rw [q1]; exact z2, p2.trans z3, p3.trans z4, ?_⟩
        · rw [F_Rd_readPond_15, if_neg ni, if_pos t.c9, if_pos (show gi S 12 = 2 by rw [e12, hk]; rfl), p1, b2_s, show nI i + (1 : Int32) = nI (i + 1) from nI_add i 1]
          exact z1
        · rcases z5 with ⟨b5, a5, k5, tk5, v1, v2, v3⟩ | v
          · exact Or.inl ⟨b5, a5, k5, tk5, by omega, v2, v3⟩
          · exact Or.inr v
      · obtain ⟨f, rfl⟩ : ∃ q, f = q + 1 := ⟨f - 1, by omega⟩
        refine ⟨S1, M1, ?_, q1, p2, p3, Or.inr hD⟩
        rw [F_Rd_readPond_15, if_neg ni, if_pos t.c9, if_pos (show gi S 12 = 2 by rw [e12, hk]; rfl), p1, b2_s, F_Rd_readPond_15, if_neg hD.c]
        split <;> rfl
    · have n6 : ¬ gi M 1006 = 2 := by
        obtain ⟨_, _, _, _, _, _, _, _, _, _, _, _, t13⟩ := t
        rcases t13 with w | w | w | w
        · rw [w.2.1]; decide
        · rw [w.2.1]; decide
        · omega
        · rw [w.2.2.2]; split <;> decide
      refine ⟨S, M, ?_, ?_, Fr.rfl, Fr.rfl, Or.inl ⟨b, a, k, tk, Nat.le_refl _, t, h⟩⟩
      · rw [F_Rd_readPond_15, if_pos t.c9, if_neg (show ¬ gi S 12 = 2 by rw [e12, (show (2 : Int32) = nI 2 from rfl), k3I hk3 (by decide)]; exact hk)]
        split <;> rfl
      · rw [F_m_readPond_24, if_pos t.m10, if_neg n6]
/-- 'pond' -/
theorem pond_nx {P tk b a k : Nat} {pt pd rt : Bool} (t : Tk y n b a k S M) (hk : k = 1) (h : PlcR P tk pt pd rt S M) (hw : F_m_which_1000_1001 M = some (-1)) :
    ∃ S' M', F_Rd_readPond S = some ((), S') ∧ F_m_readLine_43 (nI (sn pt pd rt)) 2 M = F_m_readLine_156 (nI (sn pt pd rt)) 2 M' ∧ Fr [8, 9, 11, 12, 13, 14, 15, 16, 18] [6] [] [] [] S S' ∧ pM M M' ∧
      ((∃ b' a' k' tk', b < b' ∧ Tk y n b' a' k' S' M' ∧ PlcR P tk' pt true rt S' M') ∨ Dd S' M') := by
  have hba := t.ba
  obtain ⟨h1, h2, h3, h4, h5, h6, h7, h8, h9, h10⟩ := h
  have f0 : Fr [18] [] [] [] [] S (si S 18 1) := Fr.rfl.si (by decide)
  have t0 : Tk y n b a k (si S 18 1) M := t.fr f0 (Fr.rfl (a := []) (b := []) (c := []) (d := []) (e := [])) (by decide) (by decide) (by decide) (by decide)
  obtain ⟨b1', a1, k1, S1, M1, g1, g2, g3, g4, g5, g6⟩ := t0.go
  have hb1 := g6.ba
  have pR : PdR P tk S1 M1 := by
    refine ⟨h1, h2, ?_, ?_, ?_, ?_⟩
    · rw [g3.gi 5 (by decide), f0.gi 5 (by decide)]; exact h4
    · rw [g4.ai 1003 (by decide)]; exact h5
    · rw [g3.gl 6 (by decide), f0.gl 6 (by decide)]; exact h6
    · rw [g4.gl 1002 (by decide)]; exact h7
  have c1 : Fr [8, 9, 11, 12, 13, 14, 15, 16, 18] [6] [] [] [] S S1 := (f0.mono (by decide) (by decide) (by decide) (by decide) (by decide)).trans (g3.mono (by decide) (by decide) (by decide) (by decide) (by decide))
  have e18 : gi S1 18 = bI true := by rw [g3.gi 18 (by decide)]; rfl
  have back : ∀ {S2 M2 : Sto} {b2 a2 k2 tk2 : Nat}, pC S1 S2 → b1' ≤ b2 → Tk y n b2 a2 k2 S2 M2 → PdR P tk2 S2 M2 → ∃ b' a' k' tk', b < b' ∧ Tk y n b' a' k' S2 M2 ∧ PlcR P tk' pt true rt S2 M2 := by
    intro S2 M2 b2 a2 k2 tk2 fr hb2 t2 p2
    obtain ⟨r1, r2, r3, r4, r5, r6⟩ := p2
    refine ⟨b2, a2, k2, tk2, by omega, t2, r1, r2, fun w => absurd w (by decide), r3, r4, r5, r6, ?_, ?_, ?_⟩
    · rw [fr.gi 17 (by decide), c1.gi 17 (by decide)]; exact h8
    · rw [fr.gi 18 (by decide)]; exact e18
    · rw [fr.gi 2 (by decide), c1.gi 2 (by decide)]; exact h10
  unfold F_Rd_readPond F_m_readLine_43
  rw [hw, b1_s, if_pos (sn_2 pt pd rt).1]
  unfold F_m_readLine_66 F_m_readLine_83
  rw [if_neg (by decide), if_pos rfl, if_pos rfl, g1, b2_s]
  unfold F_m_readPond
  rw [g2, b2_s, if_pos g6.m10]
  by_cases hk1 : k1 = 2
  · have e6 : gi M1 1006 = 2 := by
      obtain ⟨_, _, _, _, _, _, _, _, _, _, _, _, t13⟩ := g6
      rcases t13 with w | w | w | w
      · omega
      · omega
      · exact w.2.1
      · omega
    obtain ⟨S2, M2, p1, p2, p3, p4⟩ := place_nx g6 hk1 pR 1099511627775
    rw [if_pos e6, p1, b2_s]
    rcases p4 with ⟨b2', a2, k2, tk2, q1, q2, q3, q4⟩ | ⟨q1, hD⟩
    · obtain ⟨S3, M3, z1, z2, z3, z4, z5⟩ := pond_lp (n + 1) FU 1099511627775 0 b2' a2 k2 tk2 S2 M2 (by omega) (by rw [FU_v]; omega) (by omega) (Nat.zero_le _) q3 q4
      refine ⟨S3, M3, z1, ?_, c1.trans ((p2.trans z3).mono (by decide) (by decide) (by decide) (by decide) (by decide)), (g4.e.p.trans p3).trans z4, ?_⟩
      · refine (congrArg (fun z => b2 z _) (q1.trans z2)).trans ?_
        rw [b2_s]
      · rcases z5 with ⟨b5, a5, k5, tk5, v1, v2, v3⟩ | v
        · exact Or.inl (back (p2.trans z3) (by omega) v2 v3)
        · exact Or.inr v
    · refine ⟨S2, M2, ?_, ?_, c1.trans (p2.mono (by decide) (by decide) (by decide) (by decide) (by decide)), g4.e.p.trans p3, Or.inr hD⟩
      · rw [show FU = 1099511627775 + 1 from rfl, F_Rd_readPond_15, if_neg (by decide), if_neg hD.c]
      · refine (congrArg (fun z => b2 z _) q1).trans ?_
        rw [b2_s]
  · have n6 : ¬ gi M1 1006 = 2 := by
      obtain ⟨_, _, _, _, _, _, _, _, _, _, _, _, t13⟩ := g6
      rcases t13 with w | w | w | w
      · rw [w.2.1]; decide
      · rw [w.2.1]; decide
      · omega
      · rw [w.2.2.2]; split <;> decide
    have e12 : gi S1 12 = nI k1 := by
      obtain ⟨_, _, _, _, _, _, _, _, _, t10, _⟩ := g6
      exact t10
    have n12 : ¬ gi S1 12 = 2 := by rw [e12, (show (2 : Int32) = nI 2 from rfl), k3I g6.k3 (by decide)]; exact hk1
    obtain ⟨S2, M2, p1, p2, p3, p4, p5⟩ := g6.bad (e := 1) (by decide) (by decide)
    refine ⟨S2, M2, ?_, ?_, c1.trans (p3.mono (by decide) (by decide) (by decide) (by decide) (by decide)), g4.e.p.trans p4.e.p, Or.inr p5⟩
    · unfold F_Rd_readPlace
      rw [if_neg n12]
      unfold F_Rd_readPlace_54 F_Rd_expectNumber
      rw [if_neg n12, show F_Rd_fail 1 S1 = some ((), S2) from p1, b2_s]
      unfold F_Rd_expectNumber_45
      rw [if_neg p5.c, b2_s, if_neg p5.c, b2_s, show FU = 1099511627775 + 1 from rfl, F_Rd_readPond_15, if_neg (by decide), if_neg p5.c]
    · rw [if_neg n6, show F_m_wrong 1 M1 = some ((), M2) from p2, b2_s, show FU = 1099511627775 + 1 from rfl, F_m_readPond_24, if_neg p5.m, b2_s]
/-- 'spawns' -/
theorem spawns_nx {P tk b a k s d : Nat} {pt pd : Bool} (t : Tk y n b a k S M) (hk : k = 1) (h : PlcR P tk pt pd (decide (s ≠ 0)) S M) (hR : RuR s d S M) (hw : F_m_which_1000_1001 M = some (-1)) :
    ∃ S' M', F_Rd_readSpawns S = some ((), S') ∧ F_m_readLine_43 (nI (sn pt pd (decide (s ≠ 0)))) 4 M = F_m_readLine_156 (nI (sn pt pd (decide (s ≠ 0)))) 4 M' ∧ Fr [1, 2, 3, 8, 9, 11, 12, 13, 14, 15, 16] [] [10, 11] [] [] S S' ∧ xM M M' ∧
      ((∃ b' a' k' s', b < b' ∧ s' ≤ b' ∧ s' ≠ 0 ∧ Tk y n b' a' k' S' M' ∧ PlcR P tk pt pd true S' M' ∧ RuR s' 1 S' M') ∨ Dd S' M') := by
  have hba := t.ba
  have h' := h
  obtain ⟨h1, h2, h3, h4, h5, h6, h7, h8, h9, h10⟩ := h
  obtain ⟨s4, _⟩ := sn_4 pt pd (decide (s ≠ 0))
  unfold F_Rd_readSpawns F_m_readLine_43
  rw [hw, b1_s, h10]
  by_cases hs : s = 0
  · have d0 : decide (s ≠ 0) = false := decide_eq_false (fun w => w hs)
    rw [if_pos (bF d0), if_pos (s4.mpr d0)]
    unfold F_m_readLine_66 F_m_readLine_83
    rw [if_neg (by decide), if_pos rfl, if_neg (by decide), if_neg (by decide)]
    unfold F_m_readLine_117 F_m_readLine_128 F_m_readLine_146
    have f0 : Fr [2] [] [] [] [] S (si S 2 1) := Fr.rfl.si (by decide)
    have t0 : Tk y n b a k (si S 2 1) M := t.fr f0 (Fr.rfl (a := []) (b := []) (c := []) (d := []) (e := [])) (by decide) (by decide) (by decide) (by decide)
    obtain ⟨b1', a1, k1, S1, M1, g1, g2, g3, g4, g5, g6⟩ := t0.go
    have R1 : RuR s d S1 M1 := (hR.fr f0 (Fr.rfl (a := []) (b := []) (c := []) (d := []) (e := [])) (by decide) (by decide) (by decide)).e g3.e g4.e
    have hd : d = 0 := by
      obtain ⟨_, _, c, _, _, c5⟩ := hR
      rw [hs] at c5
      exact (Option.some.inj c5).symm
    obtain ⟨S2, M2, p1, p2, p3, p4, p5⟩ := ex_ok (y := y) (n := n) 6 1 12 12 (by decide) (by decide) (by decide) (by decide) s d b1' S1 M1 ⟨⟨a1, k1, g6⟩, by omega, R1⟩ (by omega)
    rw [g1, b2_s, if_pos t.m10, g2, b2_s, if_neg (by decide), if_pos rfl]
    have fS : Fr [1, 2, 3, 8, 9, 11, 12, 13, 14, 15, 16] [] [10, 11] [] [] S S2 := ((f0.mono (by decide) (by decide) (by decide) (by decide) (by decide)).trans (g3.mono (by decide) (by decide) (by decide) (by decide) (by decide))).trans (p3.mono (by decide) (by decide) (by decide) (by decide) (by decide))
    have fM' : xM M M2 := g4.e.x.trans p4
    refine ⟨S2, M2, ?_, ?_, fS, fM', ?_⟩
    · refine (congrArg (fun z => b2 z _) p1).trans ?_
      rw [b2_s]
    · refine (congrArg (fun z => b2 z _) p2).trans ?_
      rw [b2_s]
    · rcases p5 with ⟨s', b', ⟨⟨a3, k3, x1⟩, x2, x3⟩, x4, x5⟩ | v
      · refine Or.inl ⟨b', a3, k3, s', by omega, x2, ?_, x1, ?_, by rw [hd] at x3; exact x3⟩
        · intro w
          obtain ⟨_, _, c, _, _, c5⟩ := x3
          rw [w, hd] at c5
          exact absurd (Option.some.inj c5) (by decide)
        · refine ⟨h1, h2, h3, ?_, ?_, ?_, ?_, ?_, ?_, ?_⟩
          · rw [fS.gi 5 (by decide)]; exact h4
          · rw [fM'.2.1 4 (by decide)]; exact h5
          · rw [fS.gl 6 (by decide)]; exact h6
          · rw [fM'.1.gl 1002 (by decide)]; exact h7
          · rw [fS.gi 17 (by decide)]; exact h8
          · rw [fS.gi 18 (by decide)]; exact h9
          · rw [p3.gi 2 (by decide), g3.gi 2 (by decide)]; rfl
      · exact Or.inr v
  · have d1 : decide (s ≠ 0) = true := decide_eq_true hs
    obtain ⟨S1, M1, p1, p2, p3, p4, p5⟩ := t.bad (e := 5) (by decide) (by decide)
    rw [if_neg (bT d1), if_neg (fun w => by rw [d1] at s4; exact absurd (s4.mp (by rw [d1] at w; exact w)) (by decide))]
    refine ⟨S1, M1, ?_, ?_, p3.mono (by decide) (by decide) (by decide) (by decide) (by decide), p4.e.x, Or.inr p5⟩
    · rw [(show (5 : Int32) = nI 5 from rfl), p1, b2_s]
    · rw [show F_m_wrong 5 M = some ((), M1) from p2, b2_s]
      unfold F_m_readLine_66 F_m_readLine_83
      rw [if_neg (by decide), if_pos rfl, if_neg (by decide), if_neg (by decide)]
      unfold F_m_readLine_117 F_m_readLine_128 F_m_readLine_146
      rw [if_neg p5.m, if_neg (by decide), if_pos rfl]
      refine (congrArg (fun z => b2 z _) (md_expr p5.m 11 0)).trans ?_
      rw [b2_s]
/-- a word, or what it is, that begins no line -/
theorem none_nx {b a k : Nat} {pt pd rt : Bool} (t : Tk y n b a k S M) (hw : F_m_which_1000_1001 M = some (-1)) :
    ∃ S' M', F_Rd_fail 1 S = some ((), S') ∧ F_m_readLine_43 (nI (sn pt pd rt)) 0 M = F_m_readLine_156 (nI (sn pt pd rt)) 0 M' ∧ eC S S' ∧ eM M M' ∧ Dd S' M' := by
  obtain ⟨S1, M1, p1, p2, p3, p4, p5⟩ := t.bad (e := 1) (by decide) (by decide)
  refine ⟨S1, M1, p1, ?_, p3.e, p4.e, p5⟩
  unfold F_m_readLine_43
  rw [hw, b1_s, if_pos (sn_0 pt pd rt).1]
  unfold F_m_readLine_66 F_m_readLine_83
  rw [if_neg (by decide), if_pos rfl, if_neg (by decide), if_pos rfl, show F_m_wrong 1 M = some ((), M1) from p2, b2_s]
  unfold F_m_readLine_117 F_m_readLine_128 F_m_readLine_146
  rw [if_neg p5.m, if_neg (by decide), if_neg (by decide)]
end
