/-! ===== an expression of the rule ===== -/
theorem dep_cong {c d : Nat → Nat} : ∀ (n : Nat), (∀ i, i < n → c i = d i) → dep c n = dep d n := by
  intro n
  induction n with
  | zero => intro _; rfl
  | succ n ih =>
    intro h
    rw [dep, dep, ih (fun i hi => h i (by omega)), h n (by omega)]
abbrev xC (S T : Sto) : Prop := Fr [1, 3, 8, 9, 11, 12, 13, 14, 15, 16] [] [10, 11] [] [] S T
def xM (M T : Sto) : Prop := Fr [1004, 1006, 1007, 1008, 1009, 1010, 1011] [] [1003, 1007] [] [] M T ∧ (∀ i, i ≠ 5 → ai T 1003 i = ai M 1003 i) ∧ ∀ i, i < 500 → ai T 1007 i = ai M 1007 i
theorem eC.x {S T : Sto} (h : eC S T) : xC S T := h.mono (by decide) (by decide) (by decide) (by decide) (by decide)
theorem eM.x {S T : Sto} (h : eM S T) : xM S T := by
  refine ⟨h.mono (by decide) (by decide) (by decide) (by decide) (by decide), fun i _ => ?_, fun i _ => ?_⟩
  · rw [h.ai 1003 (by decide)]
  · rw [h.ai 1007 (by decide)]
theorem xM.trans {S T U : Sto} (h : xM S T) (g : xM T U) : xM S U := ⟨h.1.trans g.1, fun i hi => (g.2.1 i hi).trans (h.2.1 i hi), fun i hi => (g.2.2 i hi).trans (h.2.2 i hi)⟩
theorem xM.rfl {S : Sto} : xM S S := ⟨Fr.rfl, fun _ _ => Eq.refl _, fun _ _ => Eq.refl _⟩
abbrev aC (S T : Sto) : Prop := Fr [1, 3] [] [10, 11] [] [] S T
def aM (M T : Sto) : Prop := Fr [] [] [1003, 1007] [] [] M T ∧ (∀ i, i ≠ 5 → ai T 1003 i = ai M 1003 i) ∧ ∀ i, i < 500 → ai T 1007 i = ai M 1007 i
theorem aC.x {S T : Sto} (h : aC S T) : xC S T := h.mono (by decide) (by decide) (by decide) (by decide) (by decide)
theorem aM.x {S T : Sto} (h : aM S T) : xM S T := ⟨h.1.mono (by decide) (by decide) (by decide) (by decide) (by decide), h.2⟩
/-- the rule so far: s steps, d rows in use behind them -/
def RuR (s d : Nat) (S M : Sto) : Prop := gi S 1 = nI s ∧ ai M 1003 5 = nI s ∧ ∃ c : Nat → Nat × Nat, (∀ i, i < s → ai S 10 i = nI (c i).1 ∧ ai S 11 i = nI (c i).2 ∧ ai M 1007 (500 + i) = sgn (c i).1 (c i).2 ∧ (c i).1 ≤ 16 ∧ (c i).2 ≤ 9999) ∧ gi S 3 = bI (decide (∃ i, i < s ∧ (c i).1 = 5)) ∧ dep (fun i => (c i).1) s = some d
theorem RuR.fr {c1 c2 c3 c4 c5 d1 d2 d3 d4 d5 : List Nat} {s d : Nat} {S M T U : Sto} (h : RuR s d S M) (q : Fr c1 c2 c3 c4 c5 S T) (r : Fr d1 d2 d3 d4 d5 M U) (h1 : 1 ∉ c1 ∧ 3 ∉ c1) (h2 : 10 ∉ c3 ∧ 11 ∉ c3) (h3 : 1003 ∉ d3 ∧ 1007 ∉ d3) : RuR s d T U := by
  unfold RuR at h ⊢
  rw [q.gi 1 h1.1, r.ai 1003 h3.1, q.ai 10 h2.1, q.ai 11 h2.2, r.ai 1007 h3.2, q.gi 3 h1.2]
  exact h
theorem RuR.e {s d : Nat} {S M T U : Sto} (h : RuR s d S M) (q : eC S T) (r : eM M U) : RuR s d T U := h.fr q r (by decide) (by decide) (by decide)
theorem add_c {s : Nat} {S : Sto} (h1 : gi S 1 = nI s) (hs : s < 500) {w : Bool} (h3 : gi S 3 = bI w) (x1 x2 : Int32) : F_Ru_add x1 x2 S = some ((), si (si (ui (ui S 10 (upd (ai S 10) s x1)) 11 (upd (ai S 11) s x2)) 1 (nI (s + 1))) 3 (bI (w || decide (x1 = 5)))) := by
  unfold F_Ru_add
  simp only [gi_ui, h1]
  rw [if_neg (nI_pos (by omega)), (show (500 : Int32) = nI 500 from rfl), if_neg (nI_ge hs (by decide)), ck_t (ib_nI hs (by omega)), ck_t (ib_nI hs (by omega)), nI_clamp (by omega), show nI s + (1 : Int32) = nI (s + 1) from nI_add s 1]
  show (if gi S 3 = 0 then if x1 = 5 then F_Ru_add_60 (si (ui (ui S 10 (upd (ai S 10) s x1)) 11 (upd (ai S 11) s x2)) 1 (nI (s + 1))) else F_Ru_add_65 0 (si (ui (ui S 10 (upd (ai S 10) s x1)) 11 (upd (ai S 11) s x2)) 1 (nI (s + 1))) else F_Ru_add_60 (si (ui (ui S 10 (upd (ai S 10) s x1)) 11 (upd (ai S 11) s x2)) 1 (nI (s + 1)))) = _
  generalize si (ui (ui S 10 (upd (ai S 10) s x1)) 11 (upd (ai S 11) s x2)) 1 (nI (s + 1)) = E
  have e60 : F_Ru_add_60 E = some ((), si E 3 (bI true)) := by
    unfold F_Ru_add_60 F_Ru_add_65
    rw [ck_t (by decide)]
    rfl
  have e65 : F_Ru_add_65 0 E = some ((), si E 3 (bI false)) := by
    unfold F_Ru_add_65
    rw [ck_t (by decide)]
    rfl
  rw [h3, e60, e65]
  cases w
  · rw [if_pos (show bI false = 0 from rfl), Bool.false_or]
    by_cases q : x1 = 5
    · rw [if_pos q, decide_eq_true q]
    · rw [if_neg q, decide_eq_false q]
  · rw [if_neg (show ¬ bI true = 0 by decide), Bool.true_or]
theorem add_t (x1 x2 : Int32) (S : Sto) : ∃ T, F_Ru_add x1 x2 S = some ((), T) ∧ aC S T := by
  unfold F_Ru_add
  simp only [gi_ui]
  by_cases q : gi S 1 < 0
  · exact ⟨S, by rw [if_pos q], Fr.rfl⟩
  · rw [if_neg q]
    by_cases w : (500 : Int32) ≤ gi S 1
    · exact ⟨S, by rw [if_pos w], Fr.rfl⟩
    · rw [if_neg w]
      obtain ⟨s, s1, s2⟩ := nI_of q
      have hs : s < 500 := by
        rw [s2, (show (500 : Int32) = nI 500 from rfl), le_nI (by decide) s1] at w
        omega
      rw [ck_t (by rw [s2]; exact ib_nI hs (by omega)), ck_t (by rw [s2]; exact ib_nI hs (by omega))]
      have fE : aC S (si (ui (ui S 10 (upd (ai S 10) (gi S 1).toNatClampNeg x1)) 11 (upd (ai S 11) (gi S 1).toNatClampNeg x2)) 1 (gi S 1 + 1)) := ((Fr.rfl.ui (by decide)).ui (by decide)).si (by decide)
      show ∃ T, (if gi S 3 = 0 then if x1 = 5 then F_Ru_add_60 (si (ui (ui S 10 (upd (ai S 10) (gi S 1).toNatClampNeg x1)) 11 (upd (ai S 11) (gi S 1).toNatClampNeg x2)) 1 (gi S 1 + 1)) else F_Ru_add_65 0 (si (ui (ui S 10 (upd (ai S 10) (gi S 1).toNatClampNeg x1)) 11 (upd (ai S 11) (gi S 1).toNatClampNeg x2)) 1 (gi S 1 + 1)) else F_Ru_add_60 (si (ui (ui S 10 (upd (ai S 10) (gi S 1).toNatClampNeg x1)) 11 (upd (ai S 11) (gi S 1).toNatClampNeg x2)) 1 (gi S 1 + 1))) = some ((), T) ∧ aC S T
      generalize si (ui (ui S 10 (upd (ai S 10) (gi S 1).toNatClampNeg x1)) 11 (upd (ai S 11) (gi S 1).toNatClampNeg x2)) 1 (gi S 1 + 1) = E at fE ⊢
      have e60 : F_Ru_add_60 E = some ((), si E 3 1) := by
        unfold F_Ru_add_60 F_Ru_add_65
        rw [ck_t (by decide)]
      have e65 : F_Ru_add_65 0 E = some ((), si E 3 0) := by
        unfold F_Ru_add_65
        rw [ck_t (by decide)]
      rw [e60, e65]
      split
      · split
        · exact ⟨_, rfl, fE.si (by decide)⟩
        · exact ⟨_, rfl, fE.si (by decide)⟩
      · exact ⟨_, rfl, fE.si (by decide)⟩
theorem lay_m {s : Nat} {M : Sto} (h10 : gi M 1010 = 0) (h5 : ai M 1003 5 = nI s) (hs : s < 500) (x : Int32) : F_m_lay x M = some ((), ui (ui M 1007 (upd (ai M 1007) (500 + s) x)) 1003 (upd (ai M 1003) 5 (nI (s + 1)))) := by
  unfold F_m_lay
  have e : ∀ f, ai (ui M 1007 f) 1003 (Int32.toNatClampNeg 5) = nI s := fun f => h5
  rw [if_pos h10, e, show ai M 1003 (Int32.toNatClampNeg 5) = nI s from h5, (show (500 : Int32) = nI 500 from rfl), nI_add, ck_t (ib_nI (by omega) (by omega)), nI_clamp (by omega), show nI s + (1 : Int32) = nI (s + 1) from nI_add s 1]
  rfl
def exF (f : Nat → Nat × Nat) (s : Nat) (x : Nat × Nat) : Nat → Nat × Nat := fun i => if i = s then x else f i
theorem exF_s (f : Nat → Nat × Nat) (s : Nat) (x : Nat × Nat) : exF f s x s = x := if_pos rfl
theorem exF_n {f : Nat → Nat × Nat} {s i : Nat} {x : Nat × Nat} (h : ¬ i = s) : exF f s x i = f i := if_neg h
def dstep (c d : Nat) : Option Nat := if c < 8 then (if d < 32 then some (d + 1) else none) else if c = 8 then (if 0 < d then some d else none) else (if 1 < d then some (d - 1) else none)
theorem add_ok {s d d' c v : Nat} {S M : Sto} (h : RuR s d S M) (h10 : gi M 1010 = 0) (hs : s < 500) (hc : c ≤ 16) (hv : v ≤ 9999) (hd : dstep c d = some d') : ∃ S' M', F_Ru_add (nI c) (nI v) S = some ((), S') ∧ F_m_lay (sgn c v) M = some ((), M') ∧ aC S S' ∧ aM M M' ∧ RuR (s + 1) d' S' M' := by
  obtain ⟨a1, a2, f, a3, a4, a5⟩ := h
  refine ⟨_, _, add_c a1 hs a4 _ _, lay_m h10 a2 hs _, (((Fr.rfl.ui (by decide)).ui (by decide)).si (by decide)).si (by decide), ⟨(Fr.rfl.ui (by decide)).ui (by decide), fun i hi => ?_, fun i hi => ?_⟩, rfl, ?_, exF f s (c, v), fun i hi => ?_, ?_, ?_⟩
  · show upd (ai M 1003) 5 (nI (s + 1)) i = _
    rw [upd_at, if_neg hi]
  · show upd (ai M 1007) (500 + s) (sgn c v) i = _
    rw [upd_at, if_neg (by omega)]
  · show upd (ai M 1003) 5 (nI (s + 1)) 5 = _
    rw [upd_at, if_pos rfl]
  · show upd (ai S 10) s (nI c) i = _ ∧ upd (ai S 11) s (nI v) i = _ ∧ upd (ai M 1007) (500 + s) (sgn c v) (500 + i) = _ ∧ _
    rw [upd_at, upd_at, upd_at]
    by_cases q : i = s
    · subst q
      rw [exF_s, if_pos rfl, if_pos rfl, if_pos rfl]
      exact ⟨rfl, rfl, rfl, hc, hv⟩
    · rw [exF_n q, if_neg q, if_neg q, if_neg (by omega)]
      exact a3 i (by omega)
  · show bI _ = bI _
    rw [bI_inj, Bool.eq_iff_iff, Bool.or_eq_true, decide_eq_true_iff, decide_eq_true_iff, decide_eq_true_iff, (show (5 : Int32) = nI 5 from rfl), eq_nI (by omega) (by decide)]
    constructor
    · rintro (⟨i, i1, i2⟩ | w)
      · refine ⟨i, by omega, ?_⟩
        rw [exF_n (by omega)]
        exact i2
      · refine ⟨s, by omega, ?_⟩
        rw [exF_s]
        exact w
    · rintro ⟨i, i1, i2⟩
      by_cases q : i = s
      · rw [q, exF_s] at i2
        exact Or.inr i2
      · rw [exF_n q] at i2
        exact Or.inl ⟨i, by omega, i2⟩
  · rw [dep, dep_cong (c := fun i => (exF f s (c, v) i).1) (d := fun i => (f i).1) s (fun i hi => by rw [exF_n (by omega)]), a5, exF_s]
    exact hd
section
variable {y : Nat → Nat} {n : Nat}
def XP (y : Nat → Nat) (n s d b : Nat) (S M : Sto) : Prop := (∃ a k, Tk y n b a k S M) ∧ s ≤ b ∧ RuR s d S M
def Ou (y : Nat → Nat) (n s d b : Nat) (S M : Sto) : Prop := (∃ s' b', XP y n s' d b' S M ∧ s' + b ≤ s + b' ∧ b < b') ∨ Dd S M
def Sm (y : Nat → Nat) (n q : Nat) (f g : Sto → Option (Unit × Sto)) : Prop := ∀ s d b S M, XP y n s d b S M → d ≤ q → ∃ S' M', f S = some ((), S') ∧ g M = some ((), M') ∧ xC S S' ∧ xM M M' ∧ Ou y n s (d + 1) b S' M'
theorem XP.b5 {s d b : Nat} {S M : Sto} (h : XP y n s d b S M) : s ≤ b ∧ b ≤ n ∧ n ≤ 500 := by
  obtain ⟨⟨a, k, t⟩, h2, _⟩ := h
  have := t.ba
  omega
theorem Tk.m10 {b a k : Nat} {S M : Sto} (h : Tk y n b a k S M) : gi M 1010 = 0 := h.2.2.2.1
theorem Tk.c9 {b a k : Nat} {S M : Sto} (h : Tk y n b a k S M) : gi S 9 = 0 := h.2.2.1
theorem Tk.a {b a k : Nat} {S M T U : Sto} (h : Tk y n b a k S M) (q : aC S T) (r : aM M U) : Tk y n b a k T U := h.fr q r.1 (by decide) (by decide) (by decide) (by decide)
/-! a step that is added behind a part -/
theorem op_ok {s d b c d' : Nat} {S M : Sto} (h : XP y n s d b S M) (hs : s + 1 ≤ b) (hc : c ≤ 16) (hd : dstep c d = some d') : ∃ S' M', F_Ru_add (nI c) 0 S = some ((), S') ∧ F_m_lay (sgn c 0) M = some ((), M') ∧ xC S S' ∧ xM M M' ∧ XP y n (s + 1) d' b S' M' := by
  have h5 := h.b5
  obtain ⟨⟨a, k, t⟩, h2, h3⟩ := h
  obtain ⟨S', M', s1, m1, s2, m2, s3⟩ := add_ok (c := c) (v := 0) h3 t.m10 (by omega) hc (by decide) hd
  exact ⟨S', M', s1, m1, s2.x, m2.x, ⟨a, k, t.a s2 m2⟩, by omega, s3⟩
theorem add_d {S M : Sto} (h : Dd S M) (x1 x2 : Int32) : ∃ T, F_Ru_add x1 x2 S = some ((), T) ∧ xC S T ∧ Dd T M := by
  obtain ⟨T, t1, t2⟩ := add_t x1 x2 S
  exact ⟨T, t1, t2.x, h.fr t2 (Fr.rfl (a := []) (b := []) (c := []) (d := []) (e := [])) (by decide) (by decide)⟩
/-! signs between parts -/
theorem chS {c1 c2 o1 o2 u : Nat} {P P' : Sto → Option (Unit × Sto)} {G : Nat → Int32 → Sto → Option (Unit × Sto)} {G' : Nat → Sto → Option (Unit × Sto)}
    (k1 : isMk c1 = true ∧ c1 < 256) (k2 : isMk c2 = true ∧ c2 < 256) (k3 : c1 ≠ c2) (p1 : 8 < o1 ∧ o1 ≤ 16) (p2 : 8 < o2 ∧ o2 ≤ 16)
    (hG : ∀ f i S, G (f + 1) i S = if (500 : Int32) ≤ i then some ((), S) else if gi S 9 = 0 then b1 (F_Rd_isSign (nI c1) S) (fun r1 => if r1 = 0 then b1 (F_Rd_isSign (nI c2) S) (fun r3 => if r3 = 0 then some ((), S) else
      (if gi S 14 = nI c1 then b2 (F_Rd_nextToken S) (fun _ S3 => b2 (P S3) (fun _ S6 => b2 (F_Ru_add (nI o1) 0 S6) (fun _ S9 => G f (i + 1) S9))) else b2 (F_Rd_nextToken S) (fun _ S3 => b2 (P S3) (fun _ S6 => b2 (F_Ru_add (nI o2) 0 S6) (fun _ S9 => G f (i + 1) S9))))) else
      (if gi S 14 = nI c1 then b2 (F_Rd_nextToken S) (fun _ S3 => b2 (P S3) (fun _ S6 => b2 (F_Ru_add (nI o1) 0 S6) (fun _ S9 => G f (i + 1) S9))) else b2 (F_Rd_nextToken S) (fun _ S3 => b2 (P S3) (fun _ S6 => b2 (F_Ru_add (nI o2) 0 S6) (fun _ S9 => G f (i + 1) S9))))) else some ((), S))
    (hG' : ∀ f M, G' (f + 1) M = b1 (F_m_isMarked (nI c1) M) (fun r1 => if r1 = 0 then b1 (F_m_isMarked (nI c2) M) (fun r3 => if r3 = 0 then some ((), M) else
      b1 (F_m_isMarked (nI c1) M) (fun r1 => if r1 = 0 then b2 (F_m_stepOn M) (fun _ M3 => b2 (P' M3) (fun _ M6 => b2 (F_m_lay (sgn o2 0) M6) (fun _ M9 => G' f M9))) else b2 (F_m_stepOn M) (fun _ M3 => b2 (P' M3) (fun _ M6 => b2 (F_m_lay (sgn o1 0) M6) (fun _ M9 => G' f M9))))) else
      b1 (F_m_isMarked (nI c1) M) (fun r1 => if r1 = 0 then b2 (F_m_stepOn M) (fun _ M3 => b2 (P' M3) (fun _ M6 => b2 (F_m_lay (sgn o2 0) M6) (fun _ M9 => G' f M9))) else b2 (F_m_stepOn M) (fun _ M3 => b2 (P' M3) (fun _ M6 => b2 (F_m_lay (sgn o1 0) M6) (fun _ M9 => G' f M9))))))
    (hP : Sm y n (u + 1) P P') : Sm y n u (fun S => b2 (P S) (fun _ S3 => G FU 0 S3)) (fun M => b2 (P' M) (fun _ M3 => G' FU M3)) := by
  have deadC : ∀ f i S, ¬ gi S 9 = 0 → G (f + 1) i S = some ((), S) := by
    intro f i S h
    rw [hG]
    by_cases q : (500 : Int32) ≤ i
    · rw [if_pos q]
    · rw [if_neg q, if_neg h]
  have deadM : ∀ f M, ¬ gi M 1010 = 0 → G' (f + 1) M = some ((), M) := by
    intro f M h
    rw [hG', md_isM h, b1_s, if_pos (show bI false = 0 from rfl), md_isM h, b1_s, if_pos (show bI false = 0 from rfl)]
  have loop : ∀ (j f f' i s d b : Nat) (S M : Sto), n < b + j → j < f → j < f' → i ≤ b → 1 ≤ d → d ≤ u + 1 → XP y n s d b S M → ∃ S' M', G f (nI i) S = some ((), S') ∧ G' f' M = some ((), M') ∧ xC S S' ∧ xM M M' ∧ ((∃ s' b', XP y n s' d b' S' M' ∧ s' + b ≤ s + b' ∧ b ≤ b') ∨ Dd S' M') := by
    intro j
    induction j with
    | zero =>
      intro f f' i s d b S M hj _ _ _ _ _ h
      have := h.b5
      omega
    | succ j ih =>
      intro f f' i s d b S M hj hf hf' hi hd hd2 h
      obtain ⟨f, rfl⟩ : ∃ q, f = q + 1 := ⟨f - 1, by omega⟩
      obtain ⟨f', rfl⟩ : ∃ q, f' = q + 1 := ⟨f' - 1, by omega⟩
      have h5 := h.b5
      have hX := h
      obtain ⟨⟨a, k, t⟩, h2, h3⟩ := h
      have hba := t.ba
      have out : G (f + 1) (nI i) S = some ((), S) → G' (f' + 1) M = some ((), M) → ∃ S' M', G (f + 1) (nI i) S = some ((), S') ∧ G' (f' + 1) M = some ((), M') ∧ xC S S' ∧ xM M M' ∧ ((∃ s' b', XP y n s' d b' S' M' ∧ s' + b ≤ s + b' ∧ b ≤ b') ∨ Dd S' M') :=
        fun w1 w2 => ⟨S, M, w1, w2, Fr.rfl, xM.rfl, Or.inl ⟨s, b, hX, Nat.le_refl _, Nat.le_refl _⟩⟩
      have s1 := isSC t k1.2
      have s2 := isSC t k2.2
      have m1 := isSM t k1.1 k1.2
      have m2 := isSM t k2.1 k2.2
      by_cases q : sg y b k c1 = false ∧ sg y b k c2 = false
      · refine out ?_ ?_
        · rw [hG]
          by_cases w : (500 : Int32) ≤ nI i
          · rw [if_pos w]
          · rw [if_neg w, if_pos t.c9, s1, b1_s, if_pos (bF q.1), s2, b1_s, if_pos (bF q.2)]
        · rw [hG', m1, b1_s, if_pos (bF q.1), m2, b1_s, if_pos (bF q.2)]
      · have hk : k = 3 := by
          cases w1 : sg y b k c1
          · cases w2 : sg y b k c2
            · exact absurd ⟨w1, w2⟩ q
            · exact (of_decide_eq_true w2).1
          · exact (of_decide_eq_true w1).1
        have hb : b < n := by omega
        have ni : ¬ (500 : Int32) ≤ nI i := by rw [(show (500 : Int32) = nI 500 from rfl)]; exact nI_ge (by omega) (by decide)
        have e14 : gi S 14 = nI (y b) := by
          obtain ⟨_, _, _, _, _, _, _, _, _, _, _, _, t13⟩ := t
          rcases t13 with w | w | w | w
          · omega
          · omega
          · omega
          · exact w.2.2.1
        have hyb := (t.1.2.2.1 b hb).2
        obtain ⟨b2', a2, k2', S1, M1, g1, g2, g3, g4, g5, g6⟩ := t.go
        have X1 : XP y n s d b2' S1 M1 := ⟨⟨a2, k2', g6⟩, by omega, h3.e g3.e g4.e⟩
        obtain ⟨S2, M2, p1', p2', p3', p4', p5'⟩ := hP s d b2' S1 M1 X1 hd2
        have go : ∀ o, 8 < o → o ≤ 16 → ∃ S' M', b2 (F_Rd_nextToken S) (fun _ S3 => b2 (P S3) (fun _ S6 => b2 (F_Ru_add (nI o) 0 S6) (fun _ S9 => G f (nI i + 1) S9))) = some ((), S') ∧ b2 (F_m_stepOn M) (fun _ M3 => b2 (P' M3) (fun _ M6 => b2 (F_m_lay (sgn o 0) M6) (fun _ M9 => G' f' M9))) = some ((), M') ∧ xC S S' ∧ xM M M' ∧ ((∃ s' b', XP y n s' d b' S' M' ∧ s' + b ≤ s + b' ∧ b ≤ b') ∨ Dd S' M') := by
          intro o o1' o2'
          rw [g1, b2_s, p1', b2_s, g2, b2_s, p2', b2_s, show nI i + (1 : Int32) = nI (i + 1) from nI_add i 1]
          rcases p5' with ⟨s3, b3, x1, x2, x3⟩ | hD
          · obtain ⟨S3, M3, r1, r2, r3, r4, r5⟩ := op_ok (c := o) (d' := d) x1 (by omega) o2' (by
              unfold dstep
              rw [if_neg (by omega), if_neg (by omega), if_pos (by omega), Nat.add_sub_cancel])
            obtain ⟨S4, M4, z1, z2, z3, z4, z5⟩ := ih f f' (i + 1) (s3 + 1) d b3 S3 M3 (by omega) (by omega) (by omega) (by omega) hd hd2 r5
            refine ⟨S4, M4, ?_, ?_, ((g3.e.x.trans p3').trans r3).trans z3, ((g4.e.x.trans p4').trans r4).trans z4, ?_⟩
            · rw [r1, b2_s]; exact z1
            · rw [r2, b2_s]; exact z2
            · rcases z5 with ⟨s4, b4, v1, v2, v3⟩ | v
              · exact Or.inl ⟨s4, b4, v1, by omega, by omega⟩
              · exact Or.inr v
          · obtain ⟨T, d1, d2, d3⟩ := add_d hD (nI o) 0
            obtain ⟨f, rfl⟩ : ∃ q, f = q + 1 := ⟨f - 1, by omega⟩
            obtain ⟨f', rfl⟩ : ∃ q, f' = q + 1 := ⟨f' - 1, by omega⟩
            refine ⟨T, M2, ?_, ?_, (g3.e.x.trans p3').trans d2, g4.e.x.trans p4', Or.inr d3⟩
            · rw [d1, b2_s]; exact deadC _ _ _ d3.c
            · rw [md_lay hD.m, b2_s]; exact deadM _ _ hD.m
        by_cases w : y b = c1
        · have w1 : sg y b k c1 = true := decide_eq_true ⟨hk, w⟩
          rw [hG, if_neg ni, if_pos t.c9, s1, b1_s, if_neg (bT w1), if_pos (by rw [e14, w]), hG', m1, b1_s, if_neg (bT w1), b1_s, if_neg (bT w1)]
          exact go o1 p1.1 p1.2
        · have w1 : sg y b k c1 = false := decide_eq_false (fun z => w z.2)
          have w2 : sg y b k c2 = true := by
            cases z : sg y b k c2
            · exact absurd ⟨w1, z⟩ q
            · rfl
          rw [hG, if_neg ni, if_pos t.c9, s1, b1_s, if_pos (bF w1), s2, b1_s, if_neg (bT w2), if_neg (by rw [e14, eq_nI (by omega) (by omega)]; exact w), hG', m1, b1_s, if_pos (bF w1), m2, b1_s, if_neg (bT w2), b1_s, if_pos (bF w1)]
          exact go o2 p2.1 p2.2
  intro s d b S M h hd
  obtain ⟨S1, M1, p1', p2', p3', p4', p5'⟩ := hP s d b S M h (by omega)
  show ∃ S' M', b2 (P S) (fun _ S3 => G FU 0 S3) = some ((), S') ∧ b2 (P' M) (fun _ M3 => G' FU M3) = some ((), M') ∧ _
  rw [p1', b2_s, p2', b2_s]
  rcases p5' with ⟨s3, b3, x1, x2, x3⟩ | hD
  · have h5 := x1.b5
    obtain ⟨S4, M4, z1, z2, z3, z4, z5⟩ := loop (n + 1) FU FU 0 s3 (d + 1) b3 S1 M1 (by omega) (by rw [FU_v]; omega) (by rw [FU_v]; omega) (Nat.zero_le _) (by omega) (by omega) x1
    refine ⟨S4, M4, z1, z2, p3'.trans z3, p4'.trans z4, ?_⟩
    rcases z5 with ⟨s4, b4, v1, v2, v3⟩ | v
    · exact Or.inl ⟨s4, b4, v1, by omega, by omega⟩
    · exact Or.inr v
  · exact ⟨S1, M1, deadC 1099511627775 _ _ hD.c, deadM 1099511627775 _ hD.m, p3', p4', Or.inr hD⟩
/-! words between parts -/
theorem chW {p o u : Nat} {P P' : Sto → Option (Unit × Sto)} {G : Nat → Int32 → Sto → Option (Unit × Sto)} {G' : Nat → Sto → Option (Unit × Sto)}
    (k1 : 3000 ≤ p ∧ p < 3020) (p1 : 8 < o ∧ o ≤ 16)
    (hG : ∀ f i S, G (f + 1) i S = if (500 : Int32) ≤ i then some ((), S) else if gi S 9 = 0 then b1 (F_Rd_isWord p S) (fun r1 => if r1 = 0 then some ((), S) else b2 (F_Rd_nextToken S) (fun _ S3 => b2 (P S3) (fun _ S6 => b2 (F_Ru_add (nI o) 0 S6) (fun _ S9 => G f (i + 1) S9)))) else some ((), S))
    (hG' : ∀ f M, G' (f + 1) M = b1 (F_m_is p M) (fun r1 => if r1 = 0 then some ((), M) else b2 (F_m_stepOn M) (fun _ M3 => b2 (P' M3) (fun _ M6 => b2 (F_m_lay (sgn o 0) M6) (fun _ M9 => G' f M9)))))
    (hP : Sm y n (u + 1) P P') : Sm y n u (fun S => b2 (P S) (fun _ S3 => G FU 0 S3)) (fun M => b2 (P' M) (fun _ M3 => G' FU M3)) := by
  have deadC : ∀ f i S, ¬ gi S 9 = 0 → G (f + 1) i S = some ((), S) := by
    intro f i S h
    rw [hG]
    by_cases q : (500 : Int32) ≤ i
    · rw [if_pos q]
    · rw [if_neg q, if_neg h]
  have deadM : ∀ f M, ¬ gi M 1010 = 0 → G' (f + 1) M = some ((), M) := by
    intro f M h
    rw [hG', md_is h, b1_s, if_pos (show bI false = 0 from rfl)]
  have loop : ∀ (j f f' i s d b : Nat) (S M : Sto), n < b + j → j < f → j < f' → i ≤ b → 1 ≤ d → d ≤ u + 1 → XP y n s d b S M → ∃ S' M', G f (nI i) S = some ((), S') ∧ G' f' M = some ((), M') ∧ xC S S' ∧ xM M M' ∧ ((∃ s' b', XP y n s' d b' S' M' ∧ s' + b ≤ s + b' ∧ b ≤ b') ∨ Dd S' M') := by
    intro j
    induction j with
    | zero =>
      intro f f' i s d b S M hj _ _ _ _ _ h
      have := h.b5
      omega
    | succ j ih =>
      intro f f' i s d b S M hj hf hf' hi hd hd2 h
      obtain ⟨f, rfl⟩ : ∃ q, f = q + 1 := ⟨f - 1, by omega⟩
      obtain ⟨f', rfl⟩ : ∃ q, f' = q + 1 := ⟨f' - 1, by omega⟩
      have h5 := h.b5
      have hX := h
      obtain ⟨⟨a, k, t⟩, h2, h3⟩ := h
      have hba := t.ba
      have s1 := isWC t k1.1 k1.2
      have m1 := isWM t k1.1 k1.2
      cases q : tkW y b a k p
      · refine ⟨S, M, ?_, ?_, Fr.rfl, xM.rfl, Or.inl ⟨s, b, hX, Nat.le_refl _, Nat.le_refl _⟩⟩
        · rw [hG]
          by_cases w : (500 : Int32) ≤ nI i
          · rw [if_pos w]
          · rw [if_neg w, if_pos t.c9, s1, b1_s, if_pos (bF q)]
        · rw [hG', m1, b1_s, if_pos (bF q)]
      · have hk : k = 1 := (tkW_iff.mp q).1
        have hb : b < n := by omega
        have ni : ¬ (500 : Int32) ≤ nI i := by rw [(show (500 : Int32) = nI 500 from rfl)]; exact nI_ge (by omega) (by decide)
        obtain ⟨b2', a2, k2', S1, M1, g1, g2, g3, g4, g5, g6⟩ := t.go
        have X1 : XP y n s d b2' S1 M1 := ⟨⟨a2, k2', g6⟩, by omega, h3.e g3.e g4.e⟩
        obtain ⟨S2, M2, p1', p2', p3', p4', p5'⟩ := hP s d b2' S1 M1 X1 hd2
        rw [hG, if_neg ni, if_pos t.c9, s1, b1_s, if_neg (bT q), hG', m1, b1_s, if_neg (bT q), g1, b2_s, p1', b2_s, g2, b2_s, p2', b2_s, show nI i + (1 : Int32) = nI (i + 1) from nI_add i 1]
        rcases p5' with ⟨s3, b3, x1, x2, x3⟩ | hD
        · obtain ⟨S3, M3, r1, r2, r3, r4, r5⟩ := op_ok (c := o) (d' := d) x1 (by omega) p1.2 (by
            unfold dstep
            rw [if_neg (by omega), if_neg (by omega), if_pos (by omega), Nat.add_sub_cancel])
          obtain ⟨S4, M4, z1, z2, z3, z4, z5⟩ := ih f f' (i + 1) (s3 + 1) d b3 S3 M3 (by omega) (by omega) (by omega) (by omega) hd hd2 r5
          refine ⟨S4, M4, ?_, ?_, ((g3.e.x.trans p3').trans r3).trans z3, ((g4.e.x.trans p4').trans r4).trans z4, ?_⟩
          · rw [r1, b2_s]; exact z1
          · rw [r2, b2_s]; exact z2
          · rcases z5 with ⟨s4, b4, v1, v2, v3⟩ | v
            · exact Or.inl ⟨s4, b4, v1, by omega, by omega⟩
            · exact Or.inr v
        · obtain ⟨T, d1, d2, d3⟩ := add_d hD (nI o) 0
          obtain ⟨f, rfl⟩ : ∃ q, f = q + 1 := ⟨f - 1, by omega⟩
          obtain ⟨f', rfl⟩ : ∃ q, f' = q + 1 := ⟨f' - 1, by omega⟩
          refine ⟨T, M2, ?_, ?_, (g3.e.x.trans p3').trans d2, g4.e.x.trans p4', Or.inr d3⟩
          · rw [d1, b2_s]; exact deadC _ _ _ d3.c
          · rw [md_lay hD.m, b2_s]; exact deadM _ _ hD.m
  intro s d b S M h hd
  obtain ⟨S1, M1, p1', p2', p3', p4', p5'⟩ := hP s d b S M h (by omega)
  show ∃ S' M', b2 (P S) (fun _ S3 => G FU 0 S3) = some ((), S') ∧ b2 (P' M) (fun _ M3 => G' FU M3) = some ((), M') ∧ _
  rw [p1', b2_s, p2', b2_s]
  rcases p5' with ⟨s3, b3, x1, x2, x3⟩ | hD
  · have h5 := x1.b5
    obtain ⟨S4, M4, z1, z2, z3, z4, z5⟩ := loop (n + 1) FU FU 0 s3 (d + 1) b3 S1 M1 (by omega) (by rw [FU_v]; omega) (by rw [FU_v]; omega) (Nat.zero_le _) (by omega) (by omega) x1
    refine ⟨S4, M4, z1, z2, p3'.trans z3, p4'.trans z4, ?_⟩
    rcases z5 with ⟨s4, b4, v1, v2, v3⟩ | v
    · exact Or.inl ⟨s4, b4, v1, by omega, by omega⟩
    · exact Or.inr v
  · exact ⟨S1, M1, deadC 1099511627775 _ _ hD.c, deadM 1099511627775 _ hD.m, p3', p4', Or.inr hD⟩
end
