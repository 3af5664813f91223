/-! ===== lines of nets ===== -/
abbrev Nt5 : Type := Nat × Nat × Nat × Nat × Nat
def NtOk (q : Nt5) : Prop := q.1 ≤ 4 ∧ 1 ≤ q.2.1 ∧ q.2.1 ≤ 2097152 ∧ q.2.2.1 < q.2.1 ∧ 1 ≤ q.2.2.2.1 ∧ q.2.2.2.1 ≤ q.2.2.2.2 ∧ q.2.2.2.2 ≤ 1000000000000
def NtR (N : Nat) (g : Nat → Nt5) (S M : Sto) : Prop := N ≤ 8 ∧ gi S 4 = nI N ∧ ai M 1003 3 = nI N ∧ ∀ i, i < N → (ai S 4 i = nI (g i).1 ∧ al S 5 i = lN (g i).2.1 ∧ al S 6 i = lN (g i).2.2.1 ∧ al S 7 i = lN (g i).2.2.2.1 ∧ al S 8 i = lN (g i).2.2.2.2) ∧
  (ai M 1004 (8 + i) = nI (g i).1 ∧ al M 1009 (8 + i) = lN (g i).2.1 ∧ al M 1010 (8 + i) = lN (g i).2.2.1 ∧ (∃ q, q ≤ 9999 ∧ ai M 1005 (8 + i) = nI q ∧ (g i).2.2.2.1 = if q = 0 then 1 else q) ∧ (∃ q, q ≤ 9999 ∧ ai M 1006 (8 + i) = nI q ∧ (g i).2.2.2.2 = if q = 0 then 1000000000000 else q)) ∧ NtOk (g i)
abbrev ntC (S T : Sto) : Prop := Fr [4, 8, 9, 11, 12, 13, 14, 15, 16] [] [4] [5, 6, 7, 8] [] S T
def ntM (N : Nat) (M T : Sto) : Prop := Fr [1004, 1006, 1007, 1008, 1009, 1010, 1011] [] [1003, 1004, 1005, 1006] [1009, 1010] [] M T ∧ (∀ i, i ≠ 3 → ai T 1003 i = ai M 1003 i) ∧ ∀ i, i < 8 + N → ai T 1004 i = ai M 1004 i ∧ ai T 1005 i = ai M 1005 i ∧ ai T 1006 i = ai M 1006 i ∧ al T 1009 i = al M 1009 i ∧ al T 1010 i = al M 1010 i
theorem ntM.rfl {N : Nat} {M : Sto} : ntM N M M := ⟨Fr.rfl, fun _ _ => Eq.refl _, fun _ _ => ⟨Eq.refl _, Eq.refl _, Eq.refl _, Eq.refl _, Eq.refl _⟩⟩
theorem ntM.trans {N : Nat} {S T U : Sto} (h : ntM N S T) (g : ntM N T U) : ntM N S U :=
  ⟨h.1.trans g.1, fun i hi => (g.2.1 i hi).trans (h.2.1 i hi), fun i hi => ⟨(g.2.2 i hi).1.trans (h.2.2 i hi).1, (g.2.2 i hi).2.1.trans (h.2.2 i hi).2.1, (g.2.2 i hi).2.2.1.trans (h.2.2 i hi).2.2.1, (g.2.2 i hi).2.2.2.1.trans (h.2.2 i hi).2.2.2.1, (g.2.2 i hi).2.2.2.2.trans (h.2.2 i hi).2.2.2.2⟩⟩
theorem eC.n {S T : Sto} (h : eC S T) : ntC S T := h.mono (by decide) (by decide) (by decide) (by decide) (by decide)
theorem eM.n {S T : Sto} (N : Nat) (h : eM S T) : ntM N S T := by
  refine ⟨h.mono (by decide) (by decide) (by decide) (by decide) (by decide), fun i _ => ?_, fun i _ => ?_⟩
  · rw [h.ai 1003 (by decide)]
  · rw [h.ai 1004 (by decide), h.ai 1005 (by decide), h.ai 1006 (by decide), h.al 1009 (by decide), h.al 1010 (by decide)]
    exact ⟨rfl, rfl, rfl, rfl, rfl⟩
/-- a cell of the net that is being read -/
theorem nt_i {N k : Nat} {M : Sto} {x : Int32} (hk : k = 1004 ∨ k = 1005 ∨ k = 1006) : ntM N M (ui M k (upd (ai M k) (8 + N) x)) := by
  refine ⟨by rcases hk with rfl | rfl | rfl <;> exact Fr.rfl.ui (by decide), fun i _ => ?_, fun i hi => ?_⟩
  · rw [ai_ui, if_neg (by omega)]
  · rw [ai_ui, ai_ui, ai_ui]
    refine ⟨?_, ?_, ?_, rfl, rfl⟩
    · split
      · rename_i e
        rw [upd_at, if_neg (by omega), e]
      · rfl
    · split
      · rename_i e
        rw [upd_at, if_neg (by omega), e]
      · rfl
    · split
      · rename_i e
        rw [upd_at, if_neg (by omega), e]
      · rfl
theorem nt_l {N k : Nat} {M : Sto} {x : Int64} (hk : k = 1009 ∨ k = 1010) : ntM N M (ul M k (vp_updL (al M k) (8 + N) x)) := by
  refine ⟨by rcases hk with rfl | rfl <;> exact Fr.rfl.ul (by decide), fun i _ => rfl, fun i hi => ?_⟩
  rw [al_ul, al_ul]
  refine ⟨rfl, rfl, rfl, ?_, ?_⟩
  · split
    · rename_i e
      rw [updL_at, if_neg (by omega), e]
    · rfl
  · split
    · rename_i e
      rw [updL_at, if_neg (by omega), e]
    · rfl
section
variable {y : Nat → Nat} {n N : Nat} {g : Nat → Nt5} {S M T U : Sto}
theorem NtR.fr (h : NtR N g S M) (q : eC S T) (r : eM M U) : NtR N g T U := by
  unfold NtR at h ⊢
  rw [q.gi 4 (by decide), r.ai 1003 (by decide), q.ai 4 (by decide), q.al 5 (by decide), q.al 6 (by decide), q.al 7 (by decide), q.al 8 (by decide), r.ai 1004 (by decide), r.ai 1005 (by decide), r.ai 1006 (by decide), r.al 1009 (by decide), r.al 1010 (by decide)]
  exact h
theorem NtR.m (h : NtR N g S M) (r : ntM N M U) (h3 : ai U 1003 3 = ai M 1003 3) : NtR N g S U := by
  obtain ⟨a1, a2, a3, a4⟩ := h
  refine ⟨a1, a2, h3.trans a3, fun i hi => ?_⟩
  obtain ⟨b1', b2', b3'⟩ := a4 i hi
  obtain ⟨r1, r2, r3, r4, r5⟩ := r.2.2 (8 + i) (by omega)
  rw [r1, r2, r3, r4, r5]
  exact ⟨b1', b2', b3'⟩
theorem cast_ok (h4 : gi S 4 = nI N) (hN : N < 8) (x1 : Int32) (x2 x4 x6 x8 : Int64) : F_Se_cast x1 x2 x4 x6 x8 S = some ((), si (ul (ul (ul (ul (ui S 4 (upd (ai S 4) N x1)) 5 (vp_updL (al S 5) N x2)) 6 (vp_updL (al S 6) N x4)) 7 (vp_updL (al S 7) N x6)) 8 (vp_updL (al S 8) N x8)) 4 (nI (N + 1))) := by
  unfold F_Se_cast
  simp only [gi_ui, gi_ul, h4]
  rw [if_neg (nI_pos (by omega)), (show (8 : Int32) = nI 8 from rfl), if_neg (nI_ge hN (by decide)), ck_t (ib_nI hN (by omega)), ck_t (ib_nI hN (by omega)), ck_t (ib_nI hN (by omega)), ck_t (ib_nI hN (by omega)), ck_t (ib_nI hN (by omega)), nI_clamp (by omega), show nI N + (1 : Int32) = nI (N + 1) from nI_add N 1]
  rfl
theorem n316 (h3 : ai M 1003 3 = nI N) : F_m_readNet_316 M = some ((), ui M 1003 (upd (ai M 1003) 3 (nI (N + 1)))) := by
  unfold F_m_readNet_316
  rw [show ai M 1003 (Int32.toNatClampNeg 3) = nI N from h3, show nI N + (1 : Int32) = nI (N + 1) from nI_add N 1]
  rfl
theorem nt_3 (x : Int32) : ntM N M (ui M 1003 (upd (ai M 1003) 3 x)) := by
  refine ⟨Fr.rfl.ui (by decide), fun i hi => ?_, fun i hi => ⟨rfl, rfl, rfl, rfl, rfl⟩⟩
  show upd (ai M 1003) 3 x i = _
  rw [upd_at, if_neg hi]
def exG (g : Nat → Nt5) (N : Nat) (x : Nt5) : Nat → Nt5 := fun i => if i = N then x else g i
theorem exG_s (g : Nat → Nt5) (N : Nat) (x : Nt5) : exG g N x N = x := if_pos rfl
theorem exG_n {g : Nat → Nt5} {N i : Nat} {x : Nt5} (h : ¬ i = N) : exG g N x i = g i := if_neg h
/-- the net is cast, in both -/
theorem net_new {b a k q m r f t f' t' : Nat} (tk : Tk y n b a k S M) (h : NtR N g S M) (hN : N < 8) (hq : NtOk (q, m, r, f, t)) (m4 : ai M 1004 (8 + N) = nI q) (m9 : al M 1009 (8 + N) = lN m) (m10 : al M 1010 (8 + N) = lN r) (m5 : ai M 1005 (8 + N) = nI f') (m6 : ai M 1006 (8 + N) = nI t') (hf : f' ≤ 9999 ∧ f = if f' = 0 then 1 else f') (ht : t' ≤ 9999 ∧ t = if t' = 0 then 1000000000000 else t') :
    ∃ S' M' g', F_Se_cast (nI q) (lN m) (lN r) (lN f) (lN t) S = some ((), S') ∧ F_m_readNet_316 M = some ((), M') ∧ ntC S S' ∧ ntM N M M' ∧ Tk y n b a k S' M' ∧ NtR (N + 1) g' S' M' := by
  obtain ⟨a1, a2, a3, a4⟩ := h
  have fr : Fr [4] [] [4] [5, 6, 7, 8] [] S (si (ul (ul (ul (ul (ui S 4 (upd (ai S 4) N (nI q))) 5 (vp_updL (al S 5) N (lN m))) 6 (vp_updL (al S 6) N (lN r))) 7 (vp_updL (al S 7) N (lN f))) 8 (vp_updL (al S 8) N (lN t))) 4 (nI (N + 1))) := (((((Fr.rfl.ui (by decide)).ul (by decide)).ul (by decide)).ul (by decide)).ul (by decide)).si (by decide)
  have fr2 : Fr [] [] [1003] [] [] M (ui M 1003 (upd (ai M 1003) 3 (nI (N + 1)))) := Fr.rfl.ui (by decide)
  refine ⟨_, _, exG g N (q, m, r, f, t), cast_ok a2 hN _ _ _ _ _, n316 a3, fr.mono (by decide) (by decide) (by decide) (by decide) (by decide), nt_3 _, tk.fr fr fr2 (by decide) (by decide) (by decide) (by decide), by omega, rfl, ?_, fun i hi => ?_⟩
  · show upd (ai M 1003) 3 (nI (N + 1)) 3 = _
    rw [upd_at, if_pos rfl]
  · show (upd (ai S 4) N (nI q) i = _ ∧ vp_updL (al S 5) N (lN m) i = _ ∧ vp_updL (al S 6) N (lN r) i = _ ∧ vp_updL (al S 7) N (lN f) i = _ ∧ vp_updL (al S 8) N (lN t) i = _) ∧ (ai M 1004 (8 + i) = _ ∧ al M 1009 (8 + i) = _ ∧ al M 1010 (8 + i) = _ ∧ (∃ q, q ≤ 9999 ∧ ai M 1005 (8 + i) = nI q ∧ _) ∧ (∃ q, q ≤ 9999 ∧ ai M 1006 (8 + i) = nI q ∧ _)) ∧ _
    rw [upd_at, updL_at, updL_at, updL_at, updL_at]
    by_cases w : i = N
    · subst w
      rw [exG_s, if_pos rfl, if_pos rfl, if_pos rfl, if_pos rfl, if_pos rfl]
      exact ⟨⟨rfl, rfl, rfl, rfl, rfl⟩, ⟨m4, m9, m10, ⟨f', hf.1, m5, hf.2⟩, t', ht.1, m6, ht.2⟩, hq⟩
    · rw [exG_n w, if_neg w, if_neg w, if_neg w, if_neg w, if_neg w]
      exact a4 i (by omega)
/-- behind a fault the model's net is written on, nothing else -/
theorem md_222 (h : ¬ gi M 1010 = 0) (hN : N < 8) (h3 : ai M 1003 3 = nI N) : ∃ M', F_m_readNet_222 (nI (8 + N)) M = some ((), M') ∧ ntM N M M' ∧ Fr [] [] [1003, 1005, 1006] [] [] M M' := by
  generalize hE : ui (ui M 1005 (upd (ai M 1005) (8 + N) 0)) 1006 (upd (ai (ui M 1005 (upd (ai M 1005) (8 + N) 0)) 1006) (8 + N) 0) = E
  have fE : Fr [] [] [1003, 1005, 1006] [] [] M E := by rw [← hE]; exact (Fr.rfl.ui (by decide)).ui (by decide)
  have nE : ntM N M E := by rw [← hE]; exact (nt_i (Or.inr (Or.inl rfl))).trans (nt_i (Or.inr (Or.inr rfl)))
  have hE10 : ¬ gi E 1010 = 0 := by rw [fE.gi 1010 (by decide)]; exact h
  have hE3 : ai E 1003 3 = nI N := by rw [← hE]; exact h3
  refine ⟨_, ?_, nE.trans (nt_3 _), fE.trans (Fr.rfl.ui (j := 1003) (v := upd (ai E 1003) 3 (nI (N + 1))) (by decide))⟩
  unfold F_m_readNet_222
  rw [ck_t (ib_nI (by omega) (by omega)), ck_t (ib_nI (by omega) (by omega)), nI_clamp (by omega), hE, md_is hE10, b1_s, if_pos (show bI false = 0 from rfl)]
  exact n316 hE3
theorem word_m {b a k p : Nat} (t : Tk y n b a k S M) (hp : 3000 ≤ p) (hp2 : p < 3020) : ∃ S' M', F_Rd_expectWord p S = some ((), S') ∧ eC S S' ∧ eM M M' ∧ (b1 (F_m_is p M) (fun r => if r = 0 then b2 (F_m_wrong 1 M) (fun _ M2 => if gi M2 1010 = 0 then b2 (F_m_stepOn M2) (fun _ M3 => some ((), M3)) else some ((), M2)) else (if gi M 1010 = 0 then b2 (F_m_stepOn M) (fun _ M3 => some ((), M3)) else some ((), M))) = some ((), M')) ∧
    ((∃ b2 a2 k2, tkW y b a k p = true ∧ F_m_stepOn M = some ((), M') ∧ b < b2 ∧ Tk y n b2 a2 k2 S' M') ∨ (tkW y b a k p = false ∧ F_m_wrong 1 M = some ((), M') ∧ Dd S' M')) := by
  have hba := t.ba
  unfold F_Rd_expectWord
  rw [isWC t hp hp2, b1_s, isWM t hp hp2, b1_s]
  cases w : tkW y b a k p
  · obtain ⟨S1, M1, p1, p2, p3, p4, p5⟩ := t.bad (e := 1) (by decide) (by decide)
    refine ⟨S1, M1, ?_, p3.e, p4.e, ?_, Or.inr ⟨rfl, p2, p5⟩⟩
    · rw [if_pos (show bI false = 0 from rfl), (show (1 : Int32) = nI 1 from rfl), p1, b2_s]
    · rw [if_pos (show bI false = 0 from rfl), (show (1 : Int32) = nI 1 from rfl), p2, b2_s, if_neg p5.m]
  · have hk : k = 1 := (tkW_iff.mp w).1
    obtain ⟨b2', a2, k2, S1, M1, w1, w2, w3, w4, w5, w6⟩ := t.go
    refine ⟨S1, M1, ?_, w3.e, w4.e, ?_, Or.inl ⟨b2', a2, k2, rfl, w2, by omega, w6⟩⟩
    · rw [if_neg (show ¬ bI true = 0 by decide), w1, b2_s]
    · rw [if_neg (show ¬ bI true = 0 by decide), if_pos t.m10, w2, b2_s]
theorem NtR.n3 (h : NtR N g S M) : ai M 1003 3 = nI N := h.2.2.1
theorem md_297 (h : ¬ gi M 1010 = 0) (hN : N < 8) (h3 : ai M 1003 3 = nI N) : ∃ M', F_m_readNet_297 (nI (8 + N)) M = some ((), M') ∧ ntM N M M' ∧ Fr [] [] [1003, 1006] [] [] M M' := by
  have hE3 : ai (ui M 1006 (upd (ai M 1006) (8 + N) 0)) 1003 3 = nI N := h3
  have nE : ntM N M (ui M 1006 (upd (ai M 1006) (8 + N) 0)) := nt_i (Or.inr (Or.inr rfl))
  refine ⟨_, ?_, nE.trans (nt_3 (nI (N + 1))), (Fr.rfl.ui (by decide)).ui (by decide)⟩
  unfold F_m_readNet_297
  rw [ck_t (ib_nI (by omega) (by omega)), md_num h, b2_s, ck_t (ib_nI (by omega) (by omega)), nI_clamp (by omega)]
  exact n316 hE3
theorem md_286 (h : ¬ gi M 1010 = 0) (hN : N < 8) (h3 : ai M 1003 3 = nI N) : ∃ M', F_m_readNet_286 (nI (8 + N)) M = some ((), M') ∧ ntM N M M' ∧ Fr [] [] [1003, 1006] [] [] M M' := by
  unfold F_m_readNet_286
  rw [if_neg h]
  exact md_297 h hN h3
theorem Dd.mm {a b c d e : List Nat} (h : Dd S M) (q : Fr a b c d e M U) (h1 : 1010 ∉ a ∧ 1011 ∉ a) : Dd S U := h.fr (Fr.rfl (a := []) (b := []) (c := []) (d := []) (e := [])) q (by decide) h1
theorem Tk.mm {b a k : Nat} {c d e : List Nat} (h : Tk y n b a k S M) (q : Fr [] [] c d e M U) (h1 : 1011 ∉ c) : Tk y n b a k S U := h.fr (Fr.rfl (a := []) (b := []) (c := []) (d := []) (e := [])) q (by decide) (by decide) (by decide) h1
/-- from .. to .. -/
theorem ends_nt {b a k q m r : Nat} (tk : Tk y n b a k S M) (h : NtR N g S M) (hN : N < 8) (hq : q ≤ 4 ∧ 1 ≤ m ∧ m ≤ 2097152 ∧ r < m) (m4 : ai M 1004 (8 + N) = nI q) (m9 : al M 1009 (8 + N) = lN m) (m10 : al M 1010 (8 + N) = lN r) :
    ∃ S' M', F_Rd_readEnds (nI q) (nI m) (nI r) S = some ((), S') ∧ F_m_readNet_222 (nI (8 + N)) M = some ((), M') ∧ ntC S S' ∧ ntM N M M' ∧ ((∃ b' a' k' g', b ≤ b' ∧ Tk y n b' a' k' S' M' ∧ NtR (N + 1) g' S' M') ∨ Dd S' M') := by
  have hba := tk.ba
  generalize hE : ui (ui M 1005 (upd (ai M 1005) (8 + N) 0)) 1006 (upd (ai (ui M 1005 (upd (ai M 1005) (8 + N) 0)) 1006) (8 + N) 0) = E
  have fE : Fr [] [] [1005, 1006] [] [] M E := by rw [← hE]; exact (Fr.rfl.ui (by decide)).ui (by decide)
  have nE : ntM N M E := by rw [← hE]; exact (nt_i (Or.inr (Or.inl rfl))).trans (nt_i (Or.inr (Or.inr rfl)))
  have e5 : ai E 1005 (8 + N) = nI 0 := by
    rw [← hE]
    show upd (ai M 1005) (8 + N) 0 (8 + N) = _
    rw [upd_at, if_pos rfl]; rfl
  have e6 : ai E 1006 (8 + N) = nI 0 := by
    rw [← hE]
    show upd (ai M 1006) (8 + N) 0 (8 + N) = _
    rw [upd_at, if_pos rfl]; rfl
  have e4 : ai E 1004 (8 + N) = nI q := by rw [← hE]; exact m4
  have e9 : al E 1009 (8 + N) = lN m := by rw [← hE]; exact m9
  have e10 : al E 1010 (8 + N) = lN r := by rw [← hE]; exact m10
  have tE' : Tk y n b a k S E := tk.mm fE (by decide)
  have hE' : NtR N g S E := h.m nE (by rw [← hE]; rfl)
  have w1 := isWC tk (p := 3015) (by decide) (by decide)
  have w2 := isWM tE' (p := 3015) (by decide) (by decide)
  have i16 : ib (nI (8 + N)) 16 = true := ib_nI (by omega) (by omega)
  unfold F_Rd_readEnds F_m_readNet_222
  rw [w1, b1_s, ck_t i16, ck_t i16, nI_clamp (by omega), hE, w2, b1_s]
  cases w : tkW y b a k 3015
  · rw [if_pos (show bI false = 0 from rfl), if_pos (show bI false = 0 from rfl), i2l_nI (by omega), i2l_nI (by omega), (show (1 : Int64) = lN 1 from rfl), (show (1000000000000 : Int64) = lN 1000000000000 from rfl)]
    obtain ⟨S1, M1, g1, p1, p2, p3, p4, p5, p6⟩ := net_new (f := 1) (t := 1000000000000) (f' := 0) (t' := 0) tE' hE' hN ⟨hq.1, hq.2.1, hq.2.2.1, hq.2.2.2, Nat.le_refl 1, (show 1 ≤ 1000000000000 by decide), Nat.le_refl 1000000000000⟩ e4 e9 e10 e5 e6 ⟨by decide, by decide⟩ ⟨by decide, by decide⟩
    refine ⟨S1, M1, ?_, p2, p3, nE.trans p4, Or.inl ⟨b, a, k, g1, Nat.le_refl _, p5, p6⟩⟩
    rw [p1, b2_s]
  · rw [if_neg (show ¬ bI true = 0 by decide), if_neg (show ¬ bI true = 0 by decide)]
    have hk : k = 1 := (tkW_iff.mp w).1
    obtain ⟨b2', a2, k2, S1, M1, g1, g2, g3, g4, g5, g6⟩ := tE'.go
    have N1 := hE'.fr g3.e g4.e
    obtain ⟨r1, r1', S2, M2, n1, n2, n3, n4, n5⟩ := num_ok g6 (lo := 1) (hi := 9999) (by decide) (by decide)
    have N2 := N1.fr n3 n4
    rw [g1, b2_s, g2, b2_s, (show (1 : Int32) = nI 1 from rfl), show (9999 : Int32) = nI 9999 from rfl, n1, b2_s, n2, b2_s, ck_t i16]
    have f3 : Fr [] [] [1005] [] [] M2 (ui M2 1005 (upd (ai M2 1005) (8 + N) r1')) := Fr.rfl.ui (by decide)
    have m3 : ntM N M2 (ui M2 1005 (upd (ai M2 1005) (8 + N) r1')) := nt_i (Or.inr (Or.inl rfl))
    have N3 : NtR N g S2 (ui M2 1005 (upd (ai M2 1005) (8 + N) r1')) := N2.m m3 rfl
    have c5 : ai (ui M2 1005 (upd (ai M2 1005) (8 + N) r1')) 1005 (8 + N) = r1' := by
      show upd (ai M2 1005) (8 + N) r1' (8 + N) = _
      rw [upd_at, if_pos rfl]
    have c6 : ai (ui M2 1005 (upd (ai M2 1005) (8 + N) r1')) 1006 (8 + N) = nI 0 := by
      show ai M2 1006 (8 + N) = _
      rw [n4.ai 1006 (by decide), g4.ai 1006 (by decide)]; exact e6
    have c4 : ai (ui M2 1005 (upd (ai M2 1005) (8 + N) r1')) 1004 (8 + N) = nI q := by
      show ai M2 1004 (8 + N) = _
      rw [n4.ai 1004 (by decide), g4.ai 1004 (by decide)]; exact e4
    have c9 : al (ui M2 1005 (upd (ai M2 1005) (8 + N) r1')) 1009 (8 + N) = lN m := by
      show al M2 1009 (8 + N) = _
      rw [n4.al 1009 (by decide), g4.al 1009 (by decide)]; exact e9
    have c10 : al (ui M2 1005 (upd (ai M2 1005) (8 + N) r1')) 1010 (8 + N) = lN r := by
      show al M2 1010 (8 + N) = _
      rw [n4.al 1010 (by decide), g4.al 1010 (by decide)]; exact e10
    have nM3 : ntM N M (ui M2 1005 (upd (ai M2 1005) (8 + N) r1')) := ((nE.trans (g4.e.n N)).trans (n4.n N)).trans m3
    have nC2 : ntC S S2 := g3.e.n.trans n3.n
    generalize ui M2 1005 (upd (ai M2 1005) (8 + N) r1') = M3 at *
    rcases n5 with ⟨v, b3, a3, k3, v1, v2, v3, v4, v5, v6⟩ | ⟨v1, hD⟩
    · have t3 : Tk y n b3 a3 k3 S2 M3 := v6.mm f3 (by decide)
      obtain ⟨S4, M4, q1, q2, q3, q4, q5⟩ := word_m t3 (p := 3016) (by decide) (by decide)
      rw [if_pos v6.c9, q1, b2_s, if_pos t3.m10, isWM t3 (by decide) (by decide), b1_s]
      rcases q5 with ⟨b4, a4, k4, x1, x2, x3, x4⟩ | ⟨x1, x2, hD⟩
      · rw [if_neg (bT x1)]
        unfold F_m_readNet_286 F_Rd_readEnds_53 F_m_readNet_297
        obtain ⟨r5, r5', S5, M5, z1, z2, z3, z4, z5⟩ := num_ok x4 (lo := v) (hi := 9999) (by omega) (by decide)
        have d5 : ai M4 1005 (8 + N) = nI v := by rw [q3.ai 1005 (by decide), c5, v4]
        rw [if_pos x4.c9, if_pos t3.m10, x2, b2_s, ck_t i16, nI_clamp (by omega), d5, v3, show (9999 : Int32) = nI 9999 from rfl, z1, b2_s, z2, b2_s, ck_t i16]
        have N5 := (N3.fr q2 q3).fr z3 z4
        have f6 : Fr [] [] [1006] [] [] M5 (ui M5 1006 (upd (ai M5 1006) (8 + N) r5')) := Fr.rfl.ui (by decide)
        have m6 : ntM N M5 (ui M5 1006 (upd (ai M5 1006) (8 + N) r5')) := nt_i (Or.inr (Or.inr rfl))
        have N6 : NtR N g S5 (ui M5 1006 (upd (ai M5 1006) (8 + N) r5')) := N5.m m6 rfl
        have nM6 : ntM N M (ui M5 1006 (upd (ai M5 1006) (8 + N) r5')) := ((nM3.trans (q3.n N)).trans (z4.n N)).trans m6
        have nC5 : ntC S S5 := (nC2.trans q2.n).trans z3.n
        rcases z5 with ⟨w', b6, a6, k6, u1, u2, u3, u4, u5, u6⟩ | ⟨u1, hD⟩
        · have t6 := u6.mm f6 (by decide)
          obtain ⟨S7, M7, g7, p1, p2, p3, p4, p5, p6⟩ := net_new (q := q) (m := m) (r := r) (f := v) (t := w') (f' := v) (t' := w') t6 N6 hN ⟨hq.1, hq.2.1, hq.2.2.1, hq.2.2.2, v1, u1, (show w' ≤ 1000000000000 by omega)⟩
            (by show ai M5 1004 (8 + N) = _; rw [z4.ai 1004 (by decide), q3.ai 1004 (by decide)]; exact c4)
            (by show al M5 1009 (8 + N) = _; rw [z4.al 1009 (by decide), q3.al 1009 (by decide)]; exact c9)
            (by show al M5 1010 (8 + N) = _; rw [z4.al 1010 (by decide), q3.al 1010 (by decide)]; exact c10)
            (by show ai M5 1005 (8 + N) = _; rw [z4.ai 1005 (by decide)]; exact d5)
            (by show upd (ai M5 1006) (8 + N) r5' (8 + N) = _; rw [upd_at, if_pos rfl, u4])
            ⟨v2, by rw [if_neg (by omega)]⟩ ⟨u2, by rw [if_neg (by omega)]⟩
          refine ⟨S7, M7, ?_, p2, nC5.trans p3, nM6.trans p4, Or.inl ⟨b6, a6, k6, g7, by omega, p5, p6⟩⟩
          unfold F_Rd_readEnds_73
          rw [if_pos u6.c9, i2l_nI (by omega), i2l_nI (by omega), i2l_nI (by omega), u3, i2l_nI (by omega), p1, b2_s]
        · refine ⟨S5, _, ?_, n316 N6.n3, nC5, nM6.trans (nt_3 _), Or.inr ((hD.mm f6 (by decide)).mm (Fr.rfl.ui (a := []) (b := []) (c := [1003]) (d := []) (e := []) (by decide)) (by decide))⟩
          unfold F_Rd_readEnds_73
          rw [if_neg hD.c]
      · rw [if_pos (bF x1), show F_m_wrong (nI 1) M3 = some ((), M4) from x2, b2_s]
        obtain ⟨M5, y1, y2, y3⟩ := md_286 hD.m hN (N3.fr q2 q3).n3
        refine ⟨S4, M5, ?_, y1, nC2.trans q2.n, (nM3.trans (q3.n N)).trans y2, Or.inr (hD.mm y3 (by decide))⟩
        unfold F_Rd_readEnds_53 F_Rd_readEnds_73
        rw [if_neg hD.c, if_neg hD.c]
    · have hD3 := hD.mm f3 (by decide)
      obtain ⟨M5, y1, y2, y3⟩ := md_286 hD3.m hN N3.n3
      refine ⟨S2, M5, ?_, ?_, nC2, nM3.trans y2, Or.inr (hD3.mm y3 (by decide))⟩
      · unfold F_Rd_readEnds_53 F_Rd_readEnds_73
        rw [if_neg hD.c, if_neg hD.c, if_neg hD.c]
      · rw [if_neg hD3.m]
        exact y1
theorem tail_nt {b a k q m r : Nat} (tk : Tk y n b a k S M) (h : NtR N g S M) (hN : N < 8) (hq : q ≤ 4 ∧ 1 ≤ m ∧ m ≤ 2097152 ∧ r < m) (m4 : ai M 1004 (8 + N) = nI q) (m9 : al M 1009 (8 + N) = lN m) (m10 : al M 1010 (8 + N) = lN r) :
    ∃ S' M', F_Rd_readNet_162 (nI q) (nI m) (nI r) S = some ((), S') ∧ F_m_readNet_222 (nI (8 + N)) M = some ((), M') ∧ ntC S S' ∧ ntM N M M' ∧ ((∃ b' a' k' g', b ≤ b' ∧ Tk y n b' a' k' S' M' ∧ NtR (N + 1) g' S' M') ∨ Dd S' M') := by
  obtain ⟨S', M', p1, p2, p3, p4, p5⟩ := ends_nt tk h hN hq m4 m9 m10
  refine ⟨S', M', ?_, p2, p3, p4, p5⟩
  unfold F_Rd_readNet_162
  rw [if_pos tk.c9, p1, b2_s]
theorem tail_d (h : Dd S M) (hN : N < 8) (h3 : ai M 1003 3 = nI N) (x1 x2 x3 : Int32) : ∃ M', F_Rd_readNet_162 x1 x2 x3 S = some ((), S) ∧ F_m_readNet_222 (nI (8 + N)) M = some ((), M') ∧ ntM N M M' ∧ Dd S M' := by
  obtain ⟨M', p1, p2, p3⟩ := md_222 h.m hN h3
  refine ⟨M', ?_, p1, p2, h.mm p3 (by decide)⟩
  unfold F_Rd_readNet_162
  rw [if_neg h.c]
theorem pow_c : ∀ p, p < 5 → 1 ≤ p → F_Rd_powerOfTen (nI p) = some (nI (10 ^ p)) := by decide +kernel
theorem pow_m : ∀ p, p < 5 → F_m_tens (nI p) = some (nI (10 ^ p)) := by decide +kernel
theorem pow_t (x : Int32) : ∃ r, F_Rd_powerOfTen x = some r := by
  unfold F_Rd_powerOfTen
  split
  · exact ⟨_, rfl⟩
  · split
    · exact ⟨_, rfl⟩
    · split <;> exact ⟨_, rfl⟩
theorem pow_b : ∀ p, p < 5 → 1 ≤ p → 10 ≤ 10 ^ p ∧ 10 ^ p ≤ 10000 := by decide
end
