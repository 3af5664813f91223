/-! ===== which line begins ===== -/
section
variable {y : Nat → Nat} {n b a k : Nat} {S M : Sto}
theorem w5_s (h : Tk y n b a k S M) {i : Nat} (hi : i < 5) (f : Nat) : F_m_which_1000_1001_2 (f + 1) (nI i) M = if tkW y b a k (3000 + i) = true then some (nI i) else F_m_which_1000_1001_2 f (nI (i + 1)) M := by
  rw [F_m_which_1000_1001_2, if_neg (nI_ge hi (by decide)), ck_t (ib_nI hi (by omega)), nI_clamp (by omega), isWM h (by omega) (by omega), b1_s, show nI i + (1 : Int32) = nI (i + 1) from nI_add i 1]
  cases tkW y b a k (3000 + i)
  · rw [if_pos (show bI false = 0 from rfl), if_neg (by decide)]
  · rw [if_neg (show ¬ bI true = 0 by decide), if_pos rfl]
theorem w5_e (f : Nat) : F_m_which_1000_1001_2 (f + 1) (nI 5) M = some (-1) := by
  rw [F_m_which_1000_1001_2, if_pos (nI_le (Nat.le_refl _) (by decide))]
/-- the line's kind: 0 to 4 nets, 5 places, 6 pond, 7 spawns, 8 none -/
def LnK (k q : Nat) (S M : Sto) : Prop := q ≤ 8 ∧ F_Rd_lineKind S = some (if q = 8 then -1 else nI q) ∧ F_m_is 3012 M = some (bI (decide (q = 5))) ∧ F_m_is 3013 M = some (bI (decide (q = 6))) ∧ F_m_is 3014 M = some (bI (decide (q = 7))) ∧ F_m_which_1000_1001 M = some (if q < 5 then nI q else -1) ∧ (q ≠ 8 → k = 1)
theorem kind_nx (t : Tk y n b a k S M) : ∃ q, LnK k q S M := by
  have e0 := w5_s t (i := 0) (by decide) (1099511627770 + 5)
  have e1 := w5_s t (i := 1) (by decide) (1099511627770 + 4)
  have e2 := w5_s t (i := 2) (by decide) (1099511627770 + 3)
  have e3 := w5_s t (i := 3) (by decide) (1099511627770 + 2)
  have e4 := w5_s t (i := 4) (by decide) (1099511627770 + 1)
  have e5 := w5_e (M := M) 1099511627770
  have em : F_m_which_1000_1001 M = F_m_which_1000_1001_2 (1099511627770 + 5 + 1) (nI 0) M := rfl
  have c0 := isWC t (p := 3000) (by decide) (by decide)
  have c1 := isWC t (p := 3001) (by decide) (by decide)
  have c2 := isWC t (p := 3002) (by decide) (by decide)
  have c3 := isWC t (p := 3003) (by decide) (by decide)
  have c4 := isWC t (p := 3004) (by decide) (by decide)
  have c5 := isWC t (p := 3012) (by decide) (by decide)
  have c6 := isWC t (p := 3013) (by decide) (by decide)
  have c7 := isWC t (p := 3014) (by decide) (by decide)
  have m5 := isWM t (p := 3012) (by decide) (by decide)
  have m6 := isWM t (p := 3013) (by decide) (by decide)
  have m7 := isWM t (p := 3014) (by decide) (by decide)
  unfold LnK F_Rd_lineKind
  by_cases w0 : tkW y b a k 3000 = true
  · have hk : k = 1 := (tkW_iff.mp w0).1
    have z1 : tkW y b a k 3001 = false := tkW_ne w0 (by decide)
    have z2 : tkW y b a k 3002 = false := tkW_ne w0 (by decide)
    have z3 : tkW y b a k 3003 = false := tkW_ne w0 (by decide)
    have z4 : tkW y b a k 3004 = false := tkW_ne w0 (by decide)
    have z5 : tkW y b a k 3012 = false := tkW_ne w0 (by decide)
    have z6 : tkW y b a k 3013 = false := tkW_ne w0 (by decide)
    have z7 : tkW y b a k 3014 = false := tkW_ne w0 (by decide)
    refine ⟨0, by decide, ?_, ?_, ?_, ?_, ?_, fun _ => hk⟩
    · rw [c0, b1_s, if_neg (bT w0)]; rfl
    · rw [m5, z5]; rfl
    · rw [m6, z6]; rfl
    · rw [m7, z7]; rfl
    · rw [em, e0, if_pos (show tkW y b a k (3000 + 0) = true from w0)]; rfl
  by_cases w1 : tkW y b a k 3001 = true
  · have hk : k = 1 := (tkW_iff.mp w1).1
    have z0 : tkW y b a k 3000 = false := tkW_ne w1 (by decide)
    have z2 : tkW y b a k 3002 = false := tkW_ne w1 (by decide)
    have z3 : tkW y b a k 3003 = false := tkW_ne w1 (by decide)
    have z4 : tkW y b a k 3004 = false := tkW_ne w1 (by decide)
    have z5 : tkW y b a k 3012 = false := tkW_ne w1 (by decide)
    have z6 : tkW y b a k 3013 = false := tkW_ne w1 (by decide)
    have z7 : tkW y b a k 3014 = false := tkW_ne w1 (by decide)
    refine ⟨1, by decide, ?_, ?_, ?_, ?_, ?_, fun _ => hk⟩
    · rw [c0, b1_s, if_pos (bF z0), c1, b1_s, if_neg (bT w1)]; rfl
    · rw [m5, z5]; rfl
    · rw [m6, z6]; rfl
    · rw [m7, z7]; rfl
    · rw [em, e0, if_neg (show ¬ tkW y b a k (3000 + 0) = true by rw [show 3000 + 0 = 3000 from rfl, z0]; decide), e1, if_pos (show tkW y b a k (3000 + 1) = true from w1)]; rfl
  by_cases w2 : tkW y b a k 3002 = true
  · have hk : k = 1 := (tkW_iff.mp w2).1
    have z0 : tkW y b a k 3000 = false := tkW_ne w2 (by decide)
    have z1 : tkW y b a k 3001 = false := tkW_ne w2 (by decide)
    have z3 : tkW y b a k 3003 = false := tkW_ne w2 (by decide)
    have z4 : tkW y b a k 3004 = false := tkW_ne w2 (by decide)
    have z5 : tkW y b a k 3012 = false := tkW_ne w2 (by decide)
    have z6 : tkW y b a k 3013 = false := tkW_ne w2 (by decide)
    have z7 : tkW y b a k 3014 = false := tkW_ne w2 (by decide)
    refine ⟨2, by decide, ?_, ?_, ?_, ?_, ?_, fun _ => hk⟩
    · rw [c0, b1_s, if_pos (bF z0), c1, b1_s, if_pos (bF z1), c2, b1_s, if_neg (bT w2)]; rfl
    · rw [m5, z5]; rfl
    · rw [m6, z6]; rfl
    · rw [m7, z7]; rfl
    · rw [em, e0, if_neg (show ¬ tkW y b a k (3000 + 0) = true by rw [show 3000 + 0 = 3000 from rfl, z0]; decide), e1, if_neg (show ¬ tkW y b a k (3000 + 1) = true by rw [show 3000 + 1 = 3001 from rfl, z1]; decide), e2, if_pos (show tkW y b a k (3000 + 2) = true from w2)]; rfl
  by_cases w3 : tkW y b a k 3003 = true
  · have hk : k = 1 := (tkW_iff.mp w3).1
    have z0 : tkW y b a k 3000 = false := tkW_ne w3 (by decide)
    have z1 : tkW y b a k 3001 = false := tkW_ne w3 (by decide)
    have z2 : tkW y b a k 3002 = false := tkW_ne w3 (by decide)
    have z4 : tkW y b a k 3004 = false := tkW_ne w3 (by decide)
    have z5 : tkW y b a k 3012 = false := tkW_ne w3 (by decide)
    have z6 : tkW y b a k 3013 = false := tkW_ne w3 (by decide)
    have z7 : tkW y b a k 3014 = false := tkW_ne w3 (by decide)
    refine ⟨3, by decide, ?_, ?_, ?_, ?_, ?_, fun _ => hk⟩
    · rw [c0, b1_s, if_pos (bF z0), c1, b1_s, if_pos (bF z1), c2, b1_s, if_pos (bF z2), c3, b1_s, if_neg (bT w3)]; rfl
    · rw [m5, z5]; rfl
    · rw [m6, z6]; rfl
    · rw [m7, z7]; rfl
    · rw [em, e0, if_neg (show ¬ tkW y b a k (3000 + 0) = true by rw [show 3000 + 0 = 3000 from rfl, z0]; decide), e1, if_neg (show ¬ tkW y b a k (3000 + 1) = true by rw [show 3000 + 1 = 3001 from rfl, z1]; decide), e2, if_neg (show ¬ tkW y b a k (3000 + 2) = true by rw [show 3000 + 2 = 3002 from rfl, z2]; decide), e3, if_pos (show tkW y b a k (3000 + 3) = true from w3)]; rfl
  by_cases w4 : tkW y b a k 3004 = true
  · have hk : k = 1 := (tkW_iff.mp w4).1
    have z0 : tkW y b a k 3000 = false := tkW_ne w4 (by decide)
    have z1 : tkW y b a k 3001 = false := tkW_ne w4 (by decide)
    have z2 : tkW y b a k 3002 = false := tkW_ne w4 (by decide)
    have z3 : tkW y b a k 3003 = false := tkW_ne w4 (by decide)
    have z5 : tkW y b a k 3012 = false := tkW_ne w4 (by decide)
    have z6 : tkW y b a k 3013 = false := tkW_ne w4 (by decide)
    have z7 : tkW y b a k 3014 = false := tkW_ne w4 (by decide)
    refine ⟨4, by decide, ?_, ?_, ?_, ?_, ?_, fun _ => hk⟩
    · rw [c0, b1_s, if_pos (bF z0), c1, b1_s, if_pos (bF z1), c2, b1_s, if_pos (bF z2), c3, b1_s, if_pos (bF z3), c4, b1_s, if_neg (bT w4)]; rfl
    · rw [m5, z5]; rfl
    · rw [m6, z6]; rfl
    · rw [m7, z7]; rfl
    · rw [em, e0, if_neg (show ¬ tkW y b a k (3000 + 0) = true by rw [show 3000 + 0 = 3000 from rfl, z0]; decide), e1, if_neg (show ¬ tkW y b a k (3000 + 1) = true by rw [show 3000 + 1 = 3001 from rfl, z1]; decide), e2, if_neg (show ¬ tkW y b a k (3000 + 2) = true by rw [show 3000 + 2 = 3002 from rfl, z2]; decide), e3, if_neg (show ¬ tkW y b a k (3000 + 3) = true by rw [show 3000 + 3 = 3003 from rfl, z3]; decide), e4, if_pos (show tkW y b a k (3000 + 4) = true from w4)]; rfl
  by_cases w5 : tkW y b a k 3012 = true
  · have hk : k = 1 := (tkW_iff.mp w5).1
    have z0 : tkW y b a k 3000 = false := tkW_ne w5 (by decide)
    have z1 : tkW y b a k 3001 = false := tkW_ne w5 (by decide)
    have z2 : tkW y b a k 3002 = false := tkW_ne w5 (by decide)
    have z3 : tkW y b a k 3003 = false := tkW_ne w5 (by decide)
    have z4 : tkW y b a k 3004 = false := tkW_ne w5 (by decide)
    have z6 : tkW y b a k 3013 = false := tkW_ne w5 (by decide)
    have z7 : tkW y b a k 3014 = false := tkW_ne w5 (by decide)
    refine ⟨5, by decide, ?_, ?_, ?_, ?_, ?_, fun _ => hk⟩
    · rw [c0, b1_s, if_pos (bF z0), c1, b1_s, if_pos (bF z1), c2, b1_s, if_pos (bF z2), c3, b1_s, if_pos (bF z3), c4, b1_s, if_pos (bF z4), c5, b1_s, if_neg (bT w5)]; rfl
    · rw [m5, w5]; rfl
    · rw [m6, z6]; rfl
    · rw [m7, z7]; rfl
    · rw [em, e0, if_neg (show ¬ tkW y b a k (3000 + 0) = true by rw [show 3000 + 0 = 3000 from rfl, z0]; decide), e1, if_neg (show ¬ tkW y b a k (3000 + 1) = true by rw [show 3000 + 1 = 3001 from rfl, z1]; decide), e2, if_neg (show ¬ tkW y b a k (3000 + 2) = true by rw [show 3000 + 2 = 3002 from rfl, z2]; decide), e3, if_neg (show ¬ tkW y b a k (3000 + 3) = true by rw [show 3000 + 3 = 3003 from rfl, z3]; decide), e4, if_neg (show ¬ tkW y b a k (3000 + 4) = true by rw [show 3000 + 4 = 3004 from rfl, z4]; decide), show nI (4 + 1) = nI 5 from rfl, e5]; rfl
  by_cases w6 : tkW y b a k 3013 = true
  · have hk : k = 1 := (tkW_iff.mp w6).1
    have z0 : tkW y b a k 3000 = false := tkW_ne w6 (by decide)
    have z1 : tkW y b a k 3001 = false := tkW_ne w6 (by decide)
    have z2 : tkW y b a k 3002 = false := tkW_ne w6 (by decide)
    have z3 : tkW y b a k 3003 = false := tkW_ne w6 (by decide)
    have z4 : tkW y b a k 3004 = false := tkW_ne w6 (by decide)
    have z5 : tkW y b a k 3012 = false := tkW_ne w6 (by decide)
    have z7 : tkW y b a k 3014 = false := tkW_ne w6 (by decide)
    refine ⟨6, by decide, ?_, ?_, ?_, ?_, ?_, fun _ => hk⟩
    · rw [c0, b1_s, if_pos (bF z0), c1, b1_s, if_pos (bF z1), c2, b1_s, if_pos (bF z2), c3, b1_s, if_pos (bF z3), c4, b1_s, if_pos (bF z4), c5, b1_s, if_pos (bF z5), c6, b1_s, if_neg (bT w6)]; rfl
    · rw [m5, z5]; rfl
    · rw [m6, w6]; rfl
    · rw [m7, z7]; rfl
    · rw [em, e0, if_neg (show ¬ tkW y b a k (3000 + 0) = true by rw [show 3000 + 0 = 3000 from rfl, z0]; decide), e1, if_neg (show ¬ tkW y b a k (3000 + 1) = true by rw [show 3000 + 1 = 3001 from rfl, z1]; decide), e2, if_neg (show ¬ tkW y b a k (3000 + 2) = true by rw [show 3000 + 2 = 3002 from rfl, z2]; decide), e3, if_neg (show ¬ tkW y b a k (3000 + 3) = true by rw [show 3000 + 3 = 3003 from rfl, z3]; decide), e4, if_neg (show ¬ tkW y b a k (3000 + 4) = true by rw [show 3000 + 4 = 3004 from rfl, z4]; decide), show nI (4 + 1) = nI 5 from rfl, e5]; rfl
  by_cases w7 : tkW y b a k 3014 = true
  · have hk : k = 1 := (tkW_iff.mp w7).1
    have z0 : tkW y b a k 3000 = false := tkW_ne w7 (by decide)
    have z1 : tkW y b a k 3001 = false := tkW_ne w7 (by decide)
    have z2 : tkW y b a k 3002 = false := tkW_ne w7 (by decide)
    have z3 : tkW y b a k 3003 = false := tkW_ne w7 (by decide)
    have z4 : tkW y b a k 3004 = false := tkW_ne w7 (by decide)
    have z5 : tkW y b a k 3012 = false := tkW_ne w7 (by decide)
    have z6 : tkW y b a k 3013 = false := tkW_ne w7 (by decide)
    refine ⟨7, by decide, ?_, ?_, ?_, ?_, ?_, fun _ => hk⟩
    · rw [c0, b1_s, if_pos (bF z0), c1, b1_s, if_pos (bF z1), c2, b1_s, if_pos (bF z2), c3, b1_s, if_pos (bF z3), c4, b1_s, if_pos (bF z4), c5, b1_s, if_pos (bF z5), c6, b1_s, if_pos (bF z6), c7, b1_s, if_neg (bT w7)]; rfl
    · rw [m5, z5]; rfl
    · rw [m6, z6]; rfl
    · rw [m7, w7]; rfl
    · rw [em, e0, if_neg (show ¬ tkW y b a k (3000 + 0) = true by rw [show 3000 + 0 = 3000 from rfl, z0]; decide), e1, if_neg (show ¬ tkW y b a k (3000 + 1) = true by rw [show 3000 + 1 = 3001 from rfl, z1]; decide), e2, if_neg (show ¬ tkW y b a k (3000 + 2) = true by rw [show 3000 + 2 = 3002 from rfl, z2]; decide), e3, if_neg (show ¬ tkW y b a k (3000 + 3) = true by rw [show 3000 + 3 = 3003 from rfl, z3]; decide), e4, if_neg (show ¬ tkW y b a k (3000 + 4) = true by rw [show 3000 + 4 = 3004 from rfl, z4]; decide), show nI (4 + 1) = nI 5 from rfl, e5]; rfl
  refine ⟨8, by decide, ?_, ?_, ?_, ?_, ?_, fun z => absurd rfl z⟩
  · rw [c0, b1_s, if_pos (bF (eq_false_of_ne_true w0)), c1, b1_s, if_pos (bF (eq_false_of_ne_true w1)), c2, b1_s, if_pos (bF (eq_false_of_ne_true w2)), c3, b1_s, if_pos (bF (eq_false_of_ne_true w3)), c4, b1_s, if_pos (bF (eq_false_of_ne_true w4)), c5, b1_s, if_pos (bF (eq_false_of_ne_true w5)), c6, b1_s, if_pos (bF (eq_false_of_ne_true w6)), c7, b1_s, if_pos (bF (eq_false_of_ne_true w7))]; rfl
  · rw [m5, eq_false_of_ne_true w5]; rfl
  · rw [m6, eq_false_of_ne_true w6]; rfl
  · rw [m7, eq_false_of_ne_true w7]; rfl
  · rw [em, e0, if_neg (show ¬ tkW y b a k (3000 + 0) = true by rw [show 3000 + 0 = 3000 from rfl, eq_false_of_ne_true w0]; decide), e1, if_neg (show ¬ tkW y b a k (3000 + 1) = true by rw [show 3000 + 1 = 3001 from rfl, eq_false_of_ne_true w1]; decide), e2, if_neg (show ¬ tkW y b a k (3000 + 2) = true by rw [show 3000 + 2 = 3002 from rfl, eq_false_of_ne_true w2]; decide), e3, if_neg (show ¬ tkW y b a k (3000 + 3) = true by rw [show 3000 + 3 = 3003 from rfl, eq_false_of_ne_true w3]; decide), e4, if_neg (show ¬ tkW y b a k (3000 + 4) = true by rw [show 3000 + 4 = 3004 from rfl, eq_false_of_ne_true w4]; decide), show nI (4 + 1) = nI 5 from rfl, e5]; rfl
end
/-! ===== a line, and all of them ===== -/
section
variable {y : Nat → Nat} {n b : Nat} {S M T U : Sto}
/-- what has been read, up to a token -/
def LnP (y : Nat → Nat) (n b N : Nat) (g : Nat → Nt5) (P tk : Nat) (pt pd : Bool) (s : Nat) (S M : Sto) : Prop := (∃ a k, Tk y n b a k S M) ∧ NtR N g S M ∧ PlcR P tk pt pd (decide (s ≠ 0)) S M ∧ (∃ d, RuR s d S M ∧ (s ≠ 0 → d = 1)) ∧ s ≤ b
theorem LnP.e {N P tk s : Nat} {g : Nat → Nt5} {pt pd : Bool} {b' a' k' : Nat} (h : LnP y n b N g P tk pt pd s S M) (q : eC S T) (r : eM M U) (hb : b ≤ b') (t : Tk y n b' a' k' T U) : LnP y n b' N g P tk pt pd s T U := by
  obtain ⟨_, h2, h3, ⟨d, h4, h5⟩, h6⟩ := h
  exact ⟨⟨a', k', t⟩, h2.fr q r, h3.gg q r (by decide) (by decide) (by decide) (by rw [r.ai 1003 (by decide)]), ⟨d, h4.e q r, h5⟩, by omega⟩
def LnO (y : Nat → Nat) (n b : Nat) (r : Int32) (S M : Sto) : Prop := (∃ b' N g P tk pt pd s, LnP y n b' N g P tk pt pd s S M ∧ b < b' ∧ r = nI (sn pt pd (decide (s ≠ 0)))) ∨ Dd S M
/-- the ';' behind a line -/
theorem end_nx {r x1 x2 : Int32} (hx : x1 ||| x2 = r ∨ Dd S M) (h : LnO y n b r S M) : ∃ S' M' r', (∀ k48 z, F_Rd_read_158 k48 z S = k48 (z + 1) S') ∧ F_m_readLine_156 x1 x2 M = some (r', M') ∧ eC S S' ∧ eM M M' ∧ LnO y n b r' S' M' := by
  have dead : Dd S M → ∃ S' M' r', (∀ k48 z, F_Rd_read_158 k48 z S = k48 (z + 1) S') ∧ F_m_readLine_156 x1 x2 M = some (r', M') ∧ eC S S' ∧ eM M M' ∧ LnO y n b r' S' M' := by
    intro hD
    refine ⟨S, M, x1 ||| x2, fun k48 z => ?_, ?_, Fr.rfl, Fr.rfl, Or.inr hD⟩
    · unfold F_Rd_read_158 F_Rd_read_171
      rw [if_neg hD.c]
    · unfold F_m_readLine_156
      rw [md_mark hD.m, b2_s]
  rcases h with ⟨b', N, g, P, tk, pt, pd, s, hL, hb, hr⟩ | hD
  · rcases hx with hx | hD
    · have hL' := hL
      obtain ⟨⟨a, k, t⟩, _⟩ := hL
      obtain ⟨S1, M1, p1, p2, p3, p4, p5⟩ := mark_ok t (c := 59) (by decide) (by decide)
      refine ⟨S1, M1, r, fun k48 z => ?_, ?_, p3, p4, ?_⟩
      · unfold F_Rd_read_158 F_Rd_read_171
        rw [if_pos t.c9, show F_Rd_expectSign 59 S = some ((), S1) from p1, b2_s]
      · unfold F_m_readLine_156
        rw [show F_m_mark 59 M = some ((), M1) from p2, b2_s, hx]
      · rcases p5 with ⟨b2', a2, k2, v1, v2⟩ | v
        · exact Or.inl ⟨b2', N, g, P, tk, pt, pd, s, hL'.e p3 p4 (by omega) v2, by omega, hr⟩
        · exact Or.inr v
    · exact dead hD
  · exact dead hD
theorem line_nx {N P tk s : Nat} {g : Nat → Nt5} {pt pd : Bool} {a k : Nat} (h : LnP y n b N g P tk pt pd s S M) (t : Tk y n b a k S M) (hk : k ≠ 0) :
    ∃ S' M' r', (∀ f i, i ≤ 500 → F_Rd_read_48 (f + 1) (nI i) S = F_Rd_read_48 f (nI (i + 1)) S') ∧ F_m_readLine (nI (sn pt pd (decide (s ≠ 0)))) M = some (r', M') ∧ cF S S' ∧ mF M M' ∧ LnO y n b r' S' M' := by
  have hba := t.ba
  have h0 := h
  obtain ⟨_, hN, hP, ⟨d, hR, hd⟩, hs⟩ := h
  obtain ⟨q, q8, l1, l2, l3, l4, l5, l6⟩ := kind_nx t
  have hk3 := t.k3
  have e12 : ¬ gi S 12 = 0 := by
    obtain ⟨_, _, _, _, _, _, _, _, _, t10, _⟩ := t
    rw [t10, (show (0 : Int32) = nI 0 from rfl), k3I hk3 (by decide)]
    exact hk
  -- the class's head
  have hd48 : ∀ f i, i ≤ 500 → F_Rd_read_48 (f + 1) (nI i) S = b1 (F_Rd_lineKind S) (fun r1 => if r1 = (-1) then b2 (F_Rd_fail (1 : Int32) S) (fun r3 S5 => F_Rd_read_158 (F_Rd_read_48 f) (nI i) S5) else (if r1 = 0 then F_Rd_read_153 (F_Rd_read_48 f) (nI i) r1 S else (if r1 = 1 then F_Rd_read_153 (F_Rd_read_48 f) (nI i) r1 S else (if r1 = 2 then F_Rd_read_153 (F_Rd_read_48 f) (nI i) r1 S else (if r1 = 3 then F_Rd_read_153 (F_Rd_read_48 f) (nI i) r1 S else (if r1 = 4 then F_Rd_read_153 (F_Rd_read_48 f) (nI i) r1 S else (if r1 = 5 then b2 (F_Rd_readPlaces S) (fun r6 S8 => F_Rd_read_158 (F_Rd_read_48 f) (nI i) S8) else (if r1 = 6 then b2 (F_Rd_readPond S) (fun r9 S11 => F_Rd_read_158 (F_Rd_read_48 f) (nI i) S11) else (if r1 = 7 then b2 (F_Rd_readSpawns S) (fun r12 S14 => F_Rd_read_158 (F_Rd_read_48 f) (nI i) S14) else (F_Rd_read_153 (F_Rd_read_48 f) (nI i) r1 S)))))))))) := by
    intro f i hi
    rw [F_Rd_read_48, if_neg (show ¬ (500 : Int32) < nI i by rw [(show (500 : Int32) = nI 500 from rfl), lt_nI (by decide) (by omega)]; omega), if_pos t.c9, if_neg e12]
  have nxt1 : ∀ i : Nat, nI i + (1 : Int32) = nI (i + 1) := fun i => nI_add i 1
  -- from a line's own part to the ';'
  have fin : ∀ {S1 M1 : Sto} {r x2 : Int32}, (∀ f i, i ≤ 500 → F_Rd_read_48 (f + 1) (nI i) S = F_Rd_read_158 (F_Rd_read_48 f) (nI i) S1) → F_m_readLine (nI (sn pt pd (decide (s ≠ 0)))) M = F_m_readLine_156 (nI (sn pt pd (decide (s ≠ 0)))) x2 M1 → cF S S1 → mF M M1 → (nI (sn pt pd (decide (s ≠ 0))) ||| x2 = r ∨ Dd S1 M1) → LnO y n b r S1 M1 →
      ∃ S' M' r', (∀ f i, i ≤ 500 → F_Rd_read_48 (f + 1) (nI i) S = F_Rd_read_48 f (nI (i + 1)) S') ∧ F_m_readLine (nI (sn pt pd (decide (s ≠ 0)))) M = some (r', M') ∧ cF S S' ∧ mF M M' ∧ LnO y n b r' S' M' := by
    intro S1 M1 r x2 w1 w2 w3 w4 w5 w6
    obtain ⟨S2, M2, r2, z1, z2, z3, z4, z5⟩ := end_nx w5 w6
    refine ⟨S2, M2, r2, fun f i hi => ?_, by rw [w2]; exact z2, w3.trans z3.c, w4.trans z4.c, z5⟩
    rw [w1 f i hi, z1, nxt1]
  by_cases q5 : q < 5
  · obtain ⟨S1, M1, p1, p2, p3, p4, p5⟩ := readNet_ok t (l6 (by omega)) hN (show q ≤ 4 by omega)
    refine fin (S1 := S1) (M1 := M1) (r := nI (sn pt pd (decide (s ≠ 0)))) (x2 := 0) ?_ ?_ p3.c p4.c (Or.inl (sn_0 _ _ _).2) ?_
    · intro f i hi
      have e153 : F_Rd_read_153 (F_Rd_read_48 f) (nI i) (nI q) S = F_Rd_read_158 (F_Rd_read_48 f) (nI i) S1 := by
        unfold F_Rd_read_153
        rw [p1, b2_s]
      rw [hd48 f i hi, l1, if_neg (by omega), b1_s]
      have hq : q = 0 ∨ q = 1 ∨ q = 2 ∨ q = 3 ∨ q = 4 := by omega
      rcases hq with rfl | rfl | rfl | rfl | rfl
      · rw [if_neg (by decide), if_pos (show nI 0 = 0 from rfl)]; exact e153
      · rw [if_neg (by decide), if_neg (by decide), if_pos (show nI 1 = 1 from rfl)]; exact e153
      · rw [if_neg (by decide), if_neg (by decide), if_neg (by decide), if_pos (show nI 2 = 2 from rfl)]; exact e153
      · rw [if_neg (by decide), if_neg (by decide), if_neg (by decide), if_neg (by decide), if_pos (show nI 3 = 3 from rfl)]; exact e153
      · rw [if_neg (by decide), if_neg (by decide), if_neg (by decide), if_neg (by decide), if_neg (by decide), if_pos (show nI 4 = 4 from rfl)]; exact e153
    · have nq : ¬ nI q = -1 := by
        rw [show (-1 : Int32) = zI (-1) from rfl, nI_z, eq_zI (by omega) (by omega) (by omega) (by omega)]
        omega
      unfold F_m_readLine F_m_readLine_43
      rw [l2, b1_s, if_pos (bF (decide_eq_false (by omega))), l3, b1_s, if_pos (bF (decide_eq_false (by omega))), l4, b1_s, if_pos (bF (decide_eq_false (by omega))), l5, if_pos q5, b1_s, if_pos (sn_0 _ _ _).1]
      unfold F_m_readLine_66 F_m_readLine_83
      rw [if_neg (by decide), if_neg nq, p2, b2_s]
    · rcases p5 with ⟨b', a', k', g', v1, v2, v3⟩ | v
      · refine Or.inl ⟨b', N + 1, g', P, tk, pt, pd, s, ⟨⟨a', k', v2⟩, v3, ?_, ⟨d, ?_, hd⟩, by omega⟩, v1, rfl⟩
        · exact hP.gg p3 p4.1 (by decide) (by decide) (by decide) (p4.2.1 4 (by decide))
        · exact hR.gg p3 p4.1 (by decide) (by decide) (by decide) (p4.2.1 5 (by decide))
      · exact Or.inr v
  · have l5' : F_m_which_1000_1001 M = some (-1) := by rw [l5, if_neg q5]
    have hq : q = 5 ∨ q = 6 ∨ q = 7 ∨ q = 8 := by omega
    rcases hq with rfl | rfl | rfl | rfl
    · obtain ⟨S1, M1, p1, p2, p3, p4, p5, p6⟩ := places_ok t (l6 (by decide)) hP l5'
      have mf : mF M M1 := by
        refine ⟨p4.mono (by decide) (by decide) (by decide) (by decide) (by decide), fun i hi => p5 i (by omega), fun i hi => ?_, fun i hi => ?_⟩
        · rw [p4.ai 1004 (by decide), p4.ai 1005 (by decide), p4.ai 1006 (by decide), p4.al 1009 (by decide), p4.al 1010 (by decide)]
          exact ⟨rfl, rfl, rfl, rfl, rfl⟩
        · rw [p4.ai 1007 (by decide)]
      refine fin (S1 := S1) (M1 := M1) (r := nI (sn true pd (decide (s ≠ 0)))) (x2 := 1) ?_ ?_ (p3.mono (by decide) (by decide) (by decide) (by decide) (by decide)) mf (Or.inl (sn_1 _ _ _).2.2) ?_
      · intro f i hi
        rw [hd48 f i hi, l1, if_neg (by decide), b1_s, if_neg (by decide), if_neg (by decide), if_neg (by decide), if_neg (by decide), if_neg (by decide), if_neg (by decide), if_pos (show nI 5 = 5 from rfl), p1, b2_s]
      · unfold F_m_readLine
        rw [l2, b1_s, if_neg (bT (decide_eq_true rfl))]
        exact p2
      · rcases p6 with ⟨b', a', k', P', v1, v2, v3⟩ | v
        · refine Or.inl ⟨b', N, g, P', tk, true, pd, s, ⟨⟨a', k', v2⟩, ?_, v3, ⟨d, ?_, hd⟩, by omega⟩, v1, rfl⟩
          · exact hN.gg p3 p4 (by decide) (by decide) (by decide) (by decide) (by decide) (p5 3 (by decide))
          · exact hR.gg p3 p4 (by decide) (by decide) (by decide) (p5 5 (by decide))
        · exact Or.inr v
    · obtain ⟨S1, M1, p1, p2, p3, p4, p5⟩ := pond_nx t (l6 (by decide)) hP l5'
      have mf : mF M M1 := by
        refine ⟨p4.mono (by decide) (by decide) (by decide) (by decide) (by decide), fun i hi => ?_, fun i hi => ?_, fun i hi => ?_⟩
        · rw [p4.ai 1003 (by decide)]
        · rw [p4.ai 1004 (by decide), p4.ai 1005 (by decide), p4.ai 1006 (by decide), p4.al 1009 (by decide), p4.al 1010 (by decide)]
          exact ⟨rfl, rfl, rfl, rfl, rfl⟩
        · rw [p4.ai 1007 (by decide)]
      refine fin (S1 := S1) (M1 := M1) (r := nI (sn pt true (decide (s ≠ 0)))) (x2 := 2) ?_ ?_ (p3.mono (by decide) (by decide) (by decide) (by decide) (by decide)) mf (Or.inl (sn_2 _ _ _).2) ?_
      · intro f i hi
        rw [hd48 f i hi, l1, if_neg (by decide), b1_s, if_neg (by decide), if_neg (by decide), if_neg (by decide), if_neg (by decide), if_neg (by decide), if_neg (by decide), if_neg (by decide), if_pos (show nI 6 = 6 from rfl), p1, b2_s]
      · unfold F_m_readLine
        rw [l2, b1_s, if_pos (bF (decide_eq_false (by decide))), l3, b1_s, if_neg (bT (decide_eq_true rfl))]
        exact p2
      · rcases p5 with ⟨b', a', k', tk', v1, v2, v3⟩ | v
        · refine Or.inl ⟨b', N, g, P, tk', pt, true, s, ⟨⟨a', k', v2⟩, ?_, v3, ⟨d, ?_, hd⟩, by omega⟩, v1, rfl⟩
          · exact hN.gg p3 p4 (by decide) (by decide) (by decide) (by decide) (by decide) (by rw [p4.ai 1003 (by decide)])
          · exact hR.gg p3 p4 (by decide) (by decide) (by decide) (by rw [p4.ai 1003 (by decide)])
        · exact Or.inr v
    · obtain ⟨S1, M1, p1, p2, p3, p4, p5⟩ := spawns_nx t (l6 (by decide)) hP hR l5'
      refine fin (S1 := S1) (M1 := M1) (r := nI (sn pt pd true)) (x2 := 4) ?_ ?_ (p3.mono (by decide) (by decide) (by decide) (by decide) (by decide)) p4.c (Or.inl (sn_4 _ _ _).2) ?_
      · intro f i hi
        rw [hd48 f i hi, l1, if_neg (by decide), b1_s, if_neg (by decide), if_neg (by decide), if_neg (by decide), if_neg (by decide), if_neg (by decide), if_neg (by decide), if_neg (by decide), if_neg (by decide), if_pos (show nI 7 = 7 from rfl), p1, b2_s]
      · unfold F_m_readLine
        rw [l2, b1_s, if_pos (bF (decide_eq_false (by decide))), l3, b1_s, if_pos (bF (decide_eq_false (by decide))), l4, b1_s, if_neg (bT (decide_eq_true rfl))]
        exact p2
      · rcases p5 with ⟨b', a', k', s', v1, v2, v3, v4, v5, v6⟩ | v
        · have ds : decide (s' ≠ 0) = true := decide_eq_true v3
          refine Or.inl ⟨b', N, g, P, tk, pt, pd, s', ⟨⟨a', k', v4⟩, ?_, by rw [ds]; exact v5, ⟨1, v6, fun _ => rfl⟩, v2⟩, v1, by rw [ds]⟩
          exact hN.gg p3 p4.1 (by decide) (by decide) (by decide) (by decide) (by decide) (p4.2.1 3 (by decide))
        · exact Or.inr v
    · obtain ⟨S1, M1, p1, p2, p3, p4, p5⟩ := none_nx (pt := pt) (pd := pd) (rt := decide (s ≠ 0)) t l5'
      refine fin (S1 := S1) (M1 := M1) (r := 0) (x2 := 0) ?_ ?_ p3.c p4.c (Or.inr p5) (Or.inr p5)
      · intro f i hi
        rw [hd48 f i hi, l1, if_pos rfl, b1_s, if_pos rfl, p1, b2_s]
      · unfold F_m_readLine
        rw [l2, b1_s, if_pos (bF (decide_eq_false (by decide))), l3, b1_s, if_pos (bF (decide_eq_false (by decide))), l4, b1_s, if_pos (bF (decide_eq_false (by decide)))]
        exact p2
theorem read_lp : ∀ (j f f' i b N P tk s : Nat) (g : Nat → Nt5) (pt pd : Bool) (S M : Sto), n < b + j → j < f → j < f' → i ≤ b → LnP y n b N g P tk pt pd s S M → ∃ S' M' r, F_Rd_read_48 f (nI i) S = some (r, S') ∧ F_m_sea_81 f' (nI (sn pt pd (decide (s ≠ 0)))) M = F_m_sea_104 M' ∧ cF S S' ∧ mF M M' ∧
    ((r = 0 ∧ ∃ b' N' g' P' tk' pt' pd' s', LnP y n b' N' g' P' tk' pt' pd' s' S' M') ∨ (Dd S' M' ∧ r = gi S' 9)) := by
  intro j
  induction j with
  | zero =>
    intro f f' i b N P tk s g pt pd S M hj _ _ _ h
    obtain ⟨⟨a, k, t⟩, _⟩ := h
    have := t.ba
    omega
  | succ j ih =>
    intro f f' i b N P tk s g pt pd S M hj hf hf' hi h
    obtain ⟨f, rfl⟩ : ∃ q, f = q + 1 := ⟨f - 1, by omega⟩
    obtain ⟨f', rfl⟩ : ∃ q, f' = q + 1 := ⟨f' - 1, by omega⟩
    have hL := h
    obtain ⟨⟨a, k, t⟩, _⟩ := h
    have hba := t.ba
    have n500 : ¬ (500 : Int32) < nI i := by rw [(show (500 : Int32) = nI 500 from rfl), lt_nI (by decide) (by omega)]; omega
    have e12 : gi S 12 = nI k := by
      obtain ⟨_, _, _, _, _, _, _, _, _, t10, _⟩ := t
      exact t10
    by_cases hk : k = 0
    · have e6 : gi M 1006 = 0 := by
        obtain ⟨_, _, _, _, _, _, _, _, _, _, _, _, t13⟩ := t
        rcases t13 with w | w | w | w
        · exact w.2.1
        · omega
        · omega
        · omega
      refine ⟨S, M, 0, ?_, ?_, Fr.rfl, mF.rfl, Or.inl ⟨rfl, b, N, g, P, tk, pt, pd, s, hL⟩⟩
      · rw [F_Rd_read_48, if_neg n500, if_pos t.c9, if_pos (by rw [e12, hk]; rfl), t.c9]
      · rw [F_m_sea_81, if_pos t.m10, if_pos e6]
    · have e6 : ¬ gi M 1006 = 0 := by
        obtain ⟨_, _, _, _, _, _, _, _, _, _, _, _, t13⟩ := t
        rcases t13 with w | w | w | w
        · omega
        · rw [w.2.1]; decide
        · rw [w.2.1]; decide
        · rw [w.2.2.2]; split <;> decide
      obtain ⟨S1, M1, r1, p1, p2, p3, p4, p5⟩ := line_nx hL t hk
      rw [p1 f i (by omega), F_m_sea_81, if_pos t.m10, if_neg e6, p2, b2_s]
      rcases p5 with ⟨b', N', g', P', tk', pt', pd', s', hL', hb', hr⟩ | hD
      · obtain ⟨S2, M2, r2, z1, z2, z3, z4, z5⟩ := ih f f' (i + 1) b' N' P' tk' s' g' pt' pd' S1 M1 (by omega) (by omega) (by omega) (by omega) hL'
        exact ⟨S2, M2, r2, z1, by rw [hr]; exact z2, p3.trans z3, p4.trans z4, z5⟩
      · obtain ⟨f, rfl⟩ : ∃ q, f = q + 1 := ⟨f - 1, by omega⟩
        obtain ⟨f', rfl⟩ : ∃ q, f' = q + 1 := ⟨f' - 1, by omega⟩
        refine ⟨S1, M1, gi S1 9, ?_, ?_, p3, p4, Or.inr ⟨hD, rfl⟩⟩
        · rw [F_Rd_read_48, if_neg hD.c]
          split <;> rfl
        · rw [F_m_sea_81, if_neg hD.m]
end
