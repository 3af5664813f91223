/-! ===== the class: first, amount, pick ===== -/
theorem lN_ne {x : Nat} (h : x < 9223372036854775808) : ¬ lN x = -1 := by
  rw [show (-1 : Int64) = zL (-1) from rfl, lN_z, eq_zL (by omega) (by omega) (by omega) (by omega)]
  omega
theorem nC_le (Z : Zt) (s lo hi : Nat) : nC Z s lo hi ≤ hi + 1 - lo := fb_ct_le _ _
def PickR (Z : Zt) (s lo hi : Nat) (x res : Int64) : Prop := (∃ i y, i < nC Z s lo hi ∧ x = lN i ∧ Ith Z s lo hi i y ∧ res = lN y) ∨ ((¬ ∃ i, i < nC Z s lo hi ∧ x = lN i) ∧ res = -1)
theorem PickR.uni {Z : Zt} {s lo hi : Nat} {x a b : Int64} (hh : hi ≤ 1000000000000) (h : PickR Z s lo hi x a) (g : PickR Z s lo hi x b) : a = b := by
  have hn := nC_le Z s lo hi
  rcases h with ⟨i, y, h1, h2, h3, h4⟩ | ⟨h1, h2⟩
  · rcases g with ⟨j, z, g1, g2, g3, g4⟩ | ⟨g1, g2⟩
    · have e : i = j := by
        have : lN i = lN j := h2.symm.trans g2
        rw [eq_lN (by omega) (by omega)] at this
        exact this
      subst e
      rw [h4, g4, h3.uni g3]
    · exact absurd ⟨i, h1, h2⟩ g1
  · rcases g with ⟨j, z, g1, g2, g3, g4⟩ | ⟨g1, g2⟩
    · exact absurd ⟨j, g1, g2⟩ h1
    · rw [h2, g2]
def flN (g r f t low : Nat) : Int64 := if g = 0 then -1 else if lf g r (max low f) ≤ t then lN (lf g r (max low f)) else -1
theorem remS {r a g : Nat} (hr : r < 4611686018427387904) (ha : a < 4611686018427387904) (hg : 0 < g) (hg2 : g < 4611686018427387904) : F_w_remainder (lN r - lN a) (lN g) = some (zL (((r : Int) - a).tmod g)) := by
  rw [lN_z r, lN_z a, sub_zL]
  exact remZ (by omega) (by omega) hg (by omega)
theorem shas_n {Z : Zt} {S : Sto} (hz : ZOk Z) (h25 : gi S 25 = nI (2 ^ zN Z)) {x : Int32} (h : ¬ ∃ s, s < 2 ^ zN Z ∧ x = nI s) : F_Sh_has x S = some 0 := by
  have p := p2N hz
  unfold F_Sh_has
  by_cases q : x < 0
  · rw [if_pos q]
  · rw [if_neg q, h25, if_pos]
    obtain ⟨k, hk, rfl⟩ := nI_of q
    rw [le_nI (by omega) hk]
    exact Nat.not_lt.mp (fun r => h ⟨k, r, rfl⟩)
def ShE (S : Sto) (s g r f t : Nat) : Prop := al S 22 s = lN g ∧ al S 23 s = lN r ∧ al S 24 s = lN f ∧ al S 25 s = lN t
section
variable {Z : Zt} {S : Sto} {s g r f t low hi : Nat}
theorem ff_ok (hz : ZOk Z) (h25 : gi S 25 = nI (2 ^ zN Z)) (hs : s < 2 ^ zN Z) (e : ShE S s g r f t) (h : shOk Z s g r f t) (hl : low ≤ 1000000000000) : F_Sh_firstFrom (nI s) (lN low) S = some (flN g r f t low) := by
  have p := p2N hz
  obtain ⟨e1, e2, e3, e4⟩ := e
  obtain ⟨c1, c2, c3, c4, _⟩ := h
  unfold F_Sh_firstFrom flN
  rw [shas_y h25 p hs, b1_s, if_neg I1_0, ck_t (ib_nI (by omega) (by omega)), nI_clamp (by omega), e1]
  rcases Nat.eq_zero_or_pos g with z | hg
  · subst z
    rw [if_neg (by decide), if_pos rfl]; rfl
  have hm : max low f ≤ 1000000000000 := by omega
  have tl : ∀ (y : Int), 0 ≤ y → y < g → y = ((r : Int) - (max low f : Nat)) % g → F_Sh_firstFrom_78 (nI s) (lN (max low f)) (zL y) S = some (if lf g r (max low f) ≤ t then lN (lf g r (max low f)) else -1) := by
    intro y y0 y1 y2
    have e : lN (max low f) + zL y = lN (lf g r (max low f)) := by
      unfold lf
      rw [← y2, zL_n y0, lN_add]
    have hb := lf_lt (r := r) (a := max low f) hg
    unfold F_Sh_firstFrom_78
    rw [ck_t (ib_nI (by omega) (by omega)), nI_clamp (by omega), e4, e]
    by_cases q : lf g r (max low f) ≤ t
    · rw [if_neg (by rw [lt_lN (by omega) (by omega)]; omega), if_pos q]
    · rw [if_pos (by rw [lt_lN (by omega) (by omega)]; omega), if_neg q]
  rw [if_pos (by rw [(show (1 : Int64) = lN 1 from rfl), le_lN (by decide) (by omega)]; exact hg), if_neg (by omega), ck_t (ib_nI (by omega) (by omega)), ck_t (ib_nI (by omega) (by omega)), ck_t (ib_nI (by omega) (by omega)), e2, e3, mxN (by omega) (by omega), remS (by omega) (by omega) hg (by omega), b1_s]
  have b := tmB (x := (r : Int) - (max low f : Nat)) hg
  have b2 := tmE (x := (r : Int) - (max low f : Nat)) hg
  generalize ((r : Int) - (max low f : Nat)).tmod g = y at b b2 ⊢
  by_cases q : 0 ≤ y
  · rw [if_pos q] at b2
    rw [if_pos (by rw [show (0 : Int64) = zL 0 from rfl, le_zL (by omega) (by omega) (by omega) (by omega)]; exact q)]
    exact tl y q b.2 b2
  · rw [if_neg q] at b2
    rw [if_neg (by rw [show (0 : Int64) = zL 0 from rfl, le_zL (by omega) (by omega) (by omega) (by omega)]; exact q), ck_t (ib_nI (by omega) (by omega)), lN_z g, add_zL]
    exact tl (y + g) (by omega) (by omega) b2
theorem fl_c (h : shOk Z s g r f t) (hs : s < 2 ^ zN Z) (h1 : 1 ≤ low) (hh : hi ≤ 1000000000000) : (nC Z s low hi = 0 ∧ (flN g r f t low = -1 ∨ ∃ x, flN g r f t low = lN x ∧ hi < x ∧ x ≤ 1000000000000)) ∨
    (0 < g ∧ flN g r f t low = lN (lf g r (max low f)) ∧ lf g r (max low f) ≤ min hi t ∧ nC Z s low hi = (min hi t - lf g r (max low f)) / g + 1) := by
  have c := cnt_sh (lo := low) (hi := hi) hs h h1 hh
  have ht := h.2.1
  unfold flN
  by_cases z : g = 0
  · rw [if_pos z] at c ⊢
    exact Or.inl ⟨c, Or.inl rfl⟩
  · rw [if_neg z] at c ⊢
    by_cases q : lf g r (max low f) ≤ t
    · rw [if_pos q]
      by_cases w : lf g r (max low f) ≤ min hi t
      · rw [if_pos w] at c
        exact Or.inr ⟨by omega, rfl, w, c⟩
      · rw [if_neg w] at c
        exact Or.inl ⟨c, Or.inr ⟨_, rfl, by omega, by omega⟩⟩
    · rw [if_neg q]
      rw [if_neg (by omega)] at c
      exact Or.inl ⟨c, Or.inl rfl⟩
theorem amount_ok (hz : ZOk Z) (h25 : gi S 25 = nI (2 ^ zN Z)) (hs : s < 2 ^ zN Z) (e : ShE S s g r f t) (h : shOk Z s g r f t) (h1 : 1 ≤ low) (hl : low ≤ 1000000000000) (hh : hi ≤ 1000000000000) : F_Sh_amount (nI s) (lN low) (lN hi) S = some (lN (nC Z s low hi)) := by
  have p := p2N hz
  have e' := e
  obtain ⟨e1, e2, e3, e4⟩ := e
  have ht := h.2.1
  have hg2 := h.2.2.1
  unfold F_Sh_amount
  rw [ff_ok hz h25 hs e' h hl, b1_s]
  rcases fl_c h hs h1 hh with ⟨c, q | ⟨x, q, q1, q2⟩⟩ | ⟨hg, q, w, c⟩
  · rw [q, if_pos rfl, c]; rfl
  · rw [q, if_neg (lN_ne (by omega)), shas_y h25 p hs, b1_s, if_neg I1_0, if_neg (by rw [le_lN (by omega) (by omega)]; omega), c]; rfl
  · rw [q, if_neg (lN_ne (by omega)), shas_y h25 p hs, b1_s, if_neg I1_0, if_pos (by rw [le_lN (by omega) (by omega)]; omega), ck_t (ib_nI (by omega) (by omega)), ck_t (ib_nI (by omega) (by omega)), nI_clamp (by omega), e4, e1, mnN (by omega) (by omega), sub_lN w, quoW (by omega) hg (by omega), b1_s, c]
    exact congrArg some (lN_add _ 1)
theorem pick_ok (hz : ZOk Z) (h25 : gi S 25 = nI (2 ^ zN Z)) (hs : s < 2 ^ zN Z) (e : ShE S s g r f t) (h : shOk Z s g r f t) (h1 : 1 ≤ low) (hl : low ≤ 1000000000000) (hh : hi ≤ 1000000000000) (x : Int64) : ∃ w, F_Sh_pick (nI s) (lN low) (lN hi) x S = some w ∧ PickR Z s low hi x w := by
  have p := p2N hz
  have e' := e
  obtain ⟨e1, e2, e3, e4⟩ := e
  have hn := nC_le Z s low hi
  unfold F_Sh_pick
  rw [shas_y h25 p hs, b1_s, if_neg I1_0]
  rcases L_cases x with q | ⟨i, hi2, rfl⟩
  · refine ⟨-1, ?_, Or.inr ⟨?_, rfl⟩⟩
    · rw [if_pos (show x < 0 from q)]; rfl
    · rintro ⟨i, i1, rfl⟩
      rw [lt_lN (by omega) (by decide)] at q
      omega
  · rw [if_neg (by rw [(show (0 : Int64) = lN 0 from rfl), lt_lN (by omega) (by decide)]; omega), amount_ok hz h25 hs e' h h1 hl hh, b1_s]
    by_cases q : i < nC Z s low hi
    · rcases fl_c h hs h1 hh with ⟨c, _⟩ | ⟨hg, q2, w, c⟩
      · omega
      · have hi3 := ith_sh hs h h1 hh hg w (i := i) (by omega)
        refine ⟨lN (lf g r (max low f) + i * g), ?_, Or.inl ⟨i, _, q, rfl, hi3.1, rfl⟩⟩
        rw [if_pos (by rw [lt_lN (by omega) (by omega)]; exact q), ff_ok hz h25 hs e' h hl, b1_s, q2, ck_t (ib_nI (by omega) (by omega)), nI_clamp (by omega), e1, lN_mul, lN_add]
    · refine ⟨-1, ?_, Or.inr ⟨?_, rfl⟩⟩
      · rw [if_neg (by rw [lt_lN (by omega) (by omega)]; exact q)]; rfl
      · rintro ⟨j, j1, j2⟩
        rw [eq_lN (by omega) (by omega)] at j2
        omega
end
