/-! ===== the model: least, many; all, next, place ===== -/
theorem mx_n1 {x : Int64} {a : Nat} (h : x < lN 0) (ha : a < 9223372036854775808) : mxL (lN a) x = lN a := by
  unfold mxL
  rw [if_pos (by rw [neg_ltL h ha]; trivial)]
theorem mx_n2 {x : Int64} {a : Nat} (h : x < lN 0) (ha : a < 9223372036854775808) : mxL x (lN a) = lN a := by
  unfold mxL
  rw [if_neg (fun w => by
    have e := neg_leL h ha
    rw [← e]
    exact Int64.le_of_lt w)]
section
variable {Z : Zt} {M : Sto} {s g r f t lo hi : Nat}
theorem mlf_ok (h : shOk Z s g r f t) (a24 : gl M 1024 = lN (max lo f)) (a25 : gl M 1025 = lN (min hi t)) (hc : (g = 0 ∧ gi M 1026 = 1) ∨ (0 < g ∧ gi M 1026 = 0 ∧ gl M 1022 = lN g ∧ gl M 1023 = lN r)) (hl : lo ≤ 1000000000000) {x : Int64} {v : Nat} (hx : mxL (lN (max lo f)) x = lN (max (max lo f) v)) (hv : v < 9223372036854775808) :
    F_m_leastFrom x M = some (if g = 0 then -1 else if lf g r (max (max lo f) v) ≤ min hi t then lN (lf g r (max (max lo f) v)) else -1) := by
  obtain ⟨c1, c2, c3, c4, _⟩ := h
  unfold F_m_leastFrom
  rcases hc with ⟨g0, f1⟩ | ⟨g0, f0, m22, m23⟩
  · rw [if_neg (by rw [f1]; decide), if_pos g0]; rfl
  have hr : r < g := by omega
  have hge := lf_ge g r (max (max lo f) v)
  have hlt := lf_lt (r := r) (a := max (max lo f) v) g0
  rw [if_pos (by rw [f0]), if_neg (show ¬ g = 0 by omega), a24, hx, a25]
  generalize ha : max (max lo f) v = a at *
  by_cases q : a ≤ min hi t
  · have tl : ∀ (y : Int), 0 ≤ y → y < g → y = ((r : Int) - a) % g → F_m_leastFrom_62 (lN a) (zL y) M = some (if lf g r a ≤ min hi t then lN (lf g r a) else -1) := by
      intro y y0 y1 y2
      have e : lN a + zL y = lN (lf g r a) := by
        unfold lf
        rw [← y2, zL_n y0, lN_add]
      unfold F_m_leastFrom_62
      rw [a25, e]
      by_cases w : lf g r a ≤ min hi t
      · rw [if_pos (by rw [le_lN (by omega) (by omega)]; exact w), if_pos w]
      · rw [if_neg (by rw [le_lN (by omega) (by omega)]; exact w), if_neg w]
    have b2 := emE (a := a) hr
    have hm : a % g < g := Nat.mod_lt _ g0
    rw [if_pos (by rw [le_lN (by omega) (by omega)]; exact q), m22, m23, ck_t (nzL_lN g0 (by omega)), nm_q rfl, rem_lN (by omega) g0 (by omega)]
    have e1 : lN r - lN (a % g) = zL ((r : Int) - (a % g : Nat)) := by rw [lN_z r, lN_z (a % g), sub_zL]
    rw [e1]
    generalize hy : (r : Int) - (a % g : Nat) = y at b2 ⊢
    by_cases w : 0 ≤ y
    · rw [if_pos w] at b2
      rw [if_pos (by rw [show (0 : Int64) = zL 0 from rfl, le_zL (by omega) (by omega) (by omega) (by omega)]; exact w)]
      exact tl y w (by omega) b2
    · rw [if_neg w] at b2
      rw [if_neg (by rw [show (0 : Int64) = zL 0 from rfl, le_zL (by omega) (by omega) (by omega) (by omega)]; exact w), lN_z g, add_zL]
      exact tl (y + g) (by omega) (by omega) b2
  · rw [if_neg (by rw [le_lN (by omega) (by omega)]; exact q), if_neg (show ¬ lf g r a ≤ min hi t by omega)]; rfl
theorem mo_use (h : MO Z lo hi s M) (hs : s < 2 ^ zN Z) (h1 : 1 ≤ lo) (hl : lo ≤ 1000000000000) (hh : hi ≤ 1000000000000) : F_m_manyNow M = some (lN (nC Z s lo hi)) ∧
    (∀ (x : Int64) (v : Nat), v < 9223372036854775808 → (x < lN 0 ∧ v = 0 ∨ x = lN v) → ∃ w, F_m_leastFrom x M = some w ∧ PickR Z s (max lo v) hi (lN 0) w) ∧
    (∀ i, i < nC Z s lo hi → ∃ y w, Ith Z s lo hi i y ∧ F_m_leastFrom (gl M 1024) M = some w ∧ w + lN i * gl M 1022 = lN y) := by
  obtain ⟨g, r, f, t, hsh, a24, a25, hc⟩ := h
  have hf := hsh.1
  have ht := hsh.2.1
  have hg2 := hsh.2.2.1
  have e0 := mlf_ok hsh a24 a25 hc hl (x := lN (max lo f)) (v := max lo f) (mxN (by omega) (by omega)) (by omega)
  have c := cnt_sh (lo := lo) (hi := hi) hs hsh h1 hh
  rw [Nat.max_self] at e0
  refine ⟨?_, ?_, ?_⟩
  · unfold F_m_manyNow
    rw [a24, e0, b1_s, a25]
    rcases hc with ⟨g0, f1⟩ | ⟨g0, f0, m22, m23⟩
    · rw [if_pos g0, if_pos rfl]
      rw [if_pos g0] at c
      rw [c]; rfl
    · rw [if_neg (show ¬ g = 0 by omega)] at c ⊢
      by_cases q : lf g r (max lo f) ≤ min hi t
      · rw [if_pos q] at c ⊢
        rw [if_neg (lN_ne (by omega)), m22, ck_t (nzL_lN g0 (by omega)), sub_lN q, div_lN (by omega) g0 (by omega), c]
        exact congrArg some (lN_add _ 1)
      · rw [if_neg q] at c ⊢
        rw [if_pos rfl, c]; rfl
  · intro x v hv hx
    have hx2 : mxL (lN (max lo f)) x = lN (max (max lo f) v) := by
      rcases hx with ⟨x1, x2⟩ | x1
      · rw [mx_n1 x1 (by omega), x2, Nat.max_zero]
      · rw [x1]; exact mxN (by omega) (by omega)
    have e := mlf_ok hsh a24 a25 hc hl hx2 hv
    have c2 := cnt_sh (lo := max lo v) (hi := hi) hs hsh (by omega) hh
    have em : max (max lo f) v = max (max lo v) f := by omega
    refine ⟨_, e, ?_⟩
    rw [em]
    by_cases g0 : g = 0
    · rw [if_pos g0] at c2 ⊢
      exact Or.inr ⟨fun ⟨i, i1, _⟩ => by omega, rfl⟩
    · rw [if_neg g0] at c2 ⊢
      by_cases q : lf g r (max (max lo v) f) ≤ min hi t
      · rw [if_pos q] at c2 ⊢
        have := ith_sh (lo := max lo v) hs hsh (by omega) hh (by omega) q (i := 0) (Nat.zero_le _)
        rw [Nat.zero_mul, Nat.add_zero] at this
        exact Or.inl ⟨0, _, by rw [c2]; exact Nat.succ_pos _, rfl, this.1, rfl⟩
      · rw [if_neg q] at c2 ⊢
        exact Or.inr ⟨fun ⟨i, i1, _⟩ => by omega, rfl⟩
  · intro i hi2
    rcases hc with ⟨g0, f1⟩ | ⟨g0, f0, m22, m23⟩
    · rw [if_pos g0] at c; omega
    · rw [if_neg (show ¬ g = 0 by omega)] at c e0
      by_cases q : lf g r (max lo f) ≤ min hi t
      · rw [if_pos q] at c e0
        have := ith_sh hs hsh h1 hh g0 q (i := i) (by omega)
        refine ⟨_, _, this.1, by rw [a24]; exact e0, ?_⟩
        rw [m22, lN_mul, lN_add]
      · rw [if_neg q] at c; omega
end
