/-! ===== the class ties a knot ===== -/
theorem knot_ok {S : Sto} {h p q g r m s : Nat} (hh : gi S 25 = nI h) (hh2 : h ≤ 256) (hq : q < h) (hp : p < 256) (g1 : al S 22 q = lN g) (r1 : al S 23 q = lN r) (hg : g ≤ 2097152000000000000) (hr : g = 0 ∨ r < g) (h1 : 1 ≤ m) (hm : m ≤ 2097152) (hs : s < m) :
    ∃ (g' r' : Nat) (T : Sto), F_Sh_knot (nI p) (nI q) (lN m) (lN s) S = some ((), T) ∧ Fr [] [] [] [22, 23] [] S T ∧ (∀ i, i ≠ p → al T 22 i = al S 22 i ∧ al T 23 i = al S 23 i) ∧ al T 22 p = lN g' ∧ al T 23 p = lN r' ∧ Kn g r m s g' r' := by
  have gen : ∀ (a b c : Int64) (g' r' : Nat), c = lN g' → b = lN r' → Kn g r m s g' r' → ∃ (g' r' : Nat) (T : Sto), some ((), ul (ul (ul S 22 (vp_updL (al S 22) p a)) 23 (vp_updL (al S 23) p b)) 22 (vp_updL (vp_updL (al S 22) p a) p c)) = some ((), T) ∧ Fr [] [] [] [22, 23] [] S T ∧ (∀ i, i ≠ p → al T 22 i = al S 22 i ∧ al T 23 i = al S 23 i) ∧ al T 22 p = lN g' ∧ al T 23 p = lN r' ∧ Kn g r m s g' r' := by
    intro a b c g' r' hc hb hK
    refine ⟨g', r', _, rfl, ((Fr.rfl.ul (by decide)).ul (by decide)).ul (by decide), fun i hi => ⟨?_, ?_⟩, ?_, ?_, hK⟩
    · show vp_updL (vp_updL (al S 22) p a) p c i = _
      rw [updL_at, if_neg hi, updL_at, if_neg hi]
    · show vp_updL (al S 23) p b i = _
      rw [updL_at, if_neg hi]
    · show vp_updL (vp_updL (al S 22) p a) p c p = _
      rw [updL_at, if_pos rfl, hc]
    · show vp_updL (al S 23) p b p = _
      rw [updL_at, if_pos rfl, hb]
  have gen2 : ∀ (b : Int64) (r' : Nat), b = lN r' → Kn g r m s 0 r' → ∃ (g' r' : Nat) (T : Sto), some ((), ul (ul S 22 (vp_updL (al S 22) p 0)) 23 (vp_updL (al S 23) p b)) = some ((), T) ∧ Fr [] [] [] [22, 23] [] S T ∧ (∀ i, i ≠ p → al T 22 i = al S 22 i ∧ al T 23 i = al S 23 i) ∧ al T 22 p = lN g' ∧ al T 23 p = lN r' ∧ Kn g r m s g' r' := by
    intro b r' hb hK
    refine ⟨0, r', _, rfl, (Fr.rfl.ul (by decide)).ul (by decide), fun i hi => ⟨?_, ?_⟩, ?_, ?_, hK⟩
    · show vp_updL (al S 22) p 0 i = _
      rw [updL_at, if_neg hi]
    · show vp_updL (al S 23) p b i = _
      rw [updL_at, if_neg hi]
    · show vp_updL (al S 22) p 0 p = _
      rw [updL_at, if_pos rfl]; rfl
    · show vp_updL (al S 23) p b p = _
      rw [updL_at, if_pos rfl, hb]
  unfold F_Sh_knot
  rw [shas_y hh hh2 hq, b1_s, if_neg I1_0, if_neg (nI_pos (by omega)), show (256 : Int32) = nI 256 from rfl, if_pos (nI_lt hp (by decide)), ck_t (ib_nI (by omega) (by omega)), ck_t (ib_nI (by omega) (by omega)), ck_t (ib_nI hp (by omega)), ck_t (ib_nI hp (by omega)), nI_clamp (by omega), nI_clamp (by omega), g1, r1]
  rcases Nat.eq_zero_or_pos g with z | g0
  · subst z
    rw [if_pos (by decide)]
    exact gen2 _ r rfl (Kn_0 (fun v _ _ w => w.1 rfl))
  have hr' : r < g := by omega
  rw [if_neg (by rw [(show (1 : Int64) = lN 1 from rfl), lt_lN (by omega) (by decide)]; omega), if_pos (by rw [(show (1 : Int64) = lN 1 from rfl), le_lN (by decide) (by omega)]; exact h1), remD h1 hm hs (by omega), remW (by omega) h1 (by omega), b1_s, com_ok hm (Nat.mod_lt _ h1), b1_s, gmod]
  have hD : (((s : Int) - r) % m).toNat < m := by
    have e0 : 0 ≤ ((s : Int) - r) % m := Int.emod_nonneg _ (by omega)
    have e1 : ((s : Int) - r) % m < m := Int.emod_lt_of_pos _ (by omega)
    omega
  have h0 : 0 < Nat.gcd m g := Nat.gcd_pos_of_pos_left g h1
  have hd2 : Nat.gcd m g ≤ m := Nat.le_of_dvd h1 (Nat.gcd_dvd_left m g)
  have hm1 : 0 < m / Nat.gcd m g := Nat.div_pos hd2 h0
  have hm2 : m / Nat.gcd m g ≤ 2097152 := Nat.le_trans (Nat.div_le_self _ _) hm
  by_cases w : g ≤ 1000000000000
  · rw [if_pos (by rw [(show (1000000000000 : Int64) = lN 1000000000000 from rfl), le_lN (by omega) (by decide)]; exact w), remW (by omega) h0 (by omega), b1_s]
    by_cases v : (((s : Int) - r) % m).toNat % Nat.gcd m g = 0
    · have hg2 : g / Nat.gcd m g < 4611686018427387904 := Nat.lt_of_le_of_lt (Nat.div_le_self _ _) (by omega)
      obtain ⟨y, y1, y2, y3⟩ := inv_ok (x := g / Nat.gcd m g) hm1 hm2 hg2
      rw [cop h1] at y3
      have hK := Kn_yes (z := y) h1 hm hs g0 w hr' v y3
      have hD2 : (((s : Int) - r) % m).toNat / Nat.gcd m g ≤ 2097152 := Nat.le_trans (Nat.div_le_self _ _) (by omega)
      have hpr : (((s : Int) - r) % m).toNat / Nat.gcd m g * y ≤ 2097152 * 2097152 := Nat.mul_le_mul hD2 (by omega)
      rw [if_pos (by rw [v]; rfl), quoW (by omega) h0 (by omega), b1_s, quoW (by omega) h0 (by omega), b1_s, quoW (by omega) h0 (by omega), b1_s, y1, b1_s, lN_mul, remW (by omega) hm1 (by omega), b1_s, ck_t (ib_nI hp (by omega)), ck_t (ib_nI hp (by omega))]
      rw [Nat.mul_comm y] at hK
      refine ⟨_, _, _, rfl, ((((Fr.rfl.ul (by decide)).ul (by decide)).ul (by decide)).ul (by decide)), fun i hi => ⟨?_, ?_⟩, ?_, ?_, hK⟩
      · show vp_updL (vp_updL (al S 22) p 0) p _ i = _
        rw [updL_at, if_neg hi, updL_at, if_neg hi]
      · show vp_updL (vp_updL (al S 23) p (lN r)) p _ i = _
        rw [updL_at, if_neg hi, updL_at, if_neg hi]
      · show vp_updL (vp_updL (al S 22) p 0) p _ p = _
        rw [updL_at, if_pos rfl, lN_mul]
      · show vp_updL (vp_updL (al S 23) p (lN r)) p _ p = _
        rw [updL_at, if_pos rfl, lN_mul, lN_add]
    · have hv : ((((s : Int) - r) % m).toNat % Nat.gcd m g) < 9223372036854775808 := Nat.lt_of_le_of_lt (Nat.mod_le _ _) (by omega)
      rw [if_neg (by rw [(show (0 : Int64) = lN 0 from rfl), eq_lN hv (by decide)]; exact v)]
      exact gen2 _ r rfl (Kn_no h1 v)
  · rw [if_neg (by rw [(show (1000000000000 : Int64) = lN 1000000000000 from rfl), le_lN (by omega) (by decide)]; exact w)]
    by_cases v : (((s : Int) - r) % m).toNat = 0
    · rw [if_pos (by rw [v]; rfl)]
      unfold F_Sh_knot_121
      rw [ck_t (ib_nI hp (by omega)), nI_clamp (by omega)]
      exact gen 0 (lN r) (lN g) g r rfl rfl (Kn_b1 h1 hs (by omega) hg hr' v)
    · rw [if_neg (by rw [(show (0 : Int64) = lN 0 from rfl), eq_lN (by omega) (by decide)]; exact v)]
      unfold F_Sh_knot_121
      rw [ck_t (ib_nI hp (by omega)), nI_clamp (by omega)]
      exact gen 0 (lN r) 0 0 r rfl rfl (Kn_b0 h1 (by omega) v)
