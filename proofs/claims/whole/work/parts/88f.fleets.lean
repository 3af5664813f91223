/-! ===== fleets ===== -/
section
variable {Z : Zt} {c : Scn} {S M : Sto} {lo hi : Nat}
def bth (Z : Zt) (lo hi a b : Nat) : Nat := nC Z (2 ^ a ||| 2 ^ b) lo hi
def gn (Z : Zt) (lo hi a b : Nat) : Int := (bth Z lo hi a a : Int) - (bth Z lo hi a b : Int) + (bth Z lo hi a b / 2 : Nat)
theorem orlt {a b N : Nat} (ha : a < N) (hb : b < N) : 2 ^ a ||| 2 ^ b < 2 ^ N := Nat.or_lt_two_pow (Nat.pow_lt_pow_right (by decide) ha) (Nat.pow_lt_pow_right (by decide) hb)
theorem bth_le (hh : hi ≤ 1000000000000) (a b : Nat) : bth Z lo hi a b ≤ 1000000000001 := by
  have := nC_le Z (2 ^ a ||| 2 ^ b) lo hi
  unfold bth
  omega
theorem gn_bd (hh : hi ≤ 1000000000000) (a b : Nat) : -4000000000000 ≤ gn Z lo hi a b ∧ gn Z lo hi a b ≤ 4000000000000 := by
  have h1 := bth_le (Z := Z) (lo := lo) hh a a
  have h2 := bth_le (Z := Z) (lo := lo) hh a b
  unfold gn
  omega
theorem gn_e {a b : Nat} (hh : hi ≤ 1000000000000) : (lN (bth Z lo hi a a) - lN (bth Z lo hi a b)) + lN (bth Z lo hi a b) / 2 = zL (gn Z lo hi a b) := by
  have h2 := bth_le (Z := Z) (lo := lo) hh a b
  rw [(show (2 : Int64) = lN 2 from rfl), div_lN (by omega) (by decide) (by decide), lN_z, lN_z, lN_z, sub_zL, add_zL]
  rfl
theorem mes_ok (hz : ZOk Z) (h25 : gi S 25 = nI (2 ^ zN Z)) (hc : Cts Z lo hi S) {q : Nat} (hq : q < 2 ^ zN Z) : F_Sh_measured (nI q) S = some (lN (nC Z q lo hi)) := by
  have p := p2N hz
  unfold F_Sh_measured
  rw [shas_y h25 p hq, b1_s, if_neg I1_0, ck_t (ib_nI (by omega) (by omega)), nI_clamp (by omega), hc q hq]
theorem gain_ok (hz : ZOk Z) (h25 : gi S 25 = nI (2 ^ zN Z)) (hc : Cts Z lo hi S) (hh : hi ≤ 1000000000000) {a b : Nat} (ha : a < zN Z) (hb : b < zN Z) : F_w_gain (nI a) (nI b) S = some (zL (gn Z lo hi a b)) := by
  have h8 := hz.1
  have e : nC Z (2 ^ a) lo hi = bth Z lo hi a a := by unfold bth; rw [Nat.or_self]
  unfold F_w_gain
  rw [sh1 (by omega), sh1 (by omega), fa_or, mes_ok hz h25 hc (orlt ha hb), b1_s, mes_ok hz h25 hc (Nat.pow_lt_pow_right (by decide) ha), b1_s, e]
  exact congrArg some (gn_e hh)
def stq (Z : Zt) (lo hi a b : Nat) : Nat → Nat → Bool
  | _, 0 => true
  | k, j + 1 => decide (gn Z lo hi k b ≤ gn Z lo hi a b) && stq Z lo hi a b (k + 1) j
def rsq (Z : Zt) (lo hi a b : Nat) : Nat → Nat → Bool
  | _, 0 => true
  | k, j + 1 => (decide (gn Z lo hi k b ≤ gn Z lo hi a b) && decide (gn Z lo hi k a ≤ gn Z lo hi b a)) && rsq Z lo hi a b (k + 1) j
theorem rs_st (Z : Zt) (lo hi a b : Nat) : ∀ j k, rsq Z lo hi a b k j = (stq Z lo hi a b k j && stq Z lo hi b a k j) := by
  intro j
  induction j with
  | zero => intro k; rfl
  | succ j ih =>
    intro k
    rw [rsq, stq, stq, ih]
    cases decide (gn Z lo hi k b ≤ gn Z lo hi a b) <;> cases decide (gn Z lo hi k a ≤ gn Z lo hi b a) <;> cases stq Z lo hi a b (k + 1) j <;> rfl
theorem st_lp (hz : ZOk Z) (h22 : gi S 22 = nI (zN Z)) (h25 : gi S 25 = nI (2 ^ zN Z)) (hc : Cts Z lo hi S) (hh : hi ≤ 1000000000000) {a b : Nat} (hb : b < zN Z) : ∀ (j n k : Nat), k + j = zN Z → j < n → F_w_staysWith_10 n (nI b) (zL (gn Z lo hi a b)) (nI k) S = some (bI (stq Z lo hi a b k j)) := by
  have h8 := hz.1
  intro j
  induction j with
  | zero =>
    intro n k hk hn
    obtain ⟨n, rfl⟩ : ∃ q, n = q + 1 := ⟨n - 1, by omega⟩
    rw [F_w_staysWith_10, h22, if_pos (nI_le (by omega) (by omega))]
    rfl
  | succ j ih =>
    intro n k hk hn
    obtain ⟨n, rfl⟩ : ∃ q, n = q + 1 := ⟨n - 1, by omega⟩
    have b1' := gn_bd (Z := Z) (lo := lo) hh k b
    have b2' := gn_bd (Z := Z) (lo := lo) hh a b
    rw [F_w_staysWith_10, h22, if_neg (nI_ge (by omega) (by omega)), gain_ok hz h25 hc hh (by omega) hb, b1_s, show nI k + (1 : Int32) = nI (k + 1) from nI_add k 1, stq]
    by_cases q : gn Z lo hi k b ≤ gn Z lo hi a b
    · rw [if_pos (by rw [le_zL (by omega) (by omega) (by omega) (by omega)]; exact q), decide_eq_true q, Bool.true_and]
      exact ih n (k + 1) (by omega) (by omega)
    · rw [if_neg (by rw [le_zL (by omega) (by omega) (by omega) (by omega)]; exact q), decide_eq_false q, Bool.false_and]
      rfl
theorem stays_ok (hz : ZOk Z) (h22 : gi S 22 = nI (zN Z)) (h25 : gi S 25 = nI (2 ^ zN Z)) (hc : Cts Z lo hi S) (hh : hi ≤ 1000000000000) {a b : Nat} (ha : a < zN Z) (hb : b < zN Z) : F_w_staysWith (nI a) (nI b) S = some (bI (stq Z lo hi a b 0 (zN Z))) := by
  unfold F_w_staysWith
  rw [gain_ok hz h25 hc hh ha hb, b1_s]
  exact st_lp hz h22 h25 hc hh hb (zN Z) FU 0 (Nat.zero_add _) (by rw [FU_v]; have := hz.1; omega)
/-! the model -/
def Fi (Z : Zt) (lo hi a b : Nat) (M : Sto) : Prop := ∀ p q, p < zN Z → q < zN Z → (p < a ∨ (p = a ∧ q < b)) → al M 1026 (8 * p + q) = lN (bth Z lo hi p q)
abbrev flF (S T : Sto) : Prop := Fr [1026] [1022, 1023, 1024, 1025] [] [1026] [] S T
theorem i88 (a b : Nat) : (8 : Int32) * nI a + nI b = nI (8 * a + b) := by
  rw [show (8 : Int32) = nI 8 from rfl, nI_z 8, nI_z a, mul_zI, nI_z b, add_zI, nI_z, Int.natCast_add, Int.natCast_mul]
theorem fi_lp (hz : ZOk Z) (hc : SnOk Z c.1) (k22 : Int32 → Int32 → Sto → Option (Int32 × Sto)) (x1 : Int32) {a : Nat} (ha : a < zN Z) : ∀ (j n b : Nat) (M : Sto), b + j = zN Z → j < n → ZM Z M → ScM c M → Fi Z (sLo c) (sHi c) a b M → ∃ M', F_m_fleets_34 k22 n x1 (nI a) (nI b) M = k22 x1 (nI (a + 1)) M' ∧ flF M M' ∧ Fi Z (sLo c) (sHi c) (a + 1) 0 M' := by
  have h8 := hz.1
  intro j
  induction j with
  | zero =>
    intro n b M hb hn hZ hM h
    obtain ⟨n, rfl⟩ : ∃ q, n = q + 1 := ⟨n - 1, by omega⟩
    refine ⟨M, ?_, Fr.rfl, fun p q p1 q1 w => h p q p1 q1 (by omega)⟩
    rw [F_m_fleets_34, show ai M 1003 (Int32.toNatClampNeg 0) = nI (zN Z) from hZ.1, if_pos (nI_le (by omega) (by omega)), show nI a + (1 : Int32) = nI (a + 1) from nI_add a 1]
  | succ j ih =>
    intro n b M hb hn hZ hM h
    obtain ⟨n, rfl⟩ : ∃ q, n = q + 1 := ⟨n - 1, by omega⟩
    obtain ⟨T, t1, t2⟩ := allOf_ok hz hc hZ hM (orlt ha (show b < zN Z by omega))
    have f1 : flF M (ul T 1026 (vp_updL (al T 1026) (8 * a + b) (lN (nC Z (2 ^ a ||| 2 ^ b) (sLo c) (sHi c))))) := (t2.mono (by decide) (by decide) (by decide) (by decide) (by decide)).ul (by decide)
    obtain ⟨U, u1, u2, u3⟩ := ih n (b + 1) _ (by omega) (by omega) (ZM_fr hZ f1 (by decide) (by decide)) (ScM_fr hM f1 (by decide) (by decide) (by decide) (by decide)) (fun p q p1 q1 w => by
      show vp_updL (al T 1026) (8 * a + b) _ (8 * p + q) = _
      rw [updL_at]
      by_cases e : p = a ∧ q = b
      · rw [e.1, e.2, if_pos rfl]; rfl
      · rw [if_neg (show ¬ 8 * p + q = 8 * a + b by omega), t2.al 1026 (by decide)]
        exact h p q p1 q1 (by omega))
    refine ⟨U, ?_, f1.trans u2, u3⟩
    rw [F_m_fleets_34, show ai M 1003 (Int32.toNatClampNeg 0) = nI (zN Z) from hZ.1, if_neg (nI_ge (by omega) (by omega)), sh1 (by omega), sh1 (by omega), fa_or, t1, b2_s, i88, ck_t (ib_nI (by omega) (by omega)), nI_clamp (by omega), show nI b + (1 : Int32) = nI (b + 1) from nI_add b 1]
    exact u1
theorem fi2_lp (hz : ZOk Z) (hc : SnOk Z c.1) (x1 : Int32) : ∀ (j n a : Nat) (M : Sto), a + j = zN Z → j < n → ZM Z M → ScM c M → Fi Z (sLo c) (sHi c) a 0 M → ∃ M', F_m_fleets_22 n x1 (nI a) M = F_m_fleets_85 FU x1 0 (-1) 0 M' ∧ flF M M' ∧ Fi Z (sLo c) (sHi c) (zN Z) 0 M' := by
  have h8 := hz.1
  intro j
  induction j with
  | zero =>
    intro n a M ha hn hZ hM h
    obtain ⟨n, rfl⟩ : ∃ q, n = q + 1 := ⟨n - 1, by omega⟩
    have : a = zN Z := by omega
    subst this
    refine ⟨M, ?_, Fr.rfl, h⟩
    rw [F_m_fleets_22, show ai M 1003 (Int32.toNatClampNeg 0) = nI (zN Z) from hZ.1, if_pos (nI_le (by omega) (by omega))]
  | succ j ih =>
    intro n a M ha hn hZ hM h
    obtain ⟨n, rfl⟩ : ∃ q, n = q + 1 := ⟨n - 1, by omega⟩
    obtain ⟨T, t1, t2, t3⟩ := fi_lp hz hc (F_m_fleets_22 n) x1 (show a < zN Z by omega) (zN Z) FU 0 M (Nat.zero_add _) (by rw [FU_v]; omega) hZ hM h
    obtain ⟨U, u1, u2, u3⟩ := ih n (a + 1) T (by omega) (by omega) (ZM_fr hZ t2 (by decide) (by decide)) (ScM_fr hM t2 (by decide) (by decide) (by decide) (by decide)) t3
    refine ⟨U, ?_, t2.trans u2, u3⟩
    rw [F_m_fleets_22, show ai M 1003 (Int32.toNatClampNeg 0) = nI (zN Z) from hZ.1, if_neg (nI_ge (by omega) (by omega))]
    exact t1.trans u1
theorem gets_ok (hz : ZOk Z) (h : Fi Z lo hi (zN Z) 0 M) (hh : hi ≤ 1000000000000) {a b : Nat} (ha : a < zN Z) (hb : b < zN Z) : F_m_gets (nI a) (nI b) M = some (zL (gn Z lo hi a b)) := by
  have h8 := hz.1
  unfold F_m_gets
  rw [i88, i88, ck_t (ib_nI (by omega) (by omega)), ck_t (ib_nI (by omega) (by omega)), nI_clamp (by omega), nI_clamp (by omega), h a a ha ha (Or.inl ha), h a b ha hb (Or.inl ha)]
  exact congrArg some (gn_e hh)
theorem rs_lp (hz : ZOk Z) (hZ : ZM Z M) (h : Fi Z lo hi (zN Z) 0 M) (hh : hi ≤ 1000000000000) {a b : Nat} (ha : a < zN Z) (hb : b < zN Z) : ∀ (j n k : Nat), k + j = zN Z → j < n → F_m_rests_2 n (nI a) (nI b) (nI k) M = some (bI (rsq Z lo hi a b k j)) := by
  have h8 := hz.1
  intro j
  induction j with
  | zero =>
    intro n k hk hn
    obtain ⟨n, rfl⟩ : ∃ q, n = q + 1 := ⟨n - 1, by omega⟩
    rw [F_m_rests_2, show ai M 1003 (Int32.toNatClampNeg 0) = nI (zN Z) from hZ.1, if_pos (nI_le (by omega) (by omega))]
    rfl
  | succ j ih =>
    intro n k hk hn
    obtain ⟨n, rfl⟩ : ∃ q, n = q + 1 := ⟨n - 1, by omega⟩
    have b1' := gn_bd (Z := Z) (lo := lo) hh k b
    have b2' := gn_bd (Z := Z) (lo := lo) hh a b
    have b3' := gn_bd (Z := Z) (lo := lo) hh k a
    have b4' := gn_bd (Z := Z) (lo := lo) hh b a
    rw [F_m_rests_2, show ai M 1003 (Int32.toNatClampNeg 0) = nI (zN Z) from hZ.1, if_neg (nI_ge (by omega) (by omega)), gets_ok hz h hh (by omega) hb, b1_s, gets_ok hz h hh ha hb, b1_s, gets_ok hz h hh (by omega) ha, b1_s, gets_ok hz h hh hb ha, b1_s, show nI k + (1 : Int32) = nI (k + 1) from nI_add k 1, rsq]
    by_cases q : gn Z lo hi k b ≤ gn Z lo hi a b
    · rw [if_neg (by rw [lt_zL (by omega) (by omega) (by omega) (by omega)]; omega), decide_eq_true q, Bool.true_and]
      by_cases w : gn Z lo hi k a ≤ gn Z lo hi b a
      · rw [if_pos (by rw [le_zL (by omega) (by omega) (by omega) (by omega)]; exact w), decide_eq_true w, Bool.true_and]
        exact ih n (k + 1) (by omega) (by omega)
      · rw [if_neg (by rw [le_zL (by omega) (by omega) (by omega) (by omega)]; exact w), decide_eq_false w, Bool.false_and]
        rfl
    · rw [if_pos (by rw [lt_zL (by omega) (by omega) (by omega) (by omega)]; omega), decide_eq_false q, Bool.false_and, Bool.false_and]
      rfl
def FI (m : Nat) (first : Int32) : Prop := (m = 0 ∧ first = -1) ∨ (0 < m ∧ ¬ first = -1)
theorem fl_in (hz : ZOk Z) (h22 : gi S 22 = nI (zN Z)) (h25 : gi S 25 = nI (2 ^ zN Z)) (hc : Cts Z lo hi S) (hZ : ZM Z M) (hF : Fi Z lo hi (zN Z) 0 M) (hh : hi ≤ 1000000000000) (k45 : Int32 → Int32 → Int32 → Int32 → Sto → Option ((Int32 ⊕ Nat) × Sto)) (k85 : Int32 → Int32 → Int32 → Int32 → Sto → Option (Int32 × Sto)) (x1 : Int32) {a : Nat} (ha : a < zN Z) :
    ∀ (j n n' b m : Nat) (first : Int32), b + j = zN Z → j < n → j < n' → m ≤ 8 * a + b → FI m first → ∃ m' first', F_w_fleets_60 k45 n x1 (nI m) first (nI a) (nI b) S = k45 x1 (nI m') first' (nI (a + 1)) S ∧ F_m_fleets_99 k85 n' x1 (nI m) first (nI a) (nI b) M = k85 x1 (nI m') first' (nI (a + 1)) M ∧ m' ≤ 8 * (a + 1) ∧ FI m' first' := by
  have h8 := hz.1
  have na : nI a + (1 : Int32) = nI (a + 1) := nI_add a 1
  intro j
  induction j with
  | zero =>
    intro n n' b m first hb hn hn' hm hI
    obtain ⟨n, rfl⟩ : ∃ q, n = q + 1 := ⟨n - 1, by omega⟩
    obtain ⟨n', rfl⟩ : ∃ q, n' = q + 1 := ⟨n' - 1, by omega⟩
    refine ⟨m, first, ?_, ?_, by omega, hI⟩
    · rw [F_w_fleets_60, h22, if_pos (nI_le (by omega) (by omega)), na]
    · rw [F_m_fleets_99, show ai M 1003 (Int32.toNatClampNeg 0) = nI (zN Z) from hZ.1, if_pos (nI_le (by omega) (by omega)), na]
  | succ j ih =>
    intro n n' b m first hb hn hn' hm hI
    obtain ⟨n, rfl⟩ : ∃ q, n = q + 1 := ⟨n - 1, by omega⟩
    obtain ⟨n', rfl⟩ : ∃ q, n' = q + 1 := ⟨n' - 1, by omega⟩
    have nb' : nI b + (1 : Int32) = nI (b + 1) := nI_add b 1
    have nm' : nI m + (1 : Int32) = nI (m + 1) := nI_add m 1
    have hbN : b < zN Z := by omega
    have hr := rs_lp hz hZ hF hh ha hbN (zN Z) FU 0 (Nat.zero_add _) (by rw [FU_v]; omega)
    have eM : F_m_fleets_99 k85 (n' + 1) x1 (nI m) first (nI a) (nI b) M = if bI (rsq Z lo hi a b 0 (zN Z)) = 0 then F_m_fleets_99 k85 n' x1 (nI m) first (nI a) (nI (b + 1)) M else if first = -1 then F_m_fleets_99 k85 n' x1 (nI (m + 1)) ((10 : Int32) * nI a + nI b) (nI a) (nI (b + 1)) M else F_m_fleets_99 k85 n' x1 (nI (m + 1)) first (nI a) (nI (b + 1)) M := by
      rw [F_m_fleets_99, show ai M 1003 (Int32.toNatClampNeg 0) = nI (zN Z) from hZ.1, if_neg (nI_ge (by omega) (by omega))]
      unfold F_m_rests
      rw [show F_m_rests_2 FU (nI a) (nI b) 0 M = some (bI (rsq Z lo hi a b 0 (zN Z))) from hr, b1_s]
      unfold F_m_fleets_144 F_m_fleets_145
      rw [nb', nm']
    have eC : F_w_fleets_60 k45 (n + 1) x1 (nI m) first (nI a) (nI b) S = if bI (rsq Z lo hi a b 0 (zN Z)) = 0 then F_w_fleets_60 k45 n x1 (nI m) first (nI a) (nI (b + 1)) S else if nI m = 0 then F_w_fleets_60 k45 n x1 (nI (m + 1)) ((10 : Int32) * nI a + nI b) (nI a) (nI (b + 1)) S else F_w_fleets_60 k45 n x1 (nI (m + 1)) first (nI a) (nI (b + 1)) S := by
      rw [F_w_fleets_60, h22, if_neg (nI_ge (by omega) (by omega)), stays_ok hz h22 h25 hc hh ha hbN, b1_s, stays_ok hz h22 h25 hc hh hbN ha, b1_s, rs_st]
      unfold F_w_fleets_110 F_w_fleets_114
      rw [nb', nm']
      cases stq Z lo hi a b 0 (zN Z)
      · rw [Bool.false_and, if_pos (show bI false = 0 from rfl), if_pos (show bI false = 0 from rfl)]
      · cases stq Z lo hi b a 0 (zN Z)
        · rw [if_neg (show ¬ bI true = 0 by decide), if_pos (show bI false = 0 from rfl), Bool.and_false, if_pos (show bI false = 0 from rfl)]
        · rw [if_neg (show ¬ bI true = 0 by decide), if_neg (show ¬ bI true = 0 by decide), Bool.and_true, if_neg (show ¬ bI true = 0 by decide)]
    rw [eM, eC]
    by_cases q : bI (rsq Z lo hi a b 0 (zN Z)) = 0
    · rw [if_pos q, if_pos q]
      exact ih n n' (b + 1) m first (by omega) (by omega) (by omega) (by omega) hI
    · rw [if_neg q, if_neg q]
      rcases hI with ⟨i1, i2⟩ | ⟨i1, i2⟩
      · subst i1
        rw [i2, if_pos rfl, if_pos (show nI 0 = 0 from rfl)]
        refine ih n n' (b + 1) (0 + 1) _ (by omega) (by omega) (by omega) (by omega) (Or.inr ⟨by omega, ?_⟩)
        rw [show (-1 : Int32) = zI (-1) from rfl, show (10 : Int32) = nI 10 from rfl, nI_z 10, nI_z a, mul_zI, nI_z b, add_zI, eq_zI (by omega) (by omega) (by omega) (by omega)]
        omega
      · rw [if_neg i2, if_neg (show ¬ nI m = 0 by rw [show (0 : Int32) = nI 0 from rfl, eq_nI (by omega) (by omega)]; omega)]
        exact ih n n' (b + 1) (m + 1) first (by omega) (by omega) (by omega) (by omega) (Or.inr ⟨by omega, i2⟩)
theorem fl_out (hz : ZOk Z) (h22 : gi S 22 = nI (zN Z)) (h25 : gi S 25 = nI (2 ^ zN Z)) (hc : Cts Z lo hi S) (hZ : ZM Z M) (hF : Fi Z lo hi (zN Z) 0 M) (hh : hi ≤ 1000000000000) (x1 : Int32) :
    ∀ (j n n' a m : Nat) (first : Int32), a + j = zN Z → j < n → j < n' → m ≤ 8 * a → FI m first → ∃ r, F_w_fleets_45 n x1 (nI m) first (nI a) S = some (.inl r, S) ∧ F_m_fleets_85 n' x1 (nI m) first (nI a) M = some (r, M) := by
  have h8 := hz.1
  intro j
  induction j with
  | zero =>
    intro n n' a m first ha hn hn' hm hI
    obtain ⟨n, rfl⟩ : ∃ q, n = q + 1 := ⟨n - 1, by omega⟩
    obtain ⟨n', rfl⟩ : ∃ q, n' = q + 1 := ⟨n' - 1, by omega⟩
    rw [F_w_fleets_45, h22, if_pos (nI_le (by omega) (by omega)), F_m_fleets_85, show ai M 1003 (Int32.toNatClampNeg 0) = nI (zN Z) from hZ.1, if_pos (nI_le (by omega) (by omega))]
    by_cases q : x1 = 0
    · rw [if_pos q, if_pos q]; exact ⟨_, rfl, rfl⟩
    · rw [if_neg q, if_neg q]; exact ⟨_, rfl, rfl⟩
  | succ j ih =>
    intro n n' a m first ha hn hn' hm hI
    obtain ⟨n, rfl⟩ : ∃ q, n = q + 1 := ⟨n - 1, by omega⟩
    obtain ⟨n', rfl⟩ : ∃ q, n' = q + 1 := ⟨n' - 1, by omega⟩
    obtain ⟨m', f', e1, e2, e3, e4⟩ := fl_in hz h22 h25 hc hZ hF hh (F_w_fleets_45 n) (F_m_fleets_85 n') x1 (show a < zN Z by omega) (zN Z) FU FU 0 m first (Nat.zero_add _) (by rw [FU_v]; omega) (by rw [FU_v]; omega) (by omega) hI
    obtain ⟨r, r1, r2⟩ := ih n n' (a + 1) m' f' (by omega) (by omega) (by omega) e3 e4
    refine ⟨r, ?_, ?_⟩
    · rw [F_w_fleets_45, h22, if_neg (nI_ge (by omega) (by omega))]
      exact e1.trans r1
    · rw [F_m_fleets_85, show ai M 1003 (Int32.toNatClampNeg 0) = nI (zN Z) from hZ.1, if_neg (nI_ge (by omega) (by omega))]
      exact e2.trans r2
end
theorem fleets_ok : Ok_fleets := by
  intro S M O h x
  obtain ⟨t, f, Z, c, i, h1, h2, h3, hC, hM⟩ := h
  have zc := hC.z
  have zm := (hM.cd 0).z
  have h8 := h1.1
  obtain ⟨s26, s27, _⟩ := hC.sc
  have hS : ShC Z S := zc.2.2.2.2.2.2.2
  obtain ⟨c1, c2, c3, _⟩ := h2.1
  have c1 : 1 ≤ sLo c := c1
  have c2 : sLo c ≤ sHi c := c2
  have c3 : sHi c ≤ 1000000000000 := c3
  by_cases hx : x < 0 ∨ ¬ x ≤ 1
  · refine ⟨1, S, O, 0, si (si M 1001 0) 1001 1, ?_, ?_, rfl, fun e => absurd e (by decide), t, f, Z, c, i, h1, h2, h3, hC, (hM.cd 0).cd 1⟩
    · unfold F_l_fleets F_w_fleets
      rcases hx with q | q
      · rw [if_pos q]; rfl
      · by_cases w : x < 0
        · rw [if_pos w]; rfl
        · rw [if_neg w, if_neg q]; rfl
    · unfold F_m_fleets
      rcases hx with q | q
      · rw [if_pos q]; rfl
      · by_cases w : x < 0
        · rw [if_pos w]; rfl
        · rw [if_neg w, if_neg q]; rfl
  · have x0 : ¬ x < 0 := fun w => hx (Or.inl w)
    have x1 : x ≤ 1 := Classical.byContradiction fun w => hx (Or.inr w)
    obtain ⟨T, t1, t2, t3⟩ := me_ok h1 hS c1 (by omega) c3
    obtain ⟨U, u1, u2, u3⟩ := fi2_lp h1 h2.1 x (zN Z) FU 0 (si M 1001 0) (Nat.zero_add _) (by rw [FU_v]; omega) zm (hM.cd 0).sc (fun p q _ _ w => by omega)
    obtain ⟨r, r1, r2⟩ := fl_out h1 ((t2.gi 22 (by decide)).trans zc.1) ((t2.gi 25 (by decide)).trans hS.1) t3 (ZM_fr zm u2 (by decide) (by decide)) u3 c3 x (zN Z) FU FU 0 0 (-1) (Nat.zero_add _) (by rw [FU_v]; omega) (by rw [FU_v]; omega) (Nat.zero_le _) (Or.inl ⟨rfl, rfl⟩)
    refine ⟨0, T, oW O r.toInt64, r, U, ?_, ?_, ?_, fun _ => rfl, t, f, Z, c, i, h1, h2, h3, RC_26 hC t2, RM_q (hM.cd 0) (u2.mono (by decide) (by decide) (by decide) (by decide) (by decide))⟩
    · unfold F_l_fleets F_w_fleets
      rw [if_neg x0, if_pos x1, s26, s27, t1, b2_s]
      refine (congrArg (fun q => b2 q _) r1).trans ?_
      rw [b2_s, su_l]
    · unfold F_m_fleets
      rw [if_neg x0, if_pos x1]
      exact u1.trans r2
    · rw [u2.gi _ (by decide)]; rfl
