/-! ===== pond, nets that catch a number ===== -/
abbrev oW (O : Sto) (v : Int64) : Sto := ul O 2000 (vp_updL (al O 2000) (Int32.toNatClampNeg 0) v)
theorem pond_ok {S M O : Sto} (h : Rl S M) (x : Int32) : ∃ k O' b M', F_l_pond x S O = some (k, O') ∧ F_m_pond x M = some (b, M') ∧ gi M' 1001 = k ∧ (k = 0 → al O' 2000 (Int32.toNatClampNeg 0) = if b = 0 then 0 else 1) ∧ Rl S M' := by
  obtain ⟨t, f, Z, c, i, h1, h2, h3, hC, hM⟩ := h
  have hP : zP Z ≤ 60 := h1.2.2.1.2
  have zc := hC.z.2.2.1
  have zm : ai (si M 1001 0) 1003 (Int32.toNatClampNeg 1) = nI (zP Z) := (hM.cd 0).z.2.1
  have m4 : gl (si M 1001 0) 1015 = lN (sPd c) := (hM.cd 0).sc.2.2.2.1
  have hpd : sPd c < 4611686018427387904 := by
    have q1 : sPd c < 2 ^ zP Z := h2.1.2.2.2.2
    exact Nat.lt_of_lt_of_le q1 (Nat.le_trans (Nat.pow_le_pow_right (by decide) h1.2.2.1.2) (by decide))
  by_cases hx : ∃ k, k < zP Z ∧ x = nI k
  · obtain ⟨k, hk, rfl⟩ := hx
    have a1 : F_w_pond (nI k) S = some (.inl (if sPd c / 2 ^ k % 2 = 1 then 1 else 0)) := by
      unfold F_w_pond
      rw [if_neg (nI_pos (by omega)), zc, if_pos (nI_lt hk (by omega)), hC.sc.2.2.2.1, bitC_ok (by omega) (by omega), b1_s]
      by_cases q : sPd c / 2 ^ k % 2 = 1
      · rw [if_pos q, q, if_pos (show nI 1 = (1 : Int32) from rfl)]
      · rw [if_neg q, if_neg]
        rw [(show (1 : Int32) = nI 1 from rfl), eq_nI (by omega) (by decide)]; exact q
    have a2 : F_m_pond (nI k) M = some (if sPd c / 2 ^ k % 2 = 1 then 1 else 0, si M 1001 0) := by
      unfold F_m_pond
      rw [zm, isNet_y hk (by omega), b1_s, if_neg I1_0, m4, bitM_ok hpd (by omega)]
      by_cases q : sPd c / 2 ^ k % 2 = 1
      · rw [if_pos q, q, if_pos (show lN 1 = (1 : Int64) from rfl)]
      · rw [if_neg q, if_neg]
        rw [(show (1 : Int64) = lN 1 from rfl), eq_lN (by omega) (by decide)]; exact q
    by_cases q : sPd c / 2 ^ k % 2 = 1
    · rw [if_pos q] at a1 a2
      refine ⟨0, oW O 1, 1, _, ?_, a2, rfl, fun _ => rfl, t, f, Z, c, i, h1, h2, h3, hC, hM.cd 0⟩
      · unfold F_l_pond
        rw [a1, b1_s, su_l, if_neg I1_0]
        unfold F_l_pond_15
        rw [ck_t (by decide)]
    · rw [if_neg q] at a1 a2
      refine ⟨0, oW O 0, 0, _, ?_, a2, rfl, fun _ => rfl, t, f, Z, c, i, h1, h2, h3, hC, hM.cd 0⟩
      · unfold F_l_pond
        rw [a1, b1_s, su_l, if_pos rfl]
        unfold F_l_pond_15
        rw [ck_t (by decide)]
  · have a1 : F_w_pond x S = some (.inr 1) := by
      unfold F_w_pond F_w_pond_15
      by_cases q : x < 0
      · rw [if_pos q]
      · rw [if_neg q, zc, if_neg]
        obtain ⟨k, hk, rfl⟩ := nI_of q
        rw [lt_nI hk (by omega)]
        exact fun r => hx ⟨k, r, rfl⟩
    refine ⟨1, O, 0, si (si M 1001 0) 1001 1, ?_, ?_, rfl, fun e => absurd e (by decide), t, f, Z, c, i, h1, h2, h3, hC, (hM.cd 0).cd 1⟩
    · unfold F_l_pond
      rw [a1, b1_s, su_r]
      rfl
    · unfold F_m_pond
      rw [zm, isNet_n (by omega) hx, b1_s, if_pos rfl]
/-- bits of a property -/
def nb (p : Nat → Bool) : Nat → Nat
  | 0 => 0
  | n + 1 => nb p n ||| (if p n then 2 ^ n else 0)
theorem nb_lt (p : Nat → Bool) : ∀ n, nb p n < 2 ^ n
  | 0 => Nat.zero_lt_one
  | n + 1 => by
    have h := nb_lt p n
    unfold nb
    refine Nat.or_lt_two_pow (Nat.lt_trans h (Nat.pow_lt_pow_right (by decide) (by omega))) ?_
    split
    · exact Nat.pow_lt_pow_right (by decide) (by omega)
    · exact Nat.two_pow_pos _
theorem nb_bit (p : Nat → Bool) (i : Nat) : ∀ n, (nb p n).testBit i = (decide (i < n) && p i)
  | 0 => by simp [nb]
  | n + 1 => by
    unfold nb
    rw [Nat.testBit_or, nb_bit p i n]
    by_cases h : i = n
    · subst h
      cases hp : p i
      · simp
      · simp [Nat.testBit_two_pow_self]
    · have e : (if p n = true then 2 ^ n else 0).testBit i = false := by
        split
        · rw [Nat.testBit_two_pow]
          simp
          omega
        · exact Nat.zero_testBit i
      rw [e, Bool.or_false]
      by_cases h2 : i < n
      · rw [decide_eq_true h2, decide_eq_true (by omega : i < n + 1)]
      · rw [decide_eq_false h2, decide_eq_false (by omega : ¬ i < n + 1)]
theorem sh1 {k : Nat} (hk : k < 31) : (1 : Int32) <<< (nI k &&& 31) = nI (2 ^ k) := by
  have := pk_shlN (n := 1) (nI k &&& 31) k (s_l k (by omega)) (by
    have := Nat.pow_lt_pow_right (a := 2) (by decide) (show k < 32 by omega)
    omega)
  rw [Nat.one_mul] at this
  exact this
theorem remW {a b : Nat} (ha : a < 9223372036854775808) (h0 : 0 < b) (hb : b < 9223372036854775808) : F_w_remainder (lN a) (lN b) = some (lN (a % b)) := by
  unfold F_w_remainder
  rw [(show (0 : Int64) = lN 0 from rfl), if_neg (by rw [le_lN hb (by decide)]; omega), ck_t (nzL_lN h0 hb), rem_lN ha h0 hb]
theorem quoW {a b : Nat} (ha : a < 9223372036854775808) (h0 : 0 < b) (hb : b < 9223372036854775808) : F_w_quotient (lN a) (lN b) = some (lN (a / b)) := by
  unfold F_w_quotient
  rw [(show (0 : Int64) = lN 0 from rfl), if_neg (by rw [le_lN hb (by decide)]; omega), ck_t (nzL_lN h0 hb), div_lN ha h0 hb]
def cbN (Z : Zt) (v : Nat) : Nat := nb (fun i => catB Z i v) (zN Z)
theorem cat_lp {Z : Zt} {S : Sto} (hz : ZOk Z) (h : ZC Z S) {v : Nat} (hv : v < 9223372036854775808) : ∀ (j n k : Nat), k + j = zN Z → j < n → F_Se_catchers_5 n (lN v) (nI (nb (fun i => catB Z i v) k)) (nI k) S = some (nI (cbN Z v)) := by
  intro j
  have h8 := hz.1
  induction j with
  | zero =>
    intro n k hk hn
    obtain ⟨n, rfl⟩ : ∃ q, n = q + 1 := ⟨n - 1, by omega⟩
    have : k = zN Z := by omega
    subst this
    rw [F_Se_catchers_5, h.1, if_pos (nI_le (Nat.le_refl _) (by omega))]
    rfl
  | succ j ih =>
    intro n k hk hn
    obtain ⟨n, rfl⟩ : ∃ q, n = q + 1 := ⟨n - 1, by omega⟩
    have e := ih n (k + 1) (by omega) (by omega)
    obtain ⟨_, d2, d3, d4, d5⟩ := h.2.1 k (by omega)
    obtain ⟨_, b1, b2, b3, b4, b5, b6⟩ := hz.2.1 k (by omega)
    have ek : nb (fun i => catB Z i v) (k + 1) = nb (fun i => catB Z i v) k ||| (if catB Z k v then 2 ^ k else 0) := rfl
    rw [ek] at e
    rw [F_Se_catchers_5, h.1, if_neg (nI_ge (by omega) (by omega)), (show (8 : Int32) = nI 8 from rfl), if_neg (nI_ge (by omega) (by omega)), ck_t (ib_nI (by omega) (by omega)), nI_clamp (by omega), d2, d3, d4, d5]
    unfold F_Se_catchers_74
    rw [(show (1 : Int32) = nI 1 from rfl), nI_add]
    unfold catB at e
    by_cases q1 : v < zF Z k
    · rw [if_pos (by rw [lt_lN hv (by omega)]; exact q1)]
      rw [decide_eq_false (by omega), Bool.false_and, if_neg (by decide), Nat.or_zero] at e
      exact e
    rw [if_neg (by rw [lt_lN hv (by omega)]; exact q1), ck_t (ib_nI (by omega) (by omega))]
    rw [decide_eq_true (by omega : zF Z k ≤ v), Bool.true_and] at e
    by_cases q2 : zT Z k < v
    · rw [if_pos (by rw [lt_lN (by omega) hv]; exact q2)]
      rw [decide_eq_false (by omega), Bool.false_and, if_neg (by decide), Nat.or_zero] at e
      exact e
    rw [if_neg (by rw [lt_lN (by omega) hv]; exact q2), ck_t (ib_nI (by omega) (by omega))]
    rw [decide_eq_true (by omega : v ≤ zT Z k), Bool.true_and] at e
    have hm : v % zM Z k < zM Z k := Nat.mod_lt _ (by omega)
    rw [remW hv (by omega) (by omega), b1_s, ck_t (ib_nI (by omega) (by omega))]
    by_cases q3 : v % zM Z k = zR Z k
    · rw [decide_eq_true q3, if_pos rfl] at e
      rw [if_pos (by rw [q3]), ← (show (1 : Int32) = nI 1 from rfl), sh1 (by omega), fa_or]
      exact e
    · rw [decide_eq_false q3, if_neg (by decide), Nat.or_zero] at e
      rw [if_neg (by rw [eq_lN (by omega) (by omega)]; exact q3)]
      exact e
theorem cat_ok {Z : Zt} {S : Sto} (hz : ZOk Z) (h : ZC Z S) {v : Nat} (hv : v < 9223372036854775808) : F_Se_catchers (lN v) S = some (nI (cbN Z v)) := by
  unfold F_Se_catchers
  exact cat_lp hz h hv (zN Z) FU 0 (Nat.zero_add _) (by rw [FU_v]; have := hz.1; omega)
theorem mcat_ok {Z : Zt} {M : Sto} (hz : ZOk Z) (h : ZM Z M) {v k : Nat} (hv : v < 9223372036854775808) (hk : k < zN Z) : F_m_catches (nI k) (lN v) M = some (bI (catB Z k v)) := by
  have h8 := hz.1
  obtain ⟨_, d2, d3, _, _⟩ := h.2.2.2.1 k hk
  obtain ⟨_, b1, b2, b3, b4, b5, b6⟩ := hz.2.1 k hk
  unfold F_m_catches catB
  rw [fromOf_ok h hk h8, b1_s]
  by_cases q1 : v < zF Z k
  · rw [if_pos (by rw [lt_lN hv (by omega)]; exact q1), decide_eq_false (by omega)]
    rfl
  rw [if_neg (by rw [lt_lN hv (by omega)]; exact q1), toOf_ok h hk h8, b1_s, decide_eq_true (by omega : zF Z k ≤ v), Bool.true_and]
  by_cases q2 : zT Z k < v
  · rw [if_pos (by rw [lt_lN (by omega) hv]; exact q2), decide_eq_false (by omega)]
    rfl
  rw [if_neg (by rw [lt_lN (by omega) hv]; exact q2), decide_eq_true (by omega : v ≤ zT Z k), Bool.true_and]
  have hm : v % zM Z k < zM Z k := Nat.mod_lt _ (by omega)
  rw [nI_clamp (by omega), d2, d3, ck_t (ib_nI (by omega) (by omega)), ck_t (nzL_lN (by omega) (by omega)), ck_t (ib_nI (by omega) (by omega)), rem_lN hv (by omega) (by omega)]
  by_cases q3 : v % zM Z k = zR Z k
  · rw [if_pos (by rw [q3]), decide_eq_true q3]; rfl
  · rw [if_neg (by rw [eq_lN (by omega) (by omega)]; exact q3), decide_eq_false q3]; rfl
theorem mnets_lp {Z : Zt} {M : Sto} (hz : ZOk Z) (h : ZM Z M) {v : Nat} (hv : v < 9223372036854775808) : ∀ (j n k : Nat), k + j = zN Z → j < n → F_m_netsOf_5 n (lN v) (nI (nb (fun i => catB Z i v) k)) (nI k) M = some (nI (cbN Z v)) := by
  intro j
  have h8 := hz.1
  have e0 : ai M 1003 (Int32.toNatClampNeg 0) = nI (zN Z) := h.1
  induction j with
  | zero =>
    intro n k hk hn
    obtain ⟨n, rfl⟩ : ∃ q, n = q + 1 := ⟨n - 1, by omega⟩
    have : k = zN Z := by omega
    subst this
    rw [F_m_netsOf_5, e0, if_pos (nI_le (Nat.le_refl _) (by omega))]
    rfl
  | succ j ih =>
    intro n k hk hn
    obtain ⟨n, rfl⟩ : ∃ q, n = q + 1 := ⟨n - 1, by omega⟩
    have e := ih n (k + 1) (by omega) (by omega)
    have ek : nb (fun i => catB Z i v) (k + 1) = nb (fun i => catB Z i v) k ||| (if catB Z k v then 2 ^ k else 0) := rfl
    rw [ek] at e
    rw [F_m_netsOf_5, e0, if_neg (nI_ge (by omega) (by omega)), mcat_ok hz h hv (by omega), b1_s]
    unfold F_m_netsOf_35
    rw [sh1 (by omega), (show (1 : Int32) = nI 1 from rfl), nI_add, (show (0 : Int32) = nI 0 from rfl)]
    cases hc : catB Z k v
    · rw [hc, if_neg (by decide)] at e
      rw [if_pos (show bI false = nI 0 from rfl), fa_or]
      exact e
    · rw [hc, if_pos rfl] at e
      rw [if_neg (show ¬ bI true = nI 0 from by decide), fa_or]
      exact e
theorem mnets_ok {Z : Zt} {M : Sto} (hz : ZOk Z) (h : ZM Z M) {v : Nat} (hv : v < 9223372036854775808) : F_m_netsOf (lN v) M = some (nI (cbN Z v)) := by
  unfold F_m_netsOf
  exact mnets_lp hz h hv (zN Z) FU 0 (Nat.zero_add _) (by rw [FU_v]; have := hz.1; omega)
def isNum (x : Int64) : Prop := ∃ k, 1 ≤ k ∧ k ≤ 1000000000000 ∧ x = lN k
theorem wnum_y {k : Nat} (h1 : 1 ≤ k) (h2 : k ≤ 1000000000000) : F_w_isNumber (lN k) = some 1 := by
  unfold F_w_isNumber
  rw [(show (1 : Int64) = lN 1 from rfl), if_neg (by rw [lt_lN (by omega) (by omega)]; omega), (show (1000000000000 : Int64) = lN 1000000000000 from rfl), if_neg (by rw [lt_lN (by omega) (by omega)]; omega)]
theorem wnum_n {x : Int64} (h : ¬ isNum x) : F_w_isNumber x = some 0 := by
  have := isIn_n (x := x) (a := 1) (b := 1000000000000) (by decide) (by decide) h
  exact this
theorem mnum_y {k : Nat} (h1 : 1 ≤ k) (h2 : k ≤ 1000000000000) : F_m_isNumber (lN k) = some 1 := by
  unfold F_m_isNumber
  rw [(show (1 : Int64) = lN 1 from rfl), (show (1000000000000 : Int64) = lN 1000000000000 from rfl), isIn_y h1 h2 (by decide), b1_s, ck_t (by decide)]
theorem mnum_n {x : Int64} (h : ¬ isNum x) : F_m_isNumber x = some 0 := by
  unfold F_m_isNumber
  rw [(show (1 : Int64) = lN 1 from rfl), (show (1000000000000 : Int64) = lN 1000000000000 from rfl), isIn_n (by decide) (by decide) h, b1_s, ck_t (by decide)]
theorem nets_ok {S M O : Sto} (h : Rl S M) (x : Int64) : ∃ k O' b M', F_l_nets x S O = some (k, O') ∧ F_m_nets x M = some (b, M') ∧ gi M' 1001 = k ∧ (k = 0 → al O' 2000 (Int32.toNatClampNeg 0) = b.toInt64) ∧ Rl S M' := by
  obtain ⟨t, f, Z, c, i, h1, h2, h3, hC, hM⟩ := h
  by_cases hx : isNum x
  · obtain ⟨k, k1, k2, rfl⟩ := hx
    refine ⟨0, oW O (nI (cbN Z k)).toInt64, nI (cbN Z k), si M 1001 0, ?_, ?_, rfl, fun _ => rfl, t, f, Z, c, i, h1, h2, h3, hC, hM.cd 0⟩
    · unfold F_l_nets F_w_nets
      rw [wnum_y k1 k2, b1_s, if_neg I1_0, cat_ok h1 hC.z (by omega), b1_s, b1_s, su_l]
    · unfold F_m_nets
      rw [mnum_y k1 k2, b1_s, if_neg I1_0, mnets_ok h1 (hM.cd 0).z (by omega), b1_s]
  · refine ⟨1, O, 0, si (si M 1001 0) 1001 1, ?_, ?_, rfl, fun e => absurd e (by decide), t, f, Z, c, i, h1, h2, h3, hC, (hM.cd 0).cd 1⟩
    · unfold F_l_nets F_w_nets
      rw [wnum_n hx, b1_s, if_pos rfl, b1_s, su_r]
      rfl
    · unfold F_m_nets
      rw [mnum_n hx, b1_s, if_pos rfl]
      rfl
