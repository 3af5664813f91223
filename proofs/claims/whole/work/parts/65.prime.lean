/-! ===== primes ===== -/
def prm (n : Nat) : Prop := 2 ≤ n ∧ ∀ d, 2 ≤ d → d < n → ¬ d ∣ n
/-- with no divisor below p and p * p beyond x, there is none at all but x -/
theorem root_no {x p d : Nat} (h : ∀ e, 2 ≤ e → e < p → ¬ e ∣ x) (hp : x < p * p) (hd : d ∣ x) (h2 : 2 ≤ d) (hx : d < x) : False := by
  obtain ⟨e, he⟩ := hd
  by_cases q : d < p
  · exact h d h2 q ⟨e, he⟩
  · have he2 : 2 ≤ e := by
      rcases e with _ | _ | e
      · omega
      · omega
      · omega
    have hep : e < p := by
      refine Nat.not_le.mp (fun r => ?_)
      have : p * p ≤ d * e := Nat.mul_le_mul (by omega) r
      omega
    exact h e he2 hep ⟨d, by rw [he, Nat.mul_comm]⟩
theorem dvd_m {d x : Nat} : (x % d = 0) = (d ∣ x) := propext Nat.dvd_iff_mod_eq_zero.symm
/-! the class's: has a part below a limit -/
def hpb (x L : Nat) : Prop := ∃ d, 2 ≤ d ∧ d < L ∧ d ∣ x
theorem hp_52 {x L p : Nat} (hx : 1 ≤ x) (hxb : x < 2147483648) (hL : L < 2147483648) (hq : ∀ e, 2 ≤ e → e < p → ¬ e ∣ x) (he : L ≤ p ∨ x < p * p) :
    (hpb x L ∧ F_w_hasPartBelow_52 (nI x) (nI L) = some 1) ∨ (¬ hpb x L ∧ F_w_hasPartBelow_52 (nI x) (nI L) = some 0) := by
  unfold F_w_hasPartBelow_52
  rw [(show (2 : Int32) = nI 2 from rfl)]
  by_cases q : x < 2
  · rw [if_pos (nI_lt q (by decide))]
    refine Or.inr ⟨?_, rfl⟩
    rintro ⟨d, d1, d2, d3⟩
    have := Nat.le_of_dvd (by omega) d3
    omega
  · rw [if_neg (by rw [lt_nI hxb (by decide)]; exact q)]
    by_cases r : L ≤ x
    · rw [if_pos (nI_le r hxb)]
      refine Or.inr ⟨?_, rfl⟩
      rintro ⟨d, d1, d2, d3⟩
      rcases he with he | he
      · exact hq d d1 (by omega) d3
      · exact root_no hq he d3 d1 (by omega)
    · rw [if_neg (nI_ge (by omega) hL)]
      exact Or.inl ⟨⟨x, by omega, by omega, Nat.dvd_refl x⟩, rfl⟩
theorem hp_lp {x L : Nat} (hx : 1 ≤ x) (hxb : x < 1100000000) (hL : L < 1100000000) : ∀ (j n p : Nat), L ≤ p + j → j < n → p < 1100000003 → (p = 2 ∨ (3 ≤ p ∧ p % 2 = 1)) → (∀ e, 2 ≤ e → e < p → ¬ e ∣ x) →
    (hpb x L ∧ F_w_hasPartBelow_4 n (nI x) (nI L) (lN p) = some 1) ∨ (¬ hpb x L ∧ F_w_hasPartBelow_4 n (nI x) (nI L) (lN p) = some 0) := by
  intro j
  induction j with
  | zero =>
    intro n p hj hn hpb hp hq
    obtain ⟨n, rfl⟩ : ∃ q, n = q + 1 := ⟨n - 1, by omega⟩
    rw [F_w_hasPartBelow_4, i2l_nI (by omega), if_pos (by rw [le_lN (by omega) (by omega)]; omega)]
    exact hp_52 hx (by omega) (by omega) hq (Or.inl hj)
  | succ j ih =>
    intro n p hj hn hpb hp hq
    obtain ⟨n, rfl⟩ : ∃ q, n = q + 1 := ⟨n - 1, by omega⟩
    have hpp : p * p < 1210000007000000010 := by
      have := Nat.mul_le_mul (show p ≤ 1100000002 by omega) (show p ≤ 1100000002 by omega)
      omega
    rw [F_w_hasPartBelow_4, i2l_nI (by omega), i2l_nI (by omega), lN_mul]
    by_cases q1 : L ≤ p
    · rw [if_pos (by rw [le_lN (by omega) (by omega)]; exact q1)]
      exact hp_52 hx (by omega) (by omega) hq (Or.inl q1)
    rw [if_neg (by rw [le_lN (by omega) (by omega)]; exact q1)]
    by_cases q2 : x < p * p
    · rw [if_pos (by rw [lt_lN (by omega) (by omega)]; exact q2)]
      exact hp_52 hx (by omega) (by omega) hq (Or.inr q2)
    rw [if_neg (by rw [lt_lN (by omega) (by omega)]; exact q2), ck_t (nzL_lN (by omega) (by omega)), rem_lN (by omega) (by omega) (by omega), (show (0 : Int64) = lN 0 from rfl)]
    by_cases q3 : x % p = 0
    · rw [if_pos (by rw [q3])]
      exact Or.inl ⟨⟨p, by omega, by omega, Nat.dvd_of_mod_eq_zero q3⟩, rfl⟩
    rw [if_neg (by rw [eq_lN (Nat.lt_of_le_of_lt (Nat.mod_le _ _) (by omega)) (by decide)]; exact q3)]
    have hnp : ¬ p ∣ x := fun h => q3 (Nat.mod_eq_zero_of_dvd h)
    unfold F_w_hasPartBelow_47
    rw [(show (2 : Int64) = lN 2 from rfl), (show (1 : Int64) = lN 1 from rfl), lN_add, lN_add]
    by_cases q4 : p = 2
    · rw [if_pos (by rw [q4])]
      refine ih n (p + 1) (by omega) (by omega) (by omega) (by omega) (fun e e1 e2 => ?_)
      by_cases w : e = p
      · rw [w]; exact hnp
      · exact hq e e1 (by omega)
    · rw [if_neg (by rw [eq_lN (by omega) (by decide)]; exact q4)]
      refine ih n (p + 2) (by omega) (by omega) (by omega) (by omega) (fun e e1 e2 => ?_)
      by_cases w : e = p
      · rw [w]; exact hnp
      · by_cases v : e = p + 1
        · intro hd
          refine hq 2 (by decide) (by omega) (Nat.dvd_trans ?_ hd)
          exact ⟨(p + 1) / 2, by omega⟩
        · exact hq e e1 (by omega)
theorem hp_ok {x L : Nat} (hx : 1 ≤ x) (hxb : x < 1100000000) (hL : L < 1100000000) : (hpb x L ∧ F_w_hasPartBelow (nI x) (nI L) = some 1) ∨ (¬ hpb x L ∧ F_w_hasPartBelow (nI x) (nI L) = some 0) := by
  unfold F_w_hasPartBelow
  exact hp_lp hx hxb hL L FU 2 (by omega) (by rw [FU_v]; omega) (by decide) (Or.inl rfl) (fun e e1 e2 => by omega)
theorem wpr_ok {x : Nat} (hxb : x < 1100000000) : (prm x ∧ F_w_isPrime (nI x) = some 1) ∨ (¬ prm x ∧ F_w_isPrime (nI x) = some 0) := by
  unfold F_w_isPrime
  rw [(show (2 : Int32) = nI 2 from rfl)]
  by_cases q : x < 2
  · rw [if_pos (nI_lt q (by decide))]
    exact Or.inr ⟨fun h => by have := h.1; omega, rfl⟩
  · rw [if_neg (by rw [lt_nI (by omega) (by decide)]; exact q)]
    rcases hp_ok (x := x) (L := x) (by omega) hxb hxb with ⟨⟨d, d1, d2, d3⟩, e⟩ | ⟨e1, e⟩
    · rw [e, b1_s, if_neg I1_0]
      exact Or.inr ⟨fun h => h.2 d d1 d2 d3, rfl⟩
    · rw [e, b1_s, if_pos rfl]
      exact Or.inl ⟨⟨by omega, fun d d1 d2 d3 => e1 ⟨d, d1, d2, d3⟩⟩, rfl⟩
/-! the model's -/
theorem mp_lp {x : Nat} (hx : 4 ≤ x) (hxb : x < 1100000000) : ∀ (j n p : Nat), x ≤ p + j → j < n → p < 1100000003 → 3 ≤ p → p % 2 = 1 → (∀ e, 2 ≤ e → e < p → ¬ e ∣ x) →
    (prm x ∧ F_m_isPrime_29 n (nI x) (nI p) = some 1) ∨ (¬ prm x ∧ F_m_isPrime_29 n (nI x) (nI p) = some 0) := by
  intro j
  induction j with
  | zero =>
    intro n p hj hn hpb hp ho hq
    obtain ⟨n, rfl⟩ : ∃ q, n = q + 1 := ⟨n - 1, by omega⟩
    have hpp : p * p < 1210000007000000010 := by
      have := Nat.mul_le_mul (show p ≤ 1100000002 by omega) (show p ≤ 1100000002 by omega)
      omega
    have hpp2 : 3 * p ≤ p * p := Nat.mul_le_mul_right p hp
    rw [F_m_isPrime_29, i2l_nI (by omega), i2l_nI (by omega), lN_mul, if_pos (by rw [lt_lN (by omega) (by omega)]; omega)]
    exact Or.inl ⟨⟨by omega, fun d d1 d2 => hq d d1 (by omega)⟩, rfl⟩
  | succ j ih =>
    intro n p hj hn hpb hp ho hq
    obtain ⟨n, rfl⟩ : ∃ q, n = q + 1 := ⟨n - 1, by omega⟩
    have hpp : p * p < 1210000007000000010 := by
      have := Nat.mul_le_mul (show p ≤ 1100000002 by omega) (show p ≤ 1100000002 by omega)
      omega
    have hpp2 : 3 * p ≤ p * p := Nat.mul_le_mul_right p hp
    rw [F_m_isPrime_29, i2l_nI (by omega), i2l_nI (by omega), lN_mul]
    by_cases q2 : x < p * p
    · rw [if_pos (by rw [lt_lN (by omega) (by omega)]; exact q2)]
      exact Or.inl ⟨⟨by omega, fun d d1 d2 d3 => root_no hq q2 d3 d1 d2⟩, rfl⟩
    rw [if_neg (by rw [lt_lN (by omega) (by omega)]; exact q2), ck_t (nzI_nI (by omega) (by omega)), rem_nI (by omega) (by omega) (by omega), (show (0 : Int32) = nI 0 from rfl)]
    by_cases q3 : x % p = 0
    · rw [if_pos (by rw [q3])]
      exact Or.inr ⟨fun h => h.2 p (by omega) (by omega) (Nat.dvd_of_mod_eq_zero q3), rfl⟩
    rw [if_neg (by rw [eq_nI (Nat.lt_of_le_of_lt (Nat.mod_le _ _) (by omega)) (by decide)]; exact q3), (show (2 : Int32) = nI 2 from rfl), nI_add]
    have hnp : ¬ p ∣ x := fun h => q3 (Nat.mod_eq_zero_of_dvd h)
    refine ih n (p + 2) (by omega) (by omega) (by omega) (by omega) (by omega) (fun e e1 e2 => ?_)
    by_cases w : e = p
    · rw [w]; exact hnp
    · by_cases v : e = p + 1
      · intro hd
        refine hq 2 (by decide) (by omega) (Nat.dvd_trans ?_ hd)
        exact ⟨(p + 1) / 2, by omega⟩
      · exact hq e e1 (by omega)
theorem prm2 : prm 2 := ⟨by decide, fun d d1 d2 => by omega⟩
theorem prm3 : prm 3 := ⟨by decide, fun d d1 d2 d3 => by
  have : d = 2 := by omega
  subst this
  revert d3
  decide⟩
theorem mpr_ok {x : Nat} (hxb : x < 1100000000) : (prm x ∧ F_m_isPrime (nI x) = some 1) ∨ (¬ prm x ∧ F_m_isPrime (nI x) = some 0) := by
  have h11 : (x < 4 ∨ x % 2 = 0) → (prm x ∧ F_m_isPrime_11 (nI x) = some 1) ∨ (¬ prm x ∧ F_m_isPrime_11 (nI x) = some 0) := by
    intro h
    unfold F_m_isPrime_11
    rw [(show (2 : Int32) = nI 2 from rfl), (show (3 : Int32) = nI 3 from rfl)]
    by_cases q : x = 2
    · subst q
      rw [if_pos rfl]; exact Or.inl ⟨prm2, rfl⟩
    rw [if_neg (by rw [eq_nI (by omega) (by decide)]; exact q)]
    by_cases q2 : x = 3
    · subst q2
      rw [if_pos rfl]; exact Or.inl ⟨prm3, rfl⟩
    rw [if_neg (by rw [eq_nI (by omega) (by decide)]; exact q2)]
    refine Or.inr ⟨fun hp => ?_, rfl⟩
    have := hp.1
    exact hp.2 2 (by decide) (by omega) (Nat.dvd_of_mod_eq_zero (by omega))
  unfold F_m_isPrime
  by_cases q : x < 4
  · rw [show (4 : Int32) = nI 4 from rfl, if_pos (nI_lt q (by decide))]
    exact h11 (Or.inl q)
  rw [show (4 : Int32) = nI 4 from rfl, if_neg (by rw [lt_nI (by omega) (by decide)]; exact q), (show (2 : Int32) = nI 2 from rfl), rem_nI (by omega) (by decide) (by decide), (show (0 : Int32) = nI 0 from rfl)]
  by_cases q2 : x % 2 = 0
  · rw [if_pos (by rw [q2])]
    exact h11 (Or.inr q2)
  rw [if_neg (by rw [eq_nI (by omega) (by decide)]; exact q2)]
  refine mp_lp (by omega) hxb x FU 3 (by omega) (by rw [FU_v]; omega) (by decide) (by decide) (by decide) (fun e e1 e2 e3 => ?_)
  have : e = 2 := by omega
  subst this
  exact q2 (Nat.mod_eq_zero_of_dvd e3)
/-! the next prime -/
def isDv (x : Int32) : Prop := ∃ k, 1 ≤ k ∧ k ≤ 1000000000 ∧ x = nI k
theorem wdv_y {k : Nat} (h1 : 1 ≤ k) (h2 : k ≤ 1000000000) : F_w_isDivided (nI k) = some 1 := by
  unfold F_w_isDivided
  rw [(show (1 : Int32) = nI 1 from rfl), if_neg (by rw [lt_nI (by omega) (by decide)]; omega), show (1000000000 : Int32) = nI 1000000000 from rfl, if_neg (by rw [lt_nI (by omega) (by omega)]; omega)]
theorem wdv_n {x : Int32} (h : ¬ isDv x) : F_w_isDivided x = some 0 := by
  unfold F_w_isDivided
  rw [(show (1 : Int32) = nI 1 from rfl), show (1000000000 : Int32) = nI 1000000000 from rfl]
  rcases I_cases x with q | ⟨k, hk, rfl⟩
  · rw [if_pos (by rw [neg_lt q (by decide)]; trivial)]
  · by_cases w : k < 1
    · rw [if_pos (by rw [lt_nI hk (by decide)]; exact w)]
    · rw [if_neg (by rw [lt_nI hk (by decide)]; exact w), if_pos]
      rw [lt_nI (by decide) hk]
      exact Nat.not_le.mp (fun r => h ⟨k, by omega, r, rfl⟩)
theorem msm_y {k : Nat} (h1 : 1 ≤ k) (h2 : k ≤ 1000000000) : F_m_isSmall (nI k) = some 1 := by
  unfold F_m_isSmall
  rw [i2l_nI (by omega), (show (1 : Int64) = lN 1 from rfl), (show (1000000000 : Int64) = lN 1000000000 from rfl), isIn_y h1 h2 (by decide), b1_s, ck_t (by decide)]
theorem msm_n {x : Int32} (h : ¬ isDv x) : F_m_isSmall x = some 0 := by
  unfold F_m_isSmall
  rw [(show (1 : Int64) = lN 1 from rfl), (show (1000000000 : Int64) = lN 1000000000 from rfl), isIn_n (by decide) (by decide), b1_s, ck_t (by decide)]
  rintro ⟨k, k1, k2, k3⟩
  rw [in_wide (by omega)] at k3
  exact h ⟨k, k1, k2, k3⟩
theorem pr_lp {a : Nat} (ha : a ≤ 1000000000) {M : Sto} : ∀ (j n n' k : Nat), k + j = 2001 → j < n → j < n' → ∃ r, F_w_prime_17 n (nI a) (nI k) = some (.inl r) ∧ F_m_prime_20 n' (nI a) (nI k) M = some (r, M) := by
  intro j
  induction j with
  | zero =>
    intro n n' k hk hn hn'
    obtain ⟨n, rfl⟩ : ∃ q, n = q + 1 := ⟨n - 1, by omega⟩
    obtain ⟨n', rfl⟩ : ∃ q, n' = q + 1 := ⟨n' - 1, by omega⟩
    have : k = 2001 := by omega
    subst this
    refine ⟨-1, ?_, ?_⟩
    · rw [F_w_prime_17, if_pos (by decide)]
    · rw [F_m_prime_20, if_pos (by decide)]
  | succ j ih =>
    intro n n' k hk hn hn'
    obtain ⟨n, rfl⟩ : ∃ q, n = q + 1 := ⟨n - 1, by omega⟩
    obtain ⟨n', rfl⟩ : ∃ q, n' = q + 1 := ⟨n' - 1, by omega⟩
    have e1 : ¬ (2000 : Int32) < nI k := by
      rw [show (2000 : Int32) = nI 2000 from rfl, lt_nI (by decide) (by omega)]
      omega
    rw [F_w_prime_17, F_m_prime_20, if_neg e1, if_neg e1, nI_add, show nI k + (1 : Int32) = nI (k + 1) from nI_add k 1]
    rcases wpr_ok (x := a + k) (by omega) with ⟨p1, p2⟩ | ⟨p1, p2⟩
    · rcases mpr_ok (x := a + k) (by omega) with ⟨_, q2⟩ | ⟨q1, _⟩
      · rw [p2, q2, b1_s, b1_s, if_neg I1_0, if_neg I1_0]
        exact ⟨_, rfl, rfl⟩
      · exact absurd p1 q1
    · rcases mpr_ok (x := a + k) (by omega) with ⟨q1, _⟩ | ⟨_, q2⟩
      · exact absurd q1 p1
      · rw [p2, q2, b1_s, b1_s, if_pos rfl, if_pos rfl]
        exact ih n n' (k + 1) (by omega) (by omega) (by omega)
theorem prime_ok {S M O : Sto} (h : Rl S M) (x : Int32) : ∃ k O' b M', F_l_prime x O = some (k, O') ∧ F_m_prime x M = some (b, M') ∧ gi M' 1001 = k ∧ (k = 0 → al O' 2000 (Int32.toNatClampNeg 0) = b.toInt64) ∧ Rl S M' := by
  obtain ⟨t, f, Z, c, i, h1, h2, h3, hC, hM⟩ := h
  by_cases hx : isDv x
  · obtain ⟨k, k1, k2, rfl⟩ := hx
    obtain ⟨r, r1, r2⟩ := pr_lp k2 (M := si M 1001 0) 2001 FU FU 0 rfl (by rw [FU_v]; decide) (by rw [FU_v]; decide)
    refine ⟨0, oW O r.toInt64, r, si M 1001 0, ?_, ?_, rfl, fun _ => rfl, t, f, Z, c, i, h1, h2, h3, hC, hM.cd 0⟩
    · unfold F_l_prime F_w_prime
      rw [wdv_y k1 k2, b1_s, if_neg I1_0, (show (0 : Int32) = nI 0 from rfl), r1, b1_s, su_l]
      rfl
    · unfold F_m_prime
      rw [msm_y k1 k2, b1_s, if_neg I1_0]
      exact r2
  · refine ⟨1, O, 0, si (si M 1001 0) 1001 1, ?_, ?_, rfl, fun e => absurd e (by decide), t, f, Z, c, i, h1, h2, h3, hC, (hM.cd 0).cd 1⟩
    · unfold F_l_prime F_w_prime
      rw [wdv_n hx, b1_s, if_pos rfl, b1_s, su_r]
      rfl
    · unfold F_m_prime
      rw [msm_n hx, b1_s, if_pos rfl]
      rfl
/-! shoals -/
theorem ml_lp {P v : Nat} (hP : P ≤ 100000) (hv : v ≤ 100000) : ∀ (j n p : Nat), P ≤ p + j → j < n → 2 ≤ p → p < 100002 → (∀ d, 2 ≤ d → d < p → d < P → ¬ d ∣ v) →
    ((∃ d, 2 ≤ d ∧ d < P ∧ d * d ≤ v ∧ d ∣ v) ∧ F_m_isLeast_2 n (nI P) (nI v) (nI p) = some 0) ∨ ((∀ d, 2 ≤ d → d < P → d * d ≤ v → ¬ d ∣ v) ∧ F_m_isLeast_2 n (nI P) (nI v) (nI p) = some 1) := by
  intro j
  induction j with
  | zero =>
    intro n p hj hn h2 hp hq
    obtain ⟨n, rfl⟩ : ∃ q, n = q + 1 := ⟨n - 1, by omega⟩
    rw [F_m_isLeast_2, if_pos (nI_le (by omega) (by omega))]
    exact Or.inr ⟨fun d d1 d2 _ => hq d d1 (by omega) d2, rfl⟩
  | succ j ih =>
    intro n p hj hn h2 hp hq
    obtain ⟨n, rfl⟩ : ∃ q, n = q + 1 := ⟨n - 1, by omega⟩
    have hpp : p * p ≤ 10000200001 := Nat.mul_le_mul (show p ≤ 100001 by omega) (show p ≤ 100001 by omega)
    rw [F_m_isLeast_2]
    by_cases q1 : P ≤ p
    · rw [if_pos (nI_le q1 (by omega))]
      exact Or.inr ⟨fun d d1 d2 _ => hq d d1 (by omega) d2, rfl⟩
    rw [if_neg (nI_ge (by omega) (by omega)), i2l_nI (by omega), i2l_nI (by omega), lN_mul]
    by_cases q2 : v < p * p
    · rw [if_pos (by rw [lt_lN (by omega) (by omega)]; exact q2)]
      refine Or.inr ⟨fun d d1 d2 d3 => ?_, rfl⟩
      refine hq d d1 (Nat.not_le.mp (fun r => ?_)) d2
      have := Nat.mul_le_mul r r
      omega
    rw [if_neg (by rw [lt_lN (by omega) (by omega)]; exact q2), ck_t (nzI_nI (by omega) (by omega)), rem_nI (by omega) (by omega) (by omega), (show (0 : Int32) = nI 0 from rfl)]
    by_cases q3 : v % p = 0
    · rw [if_pos (by rw [q3])]
      exact Or.inl ⟨⟨p, h2, by omega, by omega, Nat.dvd_of_mod_eq_zero q3⟩, rfl⟩
    rw [if_neg (by rw [eq_nI (Nat.lt_of_le_of_lt (Nat.mod_le _ _) (by omega)) (by decide)]; exact q3), (show (1 : Int32) = nI 1 from rfl), nI_add]
    refine ih n (p + 1) (by omega) (by omega) (by omega) (by omega) (fun e e1 e2 e3 => ?_)
    by_cases w : e = p
    · rw [w]; exact fun h => q3 (Nat.mod_eq_zero_of_dvd h)
    · exact hq e e1 (by omega) e3
theorem least_eq {P i : Nat} (hP : prm P) (hi : 1 ≤ i) : (∃ d, 2 ≤ d ∧ d < P ∧ d * d ≤ P * i ∧ d ∣ P * i) ↔ hpb i P := by
  constructor
  · rintro ⟨d, d1, d2, d3, d4⟩
    refine ⟨d, d1, d2, ?_⟩
    have hg : Nat.gcd d P ∣ P := Nat.gcd_dvd_right d P
    have hg2 : Nat.gcd d P ≤ d := Nat.le_of_dvd (by omega) (Nat.gcd_dvd_left d P)
    have hg3 : Nat.Coprime d P := by
      have h0 : 0 < Nat.gcd d P := Nat.gcd_pos_of_pos_left P (by omega)
      have : ¬ 2 ≤ Nat.gcd d P := fun r => hP.2 _ r (by omega) hg
      show Nat.gcd d P = 1
      omega
    exact hg3.dvd_of_dvd_mul_left d4
  · rintro ⟨d, d1, d2, d3⟩
    refine ⟨d, d1, d2, ?_, Nat.dvd_trans d3 (Nat.dvd_mul_left i P)⟩
    have := Nat.le_of_dvd (by omega) d3
    exact Nat.mul_le_mul (by omega) this
theorem sh_lp {P N : Nat} (hP : prm P) (hPN : P ≤ N) (hN : N ≤ 100000) {M : Sto} : ∀ (j n n' i q : Nat), i + j = N / P + 1 → j < n → j < n' → 1 ≤ i → ∃ r, F_w_shoal_44 n (nI P) (nI N) (nI q) (nI i) = some (.inl r) ∧ F_m_shoal_44 n' (nI P) (nI N) (nI q) (nI (P * i)) M = some (r, M) := by
  have hP2 := hP.1
  have hnp : N / P ≤ N := Nat.div_le_self _ _
  intro j
  induction j with
  | zero =>
    intro n n' i q hi hn hn' h1
    obtain ⟨n, rfl⟩ : ∃ q, n = q + 1 := ⟨n - 1, by omega⟩
    obtain ⟨n', rfl⟩ : ∃ q, n' = q + 1 := ⟨n' - 1, by omega⟩
    have hlt : N < P * i := by
      have := Nat.lt_mul_div_succ N (show 0 < P by omega)
      rw [show i = N / P + 1 by omega]
      exact this
    have hb : P * i ≤ N + P := by
      rw [show i = N / P + 1 by omega, Nat.mul_add, Nat.mul_one]
      have := Nat.mul_div_le N P
      omega
    refine ⟨nI q, ?_, ?_⟩
    · rw [F_w_shoal_44, ck_t (nzI_nI (by omega) (by omega)), div_nI (by omega) (by omega) (by omega), if_pos (nI_lt (by omega) (by omega))]
    · rw [F_m_shoal_44, if_pos (nI_lt hlt (by omega))]
  | succ j ih =>
    intro n n' i q hi hn hn' h1
    obtain ⟨n, rfl⟩ : ∃ q, n = q + 1 := ⟨n - 1, by omega⟩
    obtain ⟨n', rfl⟩ : ∃ q, n' = q + 1 := ⟨n' - 1, by omega⟩
    have hle : P * i ≤ N := by
      have := Nat.mul_le_mul_left P (show i ≤ N / P by omega)
      exact Nat.le_trans this (Nat.mul_div_le N P)
    have eq1 : nI (P * i) + nI P = nI (P * (i + 1)) := by rw [nI_add, Nat.mul_add, Nat.mul_one]
    rw [F_w_shoal_44, F_m_shoal_44, ck_t (nzI_nI (by omega) (by omega)), div_nI (by omega) (by omega) (by omega), if_neg (by rw [lt_nI (by omega) (by omega)]; omega), if_neg (by rw [lt_nI (by omega) (by omega)]; omega)]
    unfold F_w_shoal_64 F_m_shoal_65
    rw [eq1, (show (1 : Int32) = nI 1 from rfl), (show (0 : Int32) = nI 0 from rfl), nI_add, nI_add, nI_add]
    have hl := ml_lp (P := P) (v := P * i) (by omega) (by omega) P FU 2 (by omega) (by rw [FU_v]; omega) (by decide) (by decide) (fun d d1 d2 => by omega)
    rcases hp_ok (x := i) (L := P) h1 (by omega) (by omega) with ⟨p1, p2⟩ | ⟨p1, p2⟩
    · rcases hl with ⟨_, l2⟩ | ⟨l1, _⟩
      · have l2' : F_m_isLeast (nI P) (nI (P * i)) = some 0 := l2
        rw [p2, l2', b1_s, b1_s, if_neg (show ¬ (1 : Int32) = nI 0 by decide), if_pos (show (0 : Int32) = nI 0 from rfl)]
        exact ih n n' (i + 1) q (by omega) (by omega) (by omega) (by omega)
      · obtain ⟨d, d1, d2, d3, d4⟩ := (least_eq hP h1).mpr p1
        exact absurd d4 (l1 d d1 d2 d3)
    · rcases hl with ⟨l1, _⟩ | ⟨_, l2⟩
      · exact absurd ((least_eq hP h1).mp l1) p1
      · have l2' : F_m_isLeast (nI P) (nI (P * i)) = some 1 := l2
        rw [p2, l2', b1_s, b1_s, if_pos (show (0 : Int32) = nI 0 from rfl), if_neg (show ¬ (1 : Int32) = nI 0 by decide)]
        exact ih n n' (i + 1) (q + 1) (by omega) (by omega) (by omega) (by omega)
theorem shoal_ok {S M O : Sto} (h : Rl S M) (x y : Int32) : ∃ k O' b M', F_l_shoal x y O = some (k, O') ∧ F_m_shoal x y M = some (b, M') ∧ gi M' 1001 = k ∧ (k = 0 → al O' 2000 (Int32.toNatClampNeg 0) = b.toInt64) ∧ Rl S M' := by
  obtain ⟨t, f, Z, c, i, h1, h2, h3, hC, hM⟩ := h
  by_cases hy : ∃ k, 2 ≤ k ∧ k ≤ 100000 ∧ y = nI k
  · obtain ⟨N, k1, k2, rfl⟩ := hy
    have fin : ∀ r, F_w_shoal x (nI N) = some (.inl r) → F_m_shoal x (nI N) M = some (r, si M 1001 0) → ∃ k O' b M', F_l_shoal x (nI N) O = some (k, O') ∧ F_m_shoal x (nI N) M = some (b, M') ∧ gi M' 1001 = k ∧ (k = 0 → al O' 2000 (Int32.toNatClampNeg 0) = b.toInt64) ∧ Rl S M' := by
      intro r r1 r2
      refine ⟨0, oW O r.toInt64, r, si M 1001 0, ?_, r2, rfl, fun _ => rfl, t, f, Z, c, i, h1, h2, h3, hC, hM.cd 0⟩
      unfold F_l_shoal
      rw [r1, b1_s, su_l]
    have eC : F_w_shoal x (nI N) = if x < nI 2 then some (.inl 0) else if nI N < x then some (.inl 0) else b1 (F_w_isPrime x) (fun r1 => if r1 = 0 then some (.inl 0) else F_w_shoal_44 FU x (nI N) 0 1) := by
      unfold F_w_shoal
      rw [(show (2 : Int32) = nI 2 from rfl), if_neg (by rw [lt_nI (by omega) (by decide)]; omega), show (100000 : Int32) = nI 100000 from rfl, if_pos (nI_le k2 (by decide))]
    have eM : F_m_shoal x (nI N) M = if nI N < x then some (0, si M 1001 0) else b1 (F_m_isPrime x) (fun r3 => if r3 = 0 then some (0, si M 1001 0) else F_m_shoal_44 FU x (nI N) 0 x (si M 1001 0)) := by
      unfold F_m_shoal
      rw [i2l_nI (by omega), (show (2 : Int64) = lN 2 from rfl), (show (100000 : Int64) = lN 100000 from rfl), isIn_y k1 k2 (by decide), b1_s, if_neg I1_0]
    rcases I_cases x with q | ⟨P, hP, rfl⟩
    · refine fin 0 ?_ ?_
      · rw [eC, if_pos (by rw [neg_lt q (by decide)]; trivial)]
      · have n1 : ¬ nI N < x := by
          intro r
          rw [Int32.lt_iff_toInt_lt] at r q
          rw [nI_toInt (by omega)] at r q
          omega
        have n2 : F_m_isPrime x = some 0 := by
          unfold F_m_isPrime F_m_isPrime_11
          rw [show (4 : Int32) = nI 4 from rfl, if_pos (by rw [neg_lt q (by decide)]; trivial), if_neg, if_neg]
          · rintro rfl; revert q; decide
          · rintro rfl; revert q; decide
        rw [eM, if_neg n1, n2, b1_s, if_pos rfl]
    · by_cases q : N < P
      · refine fin 0 ?_ ?_
        · rw [eC, if_neg (by rw [lt_nI hP (by decide)]; omega), if_pos (nI_lt q hP)]
        · rw [eM, if_pos (nI_lt q hP)]
      · have q' : ¬ nI N < nI P := by rw [lt_nI (by omega) hP]; exact q
        rcases mpr_ok (x := P) (by omega) with ⟨p1, p2⟩ | ⟨p1, p2⟩
        · have hP2 := p1.1
          rcases wpr_ok (x := P) (by omega) with ⟨_, w2⟩ | ⟨w1, _⟩
          · obtain ⟨r, r1, r2⟩ := sh_lp p1 (by omega) k2 (M := si M 1001 0) (N / P) FU FU 1 0 (by omega) (by rw [FU_v]; have := Nat.div_le_self N P; omega) (by rw [FU_v]; have := Nat.div_le_self N P; omega) (by decide)
            rw [Nat.mul_one] at r2
            refine fin r ?_ ?_
            · rw [eC, if_neg (by rw [lt_nI hP (by decide)]; omega), if_neg q', w2, b1_s, if_neg I1_0]
              exact r1
            · rw [eM, if_neg q', p2, b1_s, if_neg I1_0]
              exact r2
          · exact absurd p1 w1
        · refine fin 0 ?_ ?_
          · rw [eC]
            by_cases u : nI P < nI 2
            · rw [if_pos u]
            · rw [if_neg u, if_neg q']
              rcases wpr_ok (x := P) (by omega) with ⟨w1, _⟩ | ⟨_, w2⟩
              · exact absurd w1 p1
              · rw [w2, b1_s, if_pos rfl]
          · rw [eM, if_neg q', p2, b1_s, if_pos rfl]
  · have eC : F_w_shoal x y = some (.inr 0) := by
      unfold F_w_shoal F_w_shoal_12
      rcases I_cases y with q | ⟨k, hk, rfl⟩
      · rw [if_pos (by rw [(show (2 : Int32) = nI 2 from rfl), neg_lt q (by decide)]; trivial)]
      · by_cases w : k < 2
        · rw [if_pos (by rw [(show (2 : Int32) = nI 2 from rfl), lt_nI hk (by decide)]; exact w)]
        · rw [if_neg (by rw [(show (2 : Int32) = nI 2 from rfl), lt_nI hk (by decide)]; exact w), if_neg]
          rw [show (100000 : Int32) = nI 100000 from rfl, le_nI hk (by decide)]
          exact fun r => hy ⟨k, by omega, r, rfl⟩
    refine ⟨1, O, 0, si (si M 1001 0) 1001 1, ?_, ?_, rfl, fun e => absurd e (by decide), t, f, Z, c, i, h1, h2, h3, hC, (hM.cd 0).cd 1⟩
    · unfold F_l_shoal
      rw [eC, b1_s, su_r]
      rfl
    · unfold F_m_shoal
      rw [(show (2 : Int64) = lN 2 from rfl), (show (100000 : Int64) = lN 100000 from rfl), isIn_n (by decide) (by decide), b1_s, if_pos rfl]
      · rfl
      · rintro ⟨k, k1, k2, k3⟩
        rw [in_wide (by omega)] at k3
        exact hy ⟨k, k1, k2, k3⟩
