/-! ===== the span of primes ===== -/
theorem vpn1 : vp_nar .boolean 1 = 1 := by decide
theorem vpn0 : vp_nar .boolean 0 = 0 := by decide
/-- strike out the multiples of p from p * p on -/
theorem st_36 {p a b : Nat} (hp : 2 ≤ p) (hpb : p < 40000) (ha : a ≤ 1000000000) (hb : b ≤ 1000000000) : ∀ (j n m : Nat) (S : Sto), b + 1 ≤ m + j → j < n → a ≤ m → p ∣ m → m < 3000000000 →
    ∃ S', F_w_strikeMultiples_36 n (lN p) (nI a) (nI b) (lN m) S = some ((), S') ∧ Fr [] [] [57] [] [] S S' ∧ ∀ i, i < 2001 → ai S' 57 i = if p ∣ a + i ∧ m ≤ a + i ∧ a + i ≤ b then 1 else ai S 57 i := by
  intro j
  induction j with
  | zero =>
    intro n m S hj hn ham hpm hm
    obtain ⟨n, rfl⟩ : ∃ q, n = q + 1 := ⟨n - 1, by omega⟩
    refine ⟨S, ?_, Fr.rfl, fun i hi => ?_⟩
    · rw [F_w_strikeMultiples_36, i2l_nI (by omega), if_pos (by rw [lt_lN (by omega) (by omega)]; omega)]
    · rw [if_neg (by omega)]
  | succ j ih =>
    intro n m S hj hn ham hpm hm
    obtain ⟨n, rfl⟩ : ∃ q, n = q + 1 := ⟨n - 1, by omega⟩
    by_cases q : b < m
    · refine ⟨S, ?_, Fr.rfl, fun i hi => ?_⟩
      · rw [F_w_strikeMultiples_36, i2l_nI (by omega), if_pos (by rw [lt_lN (by omega) (by omega)]; exact q)]
      · rw [if_neg (by omega)]
    · rw [F_w_strikeMultiples_36, i2l_nI (by omega), if_neg (by rw [lt_lN (by omega) (by omega)]; exact q), i2l_nI (by omega), lN_sub ham, l2i_lN, if_neg (nI_pos (by omega))]
      unfold F_w_strikeMultiples_76
      rw [lN_add]
      have hnext : ∀ i, p ∣ a + i → (m ≤ a + i ↔ a + i = m ∨ m + p ≤ a + i) := by
        intro i hd
        constructor
        · intro h
          by_cases e : a + i = m
          · exact Or.inl e
          · refine Or.inr (Nat.not_lt.mp (fun r => ?_))
            have h2 : p ∣ a + i - m := Nat.dvd_sub hd hpm
            have := Nat.le_of_dvd (by omega) h2
            omega
        · rintro (h | h) <;> omega
      by_cases w : 2001 ≤ m - a
      · rw [if_pos (nI_le w (by omega))]
        obtain ⟨S', s1, s2, s3⟩ := ih n (m + p) S (by omega) (by omega) (by omega) (Nat.dvd_add hpm (Nat.dvd_refl p)) (by omega)
        refine ⟨S', s1, s2, fun i hi => ?_⟩
        rw [s3 i hi, if_neg (by omega), if_neg (by omega)]
      · rw [if_neg (nI_ge (by omega) (by omega)), ck_t (ib_nI (by omega) (by decide)), nI_clamp (by omega), vpn1]
        obtain ⟨S', s1, s2, s3⟩ := ih n (m + p) (ui S 57 (upd (ai S 57) (m - a) 1)) (by omega) (by omega) (by omega) (Nat.dvd_add hpm (Nat.dvd_refl p)) (by omega)
        refine ⟨S', s1, Fr.trans (Fr.rfl.ui (by decide)) s2, fun i hi => ?_⟩
        rw [s3 i hi]
        show (if p ∣ a + i ∧ m + p ≤ a + i ∧ a + i ≤ b then (1 : Int32) else upd (ai S 57) (m - a) 1 i) = _
        rw [upd_at]
        by_cases e : i = m - a
        · rw [if_pos e, if_neg (by omega), if_pos ⟨by rw [show a + i = m by omega]; exact hpm, by omega, by omega⟩]
        · rw [if_neg e]
          by_cases c : p ∣ a + i ∧ m + p ≤ a + i ∧ a + i ≤ b
          · rw [if_pos c, if_pos ⟨c.1, by omega, c.2.2⟩]
          · rw [if_neg c, if_neg]
            rintro ⟨c1, c2, c3⟩
            rcases (hnext i c1).mp c2 with u | u
            · omega
            · exact c ⟨c1, u, c3⟩
theorem st_m {p a b : Nat} {S : Sto} (hp : 2 ≤ p) (hpb : p < 40000) (ha : a ≤ 1000000000) (hb : b ≤ 1000000000) : ∃ S', F_w_strikeMultiples (lN p) (nI a) (nI b) S = some ((), S') ∧ Fr [] [] [57] [] [] S S' ∧ ∀ i, i < 2001 → ai S' 57 i = if p ∣ a + i ∧ p * p ≤ a + i ∧ a + i ≤ b then 1 else ai S 57 i := by
  have hpp : p * p ≤ 1600000000 := Nat.mul_le_mul (show p ≤ 40000 by omega) (show p ≤ 40000 by omega)
  have hr : a % p < p := Nat.mod_lt _ (by omega)
  have hr2 : (p - a % p) % p < p := Nat.mod_lt _ (by omega)
  have hd : p ∣ a + (p - a % p) % p := by
    refine Nat.dvd_of_mod_eq_zero ?_
    rw [Nat.add_mod, Nat.mod_mod]
    by_cases q : a % p = 0
    · rw [q, Nat.sub_zero, Nat.mod_self, Nat.zero_add, Nat.zero_mod]
    · rw [Nat.mod_eq_of_lt (show p - a % p < p by omega), show a % p + (p - a % p) = p by omega, Nat.mod_self]
  have hl : ∀ x, p ∣ x → a ≤ x → a + (p - a % p) % p ≤ x := by
    intro x hx hax
    refine Nat.not_lt.mp (fun r => ?_)
    have h2 : p ∣ a + (p - a % p) % p - x := Nat.dvd_sub hd hx
    have := Nat.le_of_dvd (by omega) h2
    omega
  unfold F_w_strikeMultiples
  rw [(show (2 : Int64) = lN 2 from rfl), if_pos (by rw [le_lN (by decide) (by omega)]; exact hp), i2l_nI (by omega), remW (by omega) (by omega) (by omega), b1_s, lN_sub (by omega), remW (by omega) (by omega) (by omega), b1_s, lN_mul, lN_add, mx_a (by omega) (by omega)]
  obtain ⟨S', s1, s2, s3⟩ := st_36 (a := a) (b := b) hp hpb ha hb (b + 1) FU (if p * p ≤ a + (p - a % p) % p then a + (p - a % p) % p else p * p) S (by omega) (by rw [FU_v]; omega) (by split <;> omega) (by split; exact hd; exact Nat.dvd_mul_left p p) (by split <;> omega)
  refine ⟨S', s1, s2, fun i hi => ?_⟩
  rw [s3 i hi]
  have e : (p ∣ a + i ∧ (if p * p ≤ a + (p - a % p) % p then a + (p - a % p) % p else p * p) ≤ a + i ∧ a + i ≤ b) = (p ∣ a + i ∧ p * p ≤ a + i ∧ a + i ≤ b) := by
    refine propext ⟨?_, ?_⟩
    · rintro ⟨h1, h2, h3⟩
      refine ⟨h1, ?_, h3⟩
      split at h2 <;> omega
    · rintro ⟨h1, h2, h3⟩
      refine ⟨h1, ?_, h3⟩
      have := hl (a + i) h1 (by omega)
      split <;> omega
  simp only [e]
/-- what is struck out up to a part -/
def stk (a b p i : Nat) : Prop := a + i < 2 ∨ ∃ d, (d = 2 ∨ (3 ≤ d ∧ d % 2 = 1)) ∧ d < p ∧ d ∣ a + i ∧ d * d ≤ a + i ∧ a + i ≤ b
theorem st_48 {a b : Nat} (ha : a ≤ 1000000000) (hb : b ≤ 1000000000) : ∀ (j n p : Nat) (S : Sto), b ≤ p + j → j < n → 3 ≤ p → p % 2 = 1 → p < 40000 → (∀ i, i < 2001 → (stk a b p i ∧ ai S 57 i = 1) ∨ (¬ stk a b p i ∧ ai S 57 i = 0)) →
    ∃ S', F_w_strike_48 n (nI a) (nI b) (lN p) S = some ((), S') ∧ Fr [] [] [57] [] [] S S' ∧ ∃ p', b < p' * p' ∧ 3 ≤ p' ∧ p' % 2 = 1 ∧ ∀ i, i < 2001 → (stk a b p' i ∧ ai S' 57 i = 1) ∨ (¬ stk a b p' i ∧ ai S' 57 i = 0) := by
  intro j
  induction j with
  | zero =>
    intro n p S hj hn h3 ho hp hs
    obtain ⟨n, rfl⟩ : ∃ q, n = q + 1 := ⟨n - 1, by omega⟩
    have hpp : p * p ≤ 1600000000 := Nat.mul_le_mul (show p ≤ 40000 by omega) (show p ≤ 40000 by omega)
    have hpp2 : 3 * p ≤ p * p := Nat.mul_le_mul_right p h3
    refine ⟨S, ?_, Fr.rfl, p, by omega, h3, ho, hs⟩
    rw [F_w_strike_48, i2l_nI (by omega), lN_mul, if_pos (by rw [lt_lN (by omega) (by omega)]; omega)]
  | succ j ih =>
    intro n p S hj hn h3 ho hp hs
    obtain ⟨n, rfl⟩ : ∃ q, n = q + 1 := ⟨n - 1, by omega⟩
    have hpp : p * p ≤ 1600000000 := Nat.mul_le_mul (show p ≤ 40000 by omega) (show p ≤ 40000 by omega)
    rw [F_w_strike_48, i2l_nI (by omega), lN_mul]
    by_cases q : b < p * p
    · rw [if_pos (by rw [lt_lN (by omega) (by omega)]; exact q)]
      exact ⟨S, rfl, Fr.rfl, p, q, h3, ho, hs⟩
    · rw [if_neg (by rw [lt_lN (by omega) (by omega)]; exact q), (show (2 : Int64) = lN 2 from rfl), lN_add]
      have hp2 : p < 31624 := by
        refine Nat.not_le.mp (fun r => ?_)
        have := Nat.mul_le_mul r r
        omega
      obtain ⟨S1, s1, s2, s3⟩ := st_m (p := p) (a := a) (b := b) (S := S) (by omega) hp ha hb
      rw [s1, b2_s]
      obtain ⟨S', t1, t2, t3⟩ := ih n (p + 2) S1 (by omega) (by omega) (by omega) (by omega) (by omega) (fun i hi => by
        rw [s3 i hi]
        have e1 : stk a b (p + 2) i ↔ stk a b p i ∨ (p ∣ a + i ∧ p * p ≤ a + i ∧ a + i ≤ b) := by
          constructor
          · rintro (h | ⟨d, d1, d2, d3⟩)
            · exact Or.inl (Or.inl h)
            · by_cases w : d = p
              · rw [w] at d3; exact Or.inr d3
              · exact Or.inl (Or.inr ⟨d, d1, by omega, d3⟩)
          · rintro ((h | ⟨d, d1, d2, d3⟩) | h)
            · exact Or.inl h
            · exact Or.inr ⟨d, d1, by omega, d3⟩
            · exact Or.inr ⟨p, Or.inr ⟨h3, ho⟩, by omega, h⟩
        by_cases w : p ∣ a + i ∧ p * p ≤ a + i ∧ a + i ≤ b
        · rw [if_pos w]
          exact Or.inl ⟨e1.mpr (Or.inr w), rfl⟩
        · rw [if_neg w]
          rcases hs i hi with ⟨g1, g2⟩ | ⟨g1, g2⟩
          · exact Or.inl ⟨e1.mpr (Or.inl g1), g2⟩
          · refine Or.inr ⟨fun h => ?_, g2⟩
            rcases e1.mp h with u | u
            · exact g1 u
            · exact w u)
      exact ⟨S', t1, s2.trans t2, t3⟩
theorem st_2 {a b : Nat} (ha : a ≤ 1000000000) (hb : b ≤ 1000000000) : ∀ (j n k : Nat) (S : Sto), k + j = 2001 → j < n → (∀ i, i < k → ai S 57 i = if a + i < 2 then 1 else 0) →
    ∃ S', F_w_strike_2 n (nI a) (nI b) (nI k) S = some ((), S') ∧ Fr [] [] [57] [] [] S S' ∧ ∃ p', b < p' * p' ∧ 3 ≤ p' ∧ p' % 2 = 1 ∧ ∀ i, i < 2001 → (stk a b p' i ∧ ai S' 57 i = 1) ∨ (¬ stk a b p' i ∧ ai S' 57 i = 0) := by
  intro j
  induction j with
  | zero =>
    intro n k S hk hn hs
    obtain ⟨n, rfl⟩ : ∃ q, n = q + 1 := ⟨n - 1, by omega⟩
    have : k = 2001 := by omega
    subst this
    rw [F_w_strike_2, if_pos (nI_le (Nat.le_refl _) (by decide)), (show (2 : Int64) = lN 2 from rfl), (show (3 : Int64) = lN 3 from rfl)]
    obtain ⟨S1, s1, s2, s3⟩ := st_m (p := 2) (a := a) (b := b) (S := S) (by decide) (by decide) ha hb
    rw [s1, b2_s]
    obtain ⟨S', t1, t2, t3⟩ := st_48 (a := a) (b := b) ha hb b FU 3 S1 (by omega) (by rw [FU_v]; omega) (by decide) (by decide) (by decide) (fun i hi => by
      rw [s3 i hi, hs i hi]
      have e1 : stk a b 3 i ↔ a + i < 2 ∨ (2 ∣ a + i ∧ 2 * 2 ≤ a + i ∧ a + i ≤ b) := by
        constructor
        · rintro (h | ⟨d, d1, d2, d3⟩)
          · exact Or.inl h
          · have : d = 2 := by omega
            rw [this] at d3; exact Or.inr d3
        · rintro (h | h)
          · exact Or.inl h
          · exact Or.inr ⟨2, Or.inl rfl, by decide, h⟩
      by_cases w : 2 ∣ a + i ∧ 2 * 2 ≤ a + i ∧ a + i ≤ b
      · rw [if_pos w]; exact Or.inl ⟨e1.mpr (Or.inr w), rfl⟩
      · rw [if_neg w]
        by_cases u : a + i < 2
        · rw [if_pos u]; exact Or.inl ⟨e1.mpr (Or.inl u), rfl⟩
        · rw [if_neg u]
          refine Or.inr ⟨fun h => ?_, rfl⟩
          rcases e1.mp h with v | v
          · exact u v
          · exact w v)
    exact ⟨S', t1, s2.trans t2, t3⟩
  | succ j ih =>
    intro n k S hk hn hs
    obtain ⟨n, rfl⟩ : ∃ q, n = q + 1 := ⟨n - 1, by omega⟩
    have key : F_w_strike_2 (n + 1) (nI a) (nI b) (nI k) S = F_w_strike_2 n (nI a) (nI b) (nI (k + 1)) (ui S 57 (upd (ai S 57) k (if a + k < 2 then 1 else 0))) := by
      rw [F_w_strike_2, if_neg (nI_ge (by omega) (by decide)), nI_add, (show (2 : Int32) = nI 2 from rfl)]
      unfold F_w_strike_28
      rw [nI_clamp (by omega), vpn0, vpn1, ck_t (ib_nI (by omega) (by decide)), ck_t (ib_nI (by omega) (by decide)), show nI k + (1 : Int32) = nI (k + 1) from nI_add k 1]
      by_cases w : a + k < 2
      · rw [if_neg (nI_ge w (by decide)), if_pos w]
      · rw [if_pos (nI_le (by omega) (by omega)), if_neg w]
    rw [key]
    obtain ⟨S', s1, s2, s3⟩ := ih n (k + 1) (ui S 57 (upd (ai S 57) k (if a + k < 2 then 1 else 0))) (by omega) (by omega) (fun i hi => by
      show upd (ai S 57) k (if a + k < 2 then 1 else 0) i = _
      rw [upd_at]
      by_cases q : i = k
      · rw [if_pos q, q]
      · rw [if_neg q]; exact hs i (by omega))
    exact ⟨S', s1, Fr.trans (Fr.rfl.ui (by decide)) s2, s3⟩
theorem stk_prm {a b p i : Nat} (hb : b < p * p) (h3 : 3 ≤ p) (hi : a + i ≤ b) : stk a b p i ↔ ¬ prm (a + i) := by
  constructor
  · rintro (h | ⟨d, d1, d2, d3, d4, d5⟩) hp
    · have := hp.1; omega
    · refine hp.2 d (by omega) ?_ d3
      have : d < d * d := by
        have := Nat.mul_le_mul_right d (show 2 ≤ d by omega)
        omega
      omega
  · intro hp
    by_cases h2 : a + i < 2
    · exact Or.inl h2
    refine Or.inr ?_
    have hc : ∃ d, 2 ≤ d ∧ d < a + i ∧ d ∣ a + i := Classical.byContradiction (fun h => hp ⟨by omega, fun d d1 d2 d3 => h ⟨d, d1, d2, d3⟩⟩)
    have hr : ∃ d, 2 ≤ d ∧ d * d ≤ a + i ∧ d ∣ a + i := by
      refine Classical.byContradiction (fun h => ?_)
      obtain ⟨d, d1, d2, d3⟩ := hc
      obtain ⟨e, he⟩ := d3
      have he2 : 2 ≤ e := by
        rcases e with _ | _ | e
        · omega
        · omega
        · omega
      by_cases w : d ≤ e
      · exact h ⟨d, d1, by rw [he]; exact Nat.mul_le_mul_left d w, ⟨e, he⟩⟩
      · exact h ⟨e, he2, by rw [he, Nat.mul_comm d]; exact Nat.mul_le_mul_left e (by omega), ⟨d, by rw [he, Nat.mul_comm]⟩⟩
    obtain ⟨d, d1, d2, d3⟩ := hr
    have hlt : ∀ e, e * e ≤ a + i → e < p := by
      intro e he
      refine Nat.not_le.mp (fun r => ?_)
      have := Nat.mul_le_mul r r
      omega
    by_cases w : d % 2 = 1
    · exact ⟨d, Or.inr ⟨by omega, w⟩, hlt d d2, d3, d2, hi⟩
    · have h22 : 2 * 2 ≤ a + i := Nat.le_trans (Nat.mul_le_mul d1 d1) d2
      exact ⟨2, Or.inl rfl, by omega, Nat.dvd_trans ⟨d / 2, by omega⟩ d3, h22, hi⟩
theorem ps_lp {a b p : Nat} (hab : a ≤ b) (hb2 : b ≤ a + 2000) (hb : b ≤ 1000000000) {S M : Sto} (hp : b < p * p) (h3 : 3 ≤ p) (hs : ∀ i, i < 2001 → (stk a b p i ∧ ai S 57 i = 1) ∨ (¬ stk a b p i ∧ ai S 57 i = 0)) : ∀ (j n n' i q : Nat), i + j = b - a + 1 → j < n → j < n' →
    ∃ r, F_w_primes_47 n (nI a) (nI b) (nI q) (nI i) S = some (.inl r, S) ∧ F_m_primes_46 n' (nI b) (nI q) (nI (a + i)) M = some (r, M) := by
  intro j
  induction j with
  | zero =>
    intro n n' i q hi hn hn'
    obtain ⟨n, rfl⟩ : ∃ q, n = q + 1 := ⟨n - 1, by omega⟩
    obtain ⟨n', rfl⟩ : ∃ q, n' = q + 1 := ⟨n' - 1, by omega⟩
    refine ⟨nI q, ?_, ?_⟩
    · rw [F_w_primes_47, sub_nI hab, if_pos (nI_lt (by omega) (by omega))]
    · rw [F_m_primes_46, if_pos (nI_lt (by omega) (by omega))]
  | succ j ih =>
    intro n n' i q hi hn hn'
    obtain ⟨n, rfl⟩ : ∃ q, n = q + 1 := ⟨n - 1, by omega⟩
    obtain ⟨n', rfl⟩ : ∃ q, n' = q + 1 := ⟨n' - 1, by omega⟩
    have es := stk_prm (a := a) (i := i) hp h3 (by omega)
    rw [F_w_primes_47, F_m_primes_46, sub_nI hab, if_neg (by rw [lt_nI (by omega) (by omega)]; omega), if_neg (nI_ge (by omega) (by decide)), ck_t (ib_nI (by omega) (by decide)), nI_clamp (by omega), if_neg (show ¬ nI b < nI (a + i) by rw [lt_nI (by omega) (by omega)]; omega)]
    unfold F_w_primes_78 F_m_primes_66
    rw [(show (1 : Int32) = nI 1 from rfl), (show (0 : Int32) = nI 0 from rfl), nI_add, nI_add, nI_add, nI_add, show a + i + 1 = a + (i + 1) by omega]
    rcases mpr_ok (x := a + i) (by omega) with ⟨m1, m2⟩ | ⟨m1, m2⟩
    · rcases hs i (by omega) with ⟨g1, _⟩ | ⟨_, g2⟩
      · exact absurd m1 (es.mp g1)
      · rw [g2, m2, b1_s, if_pos (show (0 : Int32) = nI 0 from rfl), if_neg (show ¬ (1 : Int32) = nI 0 by decide)]
        exact ih n n' (i + 1) (q + 1) (by omega) (by omega) (by omega)
    · rcases hs i (by omega) with ⟨_, g2⟩ | ⟨g1, _⟩
      · rw [g2, m2, b1_s, if_neg (show ¬ (1 : Int32) = nI 0 by decide), if_pos (show (0 : Int32) = nI 0 from rfl)]
        exact ih n n' (i + 1) q (by omega) (by omega) (by omega)
      · exact absurd (es.mpr m1) g1
theorem primes_ok {S M O : Sto} (h : Rl S M) (x y : Int32) : ∃ k S' O' b M', F_l_primes x y S O = some (k, S', O') ∧ F_m_primes x y M = some (b, M') ∧ gi M' 1001 = k ∧ (k = 0 → al O' 2000 (Int32.toNatClampNeg 0) = b.toInt64) ∧ Rl S' M' := by
  obtain ⟨t, f, Z, c, i, h1, h2, h3, hC, hM⟩ := h
  have bad : F_w_primes x y S = some (.inr 0, S) → F_m_primes x y M = some (0, si (si M 1001 0) 1001 1) → ∃ k S' O' b M', F_l_primes x y S O = some (k, S', O') ∧ F_m_primes x y M = some (b, M') ∧ gi M' 1001 = k ∧ (k = 0 → al O' 2000 (Int32.toNatClampNeg 0) = b.toInt64) ∧ Rl S' M' := by
    intro e1 e2
    refine ⟨1, S, O, 0, _, ?_, e2, rfl, fun e => absurd e (by decide), t, f, Z, c, i, h1, h2, h3, hC, (hM.cd 0).cd 1⟩
    unfold F_l_primes
    rw [e1, b2_s, su_r]
    rfl
  by_cases hx : isDv x
  · obtain ⟨a, a1, a2, rfl⟩ := hx
    by_cases hy : isDv y
    · obtain ⟨b, b1', b2', rfl⟩ := hy
      by_cases hab : a ≤ b ∧ b ≤ a + 2000
      · obtain ⟨S', s1, s2, p, p1, p2, _, p4⟩ := st_2 (a := a) (b := b) a2 b2' 2001 FU 0 S rfl (by rw [FU_v]; decide) (fun i hi => absurd hi (Nat.not_lt_zero i))
        obtain ⟨r, r1, r2⟩ := ps_lp hab.1 hab.2 b2' (M := si M 1001 0) p1 p2 p4 (b - a + 1) FU FU 0 0 (by omega) (by rw [FU_v]; omega) (by rw [FU_v]; omega)
        refine ⟨0, S', oW O r.toInt64, r, si M 1001 0, ?_, ?_, rfl, fun _ => rfl, t, f, Z, c, i, h1, h2, h3, RC_fq hC s2 (by decide) (by decide) (by decide), hM.cd 0⟩
        · unfold F_l_primes F_w_primes F_w_strike
          rw [wdv_y a1 a2, b1_s, if_neg I1_0, wdv_y b1' b2', b1_s, if_neg I1_0, if_neg (by rw [lt_nI (by omega) (by omega)]; omega), show (2000 : Int32) = nI 2000 from rfl, nI_add, if_pos (nI_le hab.2 (by omega)), show F_w_strike_2 FU (nI a) (nI b) 0 S = _ from s1, b2_s, show F_w_primes_47 FU (nI a) (nI b) 0 0 S' = _ from r1, b2_s, su_l]
        · unfold F_m_primes
          rw [msm_y a1 a2, b1_s, if_neg I1_0, msm_y b1' b2', b1_s, if_neg I1_0, i2l_nI (by omega), i2l_nI (by omega), (show (2000 : Int64) = lN 2000 from rfl), lN_add, isIn_y hab.1 hab.2 (by omega), b1_s, if_neg I1_0]
          exact r2
      · refine bad ?_ ?_
        · unfold F_w_primes F_w_primes_28
          rw [wdv_y a1 a2, b1_s, if_neg I1_0, wdv_y b1' b2', b1_s, if_neg I1_0]
          by_cases u : b < a
          · rw [if_pos (nI_lt u (by omega))]
          · rw [if_neg (by rw [lt_nI (by omega) (by omega)]; exact u), show (2000 : Int32) = nI 2000 from rfl, nI_add, if_neg (by rw [le_nI (by omega) (by omega)]; omega)]
        · unfold F_m_primes F_m_primes_35
          rw [msm_y a1 a2, b1_s, if_neg I1_0, msm_y b1' b2', b1_s, if_neg I1_0, i2l_nI (by omega), i2l_nI (by omega), (show (2000 : Int64) = lN 2000 from rfl), lN_add, isIn_n (by omega) (by omega), b1_s, if_pos rfl]
          · rfl
          · rintro ⟨k, k1, k2, k3⟩
            rw [eq_lN (by omega) (by omega)] at k3
            exact hab ⟨by omega, by omega⟩
    · refine bad ?_ ?_
      · unfold F_w_primes F_w_primes_28
        rw [wdv_y a1 a2, b1_s, if_neg I1_0, wdv_n hy, b1_s, if_pos rfl]
      · unfold F_m_primes F_m_primes_35
        rw [msm_y a1 a2, b1_s, if_neg I1_0, msm_n hy, b1_s, if_pos rfl]
        rfl
  · refine bad ?_ ?_
    · unfold F_w_primes F_w_primes_28
      rw [wdv_n hx, b1_s, if_pos rfl]
    · unfold F_m_primes F_m_primes_35
      rw [msm_n hx, b1_s, if_pos rfl]
      rfl
