/-! ===== common parts ===== -/
theorem gstep {a b K : Nat} (h : b < a) (h0 : 0 < b) (hp : a * b < 2 ^ (K + 1)) : a % b < b ∧ b * (a % b) < 2 ^ K := by
  have h1 : a % b < b := Nat.mod_lt _ h0
  refine ⟨h1, ?_⟩
  have h2 : a % b + b ≤ a := by
    have e := Nat.div_add_mod a b
    have : 1 ≤ a / b := Nat.div_pos (by omega) h0
    have : b * 1 ≤ b * (a / b) := Nat.mul_le_mul_left b this
    omega
  have h3 : 2 * (b * (a % b)) ≤ a * b := by
    rw [← Nat.mul_assoc, Nat.mul_comm 2 b, Nat.mul_assoc, Nat.mul_comm a b]
    exact Nat.mul_le_mul_left b (by omega)
  rw [Nat.pow_succ] at hp
  omega
theorem com_lp : ∀ (K n c a b : Nat), a < 4611686018427387904 → b < a → a * b < 2 ^ K → c + K ≤ 63 → K < n → F_Sh_commonPart_9 n (lN a) (lN b) (nI c) = some (lN (Nat.gcd a b)) := by
  intro K
  induction K with
  | zero =>
    intro n c a b ha hb hp hc hn
    obtain ⟨n, rfl⟩ : ∃ q, n = q + 1 := ⟨n - 1, by omega⟩
    have b0 : b = 0 := by
      rcases Nat.eq_zero_or_pos b with q | q
      · exact q
      · have := Nat.mul_pos (show 0 < a by omega) q
        omega
    subst b0
    rw [F_Sh_commonPart_9, show (64 : Int32) = nI 64 from rfl, if_neg (nI_ge (by omega) (by decide)), if_pos (by decide), Nat.gcd_zero_right]
  | succ K ih =>
    intro n c a b ha hb hp hc hn
    obtain ⟨n, rfl⟩ : ∃ q, n = q + 1 := ⟨n - 1, by omega⟩
    rw [F_Sh_commonPart_9, show (64 : Int32) = nI 64 from rfl, if_neg (nI_ge (by omega) (by decide))]
    rcases Nat.eq_zero_or_pos b with q | q
    · subst q
      rw [if_pos (by decide), Nat.gcd_zero_right]
    · obtain ⟨g1, g2⟩ := gstep hb q hp
      rw [(show (0 : Int64) = lN 0 from rfl), if_neg (by rw [le_lN (by omega) (by decide)]; omega), ck_t (nzL_lN q (by omega)), rem_lN (by omega) q (by omega), show nI c + (1 : Int32) = nI (c + 1) from nI_add c 1, ih n (c + 1) b (a % b) (by omega) g1 g2 (by omega) (by omega)]
      rw [Nat.gcd_comm b (a % b), ← Nat.gcd_rec, Nat.gcd_comm]
theorem com_ok {a b : Nat} (ha : a ≤ 2097152) (hb : b < a) : F_Sh_commonPart (lN a) (lN b) = some (lN (Nat.gcd a b)) := by
  unfold F_Sh_commonPart
  refine com_lp 42 FU 0 a b (by omega) hb ?_ (by decide) (by rw [FU_v]; decide)
  have : a * b ≤ 2097152 * 2097151 := Nat.mul_le_mul ha (by omega)
  exact Nat.lt_of_le_of_lt this (by decide)
theorem mcom_lp : ∀ (n a b : Nat), a < 4611686018427387904 → b < 4611686018427387904 → b < n → F_m_common_6 n (lN a) (lN b) = some (lN (Nat.gcd a b)) := by
  intro n
  induction n with
  | zero => intro a b _ _ h; exact absurd h (Nat.not_lt_zero _)
  | succ n ih =>
    intro a b ha hb hn
    rw [F_m_common_6]
    rcases Nat.eq_zero_or_pos b with q | q
    · subst q
      rw [if_pos (by decide), Nat.gcd_zero_right]
    · have g1 : a % b < b := Nat.mod_lt _ q
      rw [(show (0 : Int64) = lN 0 from rfl), if_neg (by rw [eq_lN (by omega) (by decide)]; omega), ck_t (nzL_lN q (by omega)), rem_lN (by omega) q (by omega), ih b (a % b) hb (by omega) (by omega)]
      rw [Nat.gcd_comm b (a % b), ← Nat.gcd_rec, Nat.gcd_comm]
theorem mcom_ok {a b : Nat} (ha : a < 4611686018427387904) (hb : b ≤ 2097152) : F_m_common (lN a) (lN b) = some (lN (Nat.gcd a b)) := by
  unfold F_m_common
  exact mcom_lp FU a b ha (by omega) (by rw [FU_v]; omega)
/-! times: x * r = a + m * u at every step, and the sizes X * b + Y * a = m -/
def Eu (m r a b X Y : Nat) (x y : Int) : Prop := ((x = X ∧ y = -(Y : Int)) ∨ (x = -(X : Int) ∧ y = Y)) ∧ X * b + Y * a = m ∧ X ≤ m ∧ (∃ u : Int, x * r = a + m * u) ∧ (∃ u : Int, y * r = b + m * u)
theorem Eu.step {m r a b X Y : Nat} {x y : Int} (h : Eu m r a b X Y x y) (h0 : 0 < a) : Eu m r b (a % b) Y (X + (a / b) * Y) y (x - (a / b : Nat) * y) := by
  obtain ⟨sx, sz, xm, ⟨u, hu⟩, ⟨v, hv⟩⟩ := h
  have e := Nat.div_add_mod a b
  refine ⟨?_, ?_, ?_, ⟨v, hv⟩, ⟨u - (a / b : Nat) * v, ?_⟩⟩
  · rcases sx with ⟨p, q⟩ | ⟨p, q⟩
    · right
      refine ⟨q, ?_⟩
      rw [p, q, Int.natCast_add, Int.natCast_mul, Int.mul_neg]; omega
    · left
      refine ⟨q, ?_⟩
      rw [p, q, Int.natCast_add, Int.natCast_mul]; omega
  · have h1 : Y * (a % b) + (X + a / b * Y) * b = X * b + Y * (b * (a / b) + a % b) := by
      rw [Nat.add_mul, Nat.mul_add]
      have : a / b * Y * b = Y * (b * (a / b)) := by rw [Nat.mul_comm (a / b) Y, Nat.mul_assoc, Nat.mul_comm (a / b) b]
      omega
    rw [h1, e, sz]
  · have : Y * 1 ≤ Y * a := Nat.mul_le_mul_left Y h0
    omega
  · have e2 : (a : Int) = b * (a / b : Nat) + (a % b : Nat) := by exact_mod_cast e.symm
    rw [Int.sub_mul, Int.mul_assoc, hu, hv, Int.mul_add, Int.mul_sub]
    have h3 : ((a / b : Nat) : Int) * (m * v) = m * ((a / b : Nat) * v) := by rw [← Int.mul_assoc, Int.mul_comm _ (m : Int), Int.mul_assoc]
    have h4 : ((a / b : Nat) : Int) * b = b * (a / b : Nat) := Int.mul_comm _ _
    rw [h3, h4]
    omega
theorem Eu.bd {m r a b X Y : Nat} {x y : Int} (h : Eu m r a b X Y x y) : -(m : Int) ≤ x ∧ x ≤ m := by
  obtain ⟨sx, _, xm, _, _⟩ := h
  rcases sx with ⟨p, _⟩ | ⟨p, _⟩ <;> omega
theorem inv_lp {m r : Nat} (hm : m ≤ 2097152) : ∀ (K n c a b X Y : Nat) (x y : Int), Eu m r a b X Y x y → a ≤ 2097152 → b < a → a * b < 2 ^ K → c + K ≤ 63 → K < n → ∃ z : Nat, F_Sh_inverse_19 n (lN m) (lN a) (lN b) (zL x) (zL y) (nI c) = some (lN z) ∧ z ≤ m ∧ ∃ u : Int, (z : Int) * r = (Nat.gcd a b : Nat) + m * u := by
  have fin : ∀ (n c a X Y : Nat) (x y : Int), Eu m r a 0 X Y x y → c ≤ 63 → ∃ z : Nat, F_Sh_inverse_19 (n + 1) (lN m) (lN a) (lN 0) (zL x) (zL y) (nI c) = some (lN z) ∧ z ≤ m ∧ ∃ u : Int, (z : Int) * r = (Nat.gcd a 0 : Nat) + m * u := by
    intro n c a X Y x y h hc
    have hb := h.bd
    obtain ⟨u, hu⟩ := h.2.2.2.1
    rw [F_Sh_inverse_19, show (64 : Int32) = nI 64 from rfl, if_neg (nI_ge (by omega) (by decide)), if_pos (by decide), Nat.gcd_zero_right]
    unfold F_Sh_inverse_82
    by_cases q : 0 ≤ x
    · refine ⟨x.toNat, ?_, by omega, u, by rw [Int.toNat_of_nonneg q]; exact hu⟩
      rw [show (0 : Int64) = zL 0 from rfl, if_pos (by rw [le_zL (by omega) (by omega) (by omega) (by omega)]; exact q), zL_n q]
    · have q2 : 0 ≤ x + m := by omega
      refine ⟨(x + m).toNat, ?_, by omega, u + r, ?_⟩
      · rw [show (0 : Int64) = zL 0 from rfl, if_neg (by rw [le_zL (by omega) (by omega) (by omega) (by omega)]; exact q), lN_z, add_zL, zL_n q2]
      · rw [Int.toNat_of_nonneg q2, Int.add_mul, hu, Int.mul_add, Int.add_assoc]
  intro K
  induction K with
  | zero =>
    intro n c a b X Y x y h ha hb hp hc hn
    obtain ⟨n, rfl⟩ : ∃ q, n = q + 1 := ⟨n - 1, by omega⟩
    have b0 : b = 0 := by
      rcases Nat.eq_zero_or_pos b with q | q
      · exact q
      · have := Nat.mul_pos (show 0 < a by omega) q
        omega
    subst b0
    exact fin n c a X Y x y h (by omega)
  | succ K ih =>
    intro n c a b X Y x y h ha hb hp hc hn
    obtain ⟨n, rfl⟩ : ∃ q, n = q + 1 := ⟨n - 1, by omega⟩
    rcases Nat.eq_zero_or_pos b with q | q
    · subst q
      exact fin n c a X Y x y h (by omega)
    · obtain ⟨g1, g2⟩ := gstep hb q hp
      obtain ⟨z, z1, z2, u, z3⟩ := ih n (c + 1) b (a % b) Y (X + (a / b) * Y) y (x - (a / b : Nat) * y) (h.step (by omega)) (by omega) g1 g2 (by omega) (by omega)
      refine ⟨z, ?_, z2, u, ?_⟩
      · rw [F_Sh_inverse_19, show (64 : Int32) = nI 64 from rfl, if_neg (nI_ge (by omega) (by decide)), (show (0 : Int64) = lN 0 from rfl), if_neg (by rw [le_lN (by omega) (by decide)]; omega), ck_t (nzL_lN q (by omega)), rem_lN (by omega) q (by omega), div_lN (by omega) q (by omega), show nI c + (1 : Int32) = nI (c + 1) from nI_add c 1, lN_z (a / b), mul_zL, sub_zL]
        exact z1
      · rw [z3, Nat.gcd_comm b (a % b), ← Nat.gcd_rec, Nat.gcd_comm b a]
