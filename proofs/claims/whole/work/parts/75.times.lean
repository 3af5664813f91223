/-! ===== inverses ===== -/
theorem Eu.init (m r : Nat) : Eu m r m r 0 1 0 1 :=
  ⟨Or.inr ⟨rfl, rfl⟩, by omega, Nat.zero_le _, ⟨-1, by omega⟩, ⟨0, by omega⟩⟩
theorem gmod (m x : Nat) : Nat.gcd m (x % m) = Nat.gcd m x := by rw [Nat.gcd_comm m (x % m), ← Nat.gcd_rec]
theorem lift_u {m x z g : Nat} (h : ∃ u : Int, (z : Int) * (x % m : Nat) = g + m * u) : ∃ u : Int, (z : Int) * x = g + m * u := by
  obtain ⟨u, hu⟩ := h
  refine ⟨u + z * (x / m : Nat), ?_⟩
  have e : (x : Int) = m * (x / m : Nat) + (x % m : Nat) := by exact_mod_cast (Nat.div_add_mod x m).symm
  have h3 : (z : Int) * (m * (x / m : Nat)) = m * (z * (x / m : Nat)) := by rw [← Int.mul_assoc, Int.mul_comm _ (m : Int), Int.mul_assoc]
  have h4 : (z : Int) * x = z * (m * (x / m : Nat)) + z * (x % m : Nat) := by rw [← Int.mul_add]; exact congrArg (fun q => (z : Int) * q) e
  rw [h4, hu, h3, Int.mul_add]
  omega
theorem inv_ok {m x : Nat} (h1 : 1 ≤ m) (hm : m ≤ 2097152) (hx : x < 4611686018427387904) : ∃ z : Nat, F_Sh_inverse (lN x) (lN m) = some (lN z) ∧ z ≤ m ∧ ∃ u : Int, (z : Int) * x = (Nat.gcd m x : Nat) + m * u := by
  have hr : x % m < m := Nat.mod_lt _ h1
  have hp : m * (x % m) < 2 ^ 42 := by
    have : m * (x % m) ≤ 2097152 * 2097151 := Nat.mul_le_mul hm (by omega)
    exact Nat.lt_of_le_of_lt this (by decide)
  obtain ⟨z, z1, z2, z3⟩ := inv_lp (r := x % m) hm 42 FU 0 m (x % m) 0 1 0 1 (Eu.init m (x % m)) hm hr hp (by decide) (by rw [FU_v]; decide)
  refine ⟨z, ?_, z2, lift_u (by rw [gmod] at z3; exact z3)⟩
  unfold F_Sh_inverse
  rw [remW (by omega) h1 (by omega), b1_s]
  exact z1
theorem emd {m : Nat} {x : Int} (h1 : 1 ≤ m) (hm : m ≤ 2097152) (hx : -(m : Int) ≤ x ∧ x ≤ m) : ((zL x - zL x / lN m * lN m) + lN m) - ((zL x - zL x / lN m * lN m) + lN m) / lN m * lN m = lN (x % m).toNat := by
  have b1 : -(m : Int) < x.tmod m ∧ x.tmod m < m := by
    refine ⟨?_, Int.tmod_lt_of_pos _ (by omega)⟩
    have := Int.tmod_lt_of_pos (-x) (show (0 : Int) < m by omega)
    rw [Int.neg_tmod] at this
    omega
  have b2 : x.tmod m = x - m * (x.tdiv m) := Int.tmod_def _ _
  rw [lN_z m, rem_zL (by omega) (by omega) (by omega) (by omega), add_zL, rem_zL (by omega) (by omega) (by omega) (by omega), Int.tmod_eq_emod_of_nonneg (by omega), b2]
  have e1 : x - m * x.tdiv m + m = x + m * (1 - x.tdiv m) := by rw [Int.mul_sub, Int.mul_one]; omega
  rw [e1, Int.add_mul_emod_self_left]
  exact zL_n (Int.emod_nonneg _ (by omega))
theorem tim_lp {m r t : Nat} (h1 : 1 ≤ m) (hm : m ≤ 2097152) (ht : t < m) : ∀ (n a b X Y : Nat) (x y : Int), Eu m r a b X Y x y → a ≤ 2097152 → b < a → b < n → ∃ z : Nat, F_m_timesFor_14 n (lN m) (lN t) (lN a) (lN b) (zL x) (zL y) = some (lN (z * t % m)) ∧ ∃ u : Int, (z : Int) * r = (Nat.gcd a b : Nat) + m * u := by
  intro n
  induction n with
  | zero => intro a b X Y x y _ _ _ h; exact absurd h (Nat.not_lt_zero _)
  | succ n ih =>
    intro a b X Y x y h ha hb hn
    rcases Nat.eq_zero_or_pos b with q | q
    · subst q
      have hbd := h.bd
      obtain ⟨u, hu⟩ := h.2.2.2.1
      have e0 : 0 ≤ x % m := Int.emod_nonneg _ (by omega)
      have e1 : x % m < m := Int.emod_lt_of_pos _ (by omega)
      have e2 : (x % m).toNat < m := by omega
      have hp : (x % m).toNat * t ≤ 2097152 * 2097152 := Nat.mul_le_mul (by omega) (by omega)
      refine ⟨(x % m).toNat, ?_, u - (x / m) * r, ?_⟩
      · rw [F_m_timesFor_14, if_pos (by decide), ck_t (nzL_lN h1 (by omega)), ck_t (nzL_lN h1 (by omega)), ck_t (nzL_lN h1 (by omega)), emd h1 hm hbd, lN_mul, rem_lN (by omega) h1 (by omega)]
      · rw [Int.toNat_of_nonneg e0, Nat.gcd_zero_right]
        have e3 := Int.mul_ediv_add_emod x m
        have e4 : x % m = x - m * (x / m) := by omega
        rw [e4, Int.sub_mul, hu, Int.mul_sub, Int.mul_assoc]
        omega
    · have g1 : a % b < b := Nat.mod_lt _ q
      obtain ⟨z, z1, u, z3⟩ := ih b (a % b) Y (X + (a / b) * Y) y (x - (a / b : Nat) * y) (h.step (by omega)) (by omega) g1 (by omega)
      refine ⟨z, ?_, u, ?_⟩
      · rw [F_m_timesFor_14, (show (0 : Int64) = lN 0 from rfl), if_neg (by rw [eq_lN (by omega) (by decide)]; omega), ck_t (nzL_lN q (by omega)), rem_lN (by omega) q (by omega), div_lN (by omega) q (by omega), lN_z (a / b), mul_zL, sub_zL]
        exact z1
      · rw [z3, Nat.gcd_comm b (a % b), ← Nat.gcd_rec, Nat.gcd_comm b a]
theorem tim_ok {a m t : Nat} (h1 : 1 ≤ m) (hm : m ≤ 2097152) (ht : t < m) (ha : a < 4611686018427387904) : ∃ z : Nat, F_m_timesFor (lN a) (lN m) (lN t) = some (lN (z * t % m)) ∧ ∃ u : Int, (z : Int) * a = (Nat.gcd m a : Nat) + m * u := by
  have hr : a % m < m := Nat.mod_lt _ h1
  obtain ⟨z, z1, z2⟩ := tim_lp (r := a % m) h1 hm ht 1099511627775 m (a % m) 0 1 0 1 (Eu.init m (a % m)) hm hr (by omega)
  refine ⟨z, ?_, lift_u (by rw [gmod] at z2; exact z2)⟩
  unfold F_m_timesFor
  rw [ck_t (nzL_lN h1 (by omega)), rem_lN (by omega) h1 (by omega), show F_m_timesFor_14 FU = F_m_timesFor_14 (1099511627775 + 1) from rfl, F_m_timesFor_14, (show (0 : Int64) = lN 0 from rfl), if_neg (by rw [eq_lN (by omega) (by decide)]; omega), ck_t (nzL_lN h1 (by omega)), rem_lN (by omega) h1 (by omega), div_lN (by omega) h1 (by omega), Nat.mod_eq_of_lt hr, Nat.div_eq_of_lt hr, lN_mul, Nat.zero_mul, (show (1 : Int64) = lN 1 from rfl), lN_sub (by decide)]
  exact z1
