/-! ===== knots that hold ===== -/
theorem cop {m g : Nat} (h1 : 1 ≤ m) : Nat.gcd (m / Nat.gcd m g) (g / Nat.gcd m g) = 1 := by
  have h0 : 0 < Nat.gcd m g := Nat.gcd_pos_of_pos_left g h1
  have e : Nat.gcd m g * Nat.gcd (m / Nat.gcd m g) (g / Nat.gcd m g) = Nat.gcd m g := by
    rw [← Nat.gcd_mul_left, Nat.mul_div_cancel' (Nat.gcd_dvd_left m g), Nat.mul_div_cancel' (Nat.gcd_dvd_right m g)]
  exact Nat.eq_of_mul_eq_mul_left h0 (by rw [e, Nat.mul_one])
theorem Kn_yes {g r m s z : Nat} (h1 : 1 ≤ m) (hm : m ≤ 2097152) (hs : s < m) (hg0 : 0 < g) (hg : g ≤ 1000000000000) (hr : r < g) (hd : (((s : Int) - r) % m).toNat % Nat.gcd m g = 0)
    (hz : ∃ u : Int, (z : Int) * (g / Nat.gcd m g : Nat) = 1 + (m / Nat.gcd m g : Nat) * u) :
    Kn g r m s (g * (m / Nat.gcd m g)) (r + g * (z * ((((s : Int) - r) % m).toNat / Nat.gcd m g) % (m / Nat.gcd m g))) := by
  have eg := Nat.mul_div_cancel' (Nat.gcd_dvd_right m g)
  have em := Nat.mul_div_cancel' (Nat.gcd_dvd_left m g)
  have h0 : 0 < Nat.gcd m g := Nat.gcd_pos_of_pos_left g h1
  have e0 : 0 ≤ ((s : Int) - r) % m := Int.emod_nonneg _ (by omega)
  have e3 := Int.mul_ediv_add_emod ((s : Int) - r) m
  have e5 := Nat.div_add_mod (((s : Int) - r) % m).toNat (Nat.gcd m g)
  rw [hd, Nat.add_zero] at e5
  have hm1 : 0 < m / Nat.gcd m g := Nat.div_pos (Nat.le_of_dvd h1 (Nat.gcd_dvd_left m g)) h0
  have hm2 : m / Nat.gcd m g ≤ 2097152 := Nat.le_trans (Nat.div_le_self _ _) hm
  have hk := Nat.mod_lt (z * ((((s : Int) - r) % m).toNat / Nat.gcd m g)) hm1
  have ht : ∃ u : Int, (s : Int) - r = (Nat.gcd m g : Nat) * (((((s : Int) - r) % m).toNat / Nat.gcd m g : Nat) + (m / Nat.gcd m g : Nat) * u) := by
    refine ⟨((s : Int) - r) / m, ?_⟩
    have em' : (m : Int) = (Nat.gcd m g : Nat) * (m / Nat.gcd m g : Nat) := by exact_mod_cast em.symm
    have e6 : (((Nat.gcd m g) * ((((s : Int) - r) % m).toNat / Nat.gcd m g) : Nat) : Int) = ((s : Int) - r) % m := by rw [e5, Int.toNat_of_nonneg e0]
    rw [Int.natCast_mul] at e6
    rw [Int.mul_add, e6, ← Int.mul_assoc, ← em']
    omega
  have hu := crt_k (t := (((s : Int) - r) % m).toNat / Nat.gcd m g) (z := z) eg.symm em.symm ht hz
  have hc := crt_yes eg.symm em.symm h0 hr hs hk hu (by obtain ⟨u, hu⟩ := hz; exact ⟨z, u, hu⟩)
  generalize z * ((((s : Int) - r) % m).toNat / Nat.gcd m g) % (m / Nat.gcd m g) = k at hk hc ⊢
  generalize m / Nat.gcd m g = m2 at hm1 hm2 hk hc ⊢
  refine ⟨?_, Or.inr ?_, fun v v1 v2 => ?_⟩
  · have : g * m2 ≤ 1000000000000 * 2097152 := Nat.mul_le_mul hg hm2
    omega
  · have : g * (k + 1) ≤ g * m2 := Nat.mul_le_mul_left g hk
    rw [Nat.mul_add, Nat.mul_one] at this
    omega
  · have hp := Nat.mul_pos hg0 hm1
    exact ⟨fun q => ⟨by omega, (hc v).mpr q.2⟩, fun q => ⟨by omega, (hc v).mp q.2⟩⟩
