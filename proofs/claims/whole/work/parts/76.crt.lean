/-! ===== two remainders at once ===== -/
theorem mod_of {v w : Nat} {n : Nat} {q : Int} (h : (v : Int) = w + n * q) (hw : w < n) : v % n = w := by
  have h1 : ((v % n : Nat) : Int) = w := by
    rw [Int.natCast_emod, h, Int.add_mul_emod_self_left]
    exact Int.emod_eq_of_lt (by omega) (by omega)
  exact_mod_cast h1
theorem mod_is (v n : Nat) : (v : Int) = (v % n : Nat) + n * (v / n : Nat) := by
  have := Nat.div_add_mod v n
  have h : ((n * (v / n) + v % n : Nat) : Int) = v := by rw [this]
  rw [Int.natCast_add, Int.natCast_mul] at h
  omega
theorem crt_yes {g m r s g0 g' m' k : Nat} (eg : g = g0 * g') (em : m = g0 * m') (h0 : 0 < g0) (hr : r < g) (hs : s < m) (hk : k < m') (hu : ∃ u : Int, (r : Int) + g * k = s + m * u) (hz : ∃ z u : Int, z * g' = 1 + m' * u) (v : Nat) : v % (g * m') = r + g * k ↔ v % g = r ∧ v % m = s := by
  obtain ⟨u, hu⟩ := hu
  obtain ⟨z, c, hz⟩ := hz
  have hw : r + g * k < g * m' := by
    have : g * (k + 1) ≤ g * m' := Nat.mul_le_mul_left g hk
    rw [Nat.mul_add, Nat.mul_one] at this
    omega
  have ew : (g : Int) * m' = m * g' := by
    rw [eg, em, Int.natCast_mul, Int.natCast_mul, Int.mul_assoc, Int.mul_assoc, Int.mul_comm (g' : Int)]
  constructor
  · intro h
    have hv := mod_is v (g * m')
    rw [h, Int.natCast_add, Int.natCast_mul, Int.natCast_mul] at hv
    generalize ((v / (g * m') : Nat) : Int) = q at hv
    refine ⟨mod_of (q := k + m' * q) ?_ hr, mod_of (q := u + g' * q) ?_ hs⟩
    · rw [hv, Int.mul_add, Int.mul_assoc]; omega
    · rw [hv, hu, ew, Int.mul_add, Int.mul_assoc]; omega
  · intro ⟨h1, h2⟩
    have a1 := mod_is v g
    have a2 := mod_is v m
    rw [h1] at a1
    rw [h2] at a2
    generalize ((v / g : Nat) : Int) = p at a1
    generalize ((v / m : Nat) : Int) = q at a2
    have e1 : (g : Int) * (p - k) = m * (q - u) := by rw [Int.mul_sub, Int.mul_sub]; omega
    have e2 : (g' : Int) * (p - k) = m' * (q - u) := by
      rw [eg, em, Int.natCast_mul, Int.natCast_mul, Int.mul_assoc, Int.mul_assoc] at e1
      exact Int.eq_of_mul_eq_mul_left (by omega) e1
    have e3 : p - k = m' * (z * (q - u) - c * (p - k)) := by
      have f1 : z * ((g' : Int) * (p - k)) = (1 + m' * c) * (p - k) := by rw [← Int.mul_assoc, hz]
      rw [e2, Int.add_mul, Int.one_mul, Int.mul_assoc] at f1
      have f2 : z * ((m' : Int) * (q - u)) = m' * (z * (q - u)) := by rw [← Int.mul_assoc, Int.mul_comm z, Int.mul_assoc]
      rw [Int.mul_sub]
      omega
    refine mod_of (q := z * (q - u) - c * (p - k)) ?_ hw
    rw [Int.natCast_add, Int.natCast_mul, Int.natCast_mul, Int.mul_assoc, ← e3, Int.mul_sub]
    omega
theorem crt_no {g m r s g0 g' m' : Nat} (eg : g = g0 * g') (em : m = g0 * m') (hn : ¬ ∃ u : Int, (s : Int) - r = g0 * u) (v : Nat) : ¬ (v % g = r ∧ v % m = s) := by
  intro ⟨h1, h2⟩
  have a1 := mod_is v g
  have a2 := mod_is v m
  rw [h1] at a1
  rw [h2] at a2
  generalize ((v / g : Nat) : Int) = p at a1
  generalize ((v / m : Nat) : Int) = q at a2
  refine hn ⟨g' * p - m' * q, ?_⟩
  rw [eg, Int.natCast_mul, Int.mul_assoc] at a1
  rw [em, Int.natCast_mul, Int.mul_assoc] at a2
  rw [Int.mul_sub]
  omega
/-- the times that both machines choose -/
theorem crt_k {g m r s g0 g' m' t z : Nat} (eg : g = g0 * g') (em : m = g0 * m') (ht : ∃ u : Int, (s : Int) - r = g0 * (t + m' * u)) (hz : ∃ u : Int, (z : Int) * g' = 1 + m' * u) : ∃ u : Int, (r : Int) + g * (z * t % m' : Nat) = s + m * u := by
  obtain ⟨u, hu⟩ := ht
  obtain ⟨c, hc⟩ := hz
  have e := mod_is (z * t) m'
  rw [Int.natCast_mul] at e
  generalize ((z * t % m' : Nat) : Int) = K at e ⊢
  generalize ((z * t / m' : Nat) : Int) = q at e
  have e1 : K = z * t - m' * q := by omega
  have e2 : (g' : Int) * (z * t) = t + m' * (c * t) := by
    have : (g' : Int) * (z * t) = (z * g') * t := by rw [← Int.mul_assoc, Int.mul_comm (g' : Int)]
    rw [this, hc, Int.add_mul, Int.one_mul, Int.mul_assoc]
  have e3 : (g' : Int) * (m' * q) = m' * (g' * q) := by rw [← Int.mul_assoc, Int.mul_comm (g' : Int), Int.mul_assoc]
  refine ⟨c * t - g' * q - u, ?_⟩
  have e4 : (g : Int) * K = g0 * (t + m' * (c * t) - m' * (g' * q)) := by
    rw [eg, Int.natCast_mul, Int.mul_assoc, e1, Int.mul_sub, e2, e3]
  rw [e4, em, Int.natCast_mul, Int.mul_assoc]
  have e5 : (s : Int) = r + g0 * (t + m' * u) := by omega
  have e6 : (m' : Int) * (c * t - g' * q - u) = m' * (c * t) - m' * (g' * q) - m' * u := by rw [Int.mul_sub, Int.mul_sub]
  rw [e5, e6, Int.mul_sub, Int.mul_sub, Int.mul_sub, Int.mul_add, Int.mul_add]
  omega
/-- past the numbers of the document one number is left at most -/
theorem crt_big {g m r s v : Nat} (hv : v ≤ 1000000000000) (hg : 1000000000000 < g) : (v % g = r ∧ v % m = s) ↔ (v % g = r ∧ r % m = s) := by
  rw [Nat.mod_eq_of_lt (by omega : v < g)]
  constructor
  · rintro ⟨h1, h2⟩
    exact ⟨h1, by rw [← h1]; exact h2⟩
  · rintro ⟨h1, h2⟩
    exact ⟨h1, by rw [h1]; exact h2⟩
