/-! ===== knots of the class ===== -/
theorem remZ {x : Int} {m : Nat} (h : -9223372036854775808 ≤ x) (h2 : x < 9223372036854775808) (h0 : 0 < m) (hm : m < 9223372036854775808) : F_w_remainder (zL x) (lN m) = some (zL (x.tmod m)) := by
  unfold F_w_remainder
  rw [(show (0 : Int64) = lN 0 from rfl), if_neg (by rw [le_lN hm (by decide)]; omega), ck_t (nzL_lN h0 hm), lN_z m, rem_zL h h2 (by omega) (by omega)]
theorem remD {α : Type} {m s r : Nat} {f : Int64 → Option α} (h1 : 1 ≤ m) (hm : m ≤ 2097152) (hs : s < m) (hr : r ≤ 2097152000000000000) : b1 (F_w_remainder (lN s - lN r) (lN m)) (fun r7 => b1 (F_w_remainder (r7 + lN m) (lN m)) f) = f (lN (((s : Int) - r) % m).toNat) := by
  have b1' : -(m : Int) < ((s : Int) - r).tmod m ∧ ((s : Int) - r).tmod m < m := by
    refine ⟨?_, Int.tmod_lt_of_pos _ (by omega)⟩
    have := Int.tmod_lt_of_pos (-((s : Int) - r)) (show (0 : Int) < m by omega)
    rw [Int.neg_tmod] at this
    omega
  have b2 : ((s : Int) - r).tmod m = ((s : Int) - r) - m * (((s : Int) - r).tdiv m) := Int.tmod_def _ _
  rw [lN_z s, lN_z r, sub_zL, remZ (by omega) (by omega) h1 (by omega), b1_s]
  have e1 : zL (((s : Int) - r).tmod m) + lN m = zL (((s : Int) - r).tmod m + m) := by rw [lN_z m, add_zL]
  rw [e1, remZ (by omega) (by omega) h1 (by omega), b1_s, Int.tmod_eq_emod_of_nonneg (by omega), b2]
  have e2 : (s : Int) - r - m * ((s : Int) - r).tdiv m + m = ((s : Int) - r) + m * (1 - ((s : Int) - r).tdiv m) := by rw [Int.mul_sub, Int.mul_one]; omega
  rw [e2, Int.add_mul_emod_self_left, zL_n (Int.emod_nonneg _ (by omega))]
theorem shas_y {S : Sto} {q h : Nat} (hh : gi S 25 = nI h) (hh2 : h ≤ 256) (hq : q < h) : F_Sh_has (nI q) S = some 1 := by
  unfold F_Sh_has
  rw [if_neg (nI_pos (by omega)), hh, if_neg (nI_ge (by omega) (by omega)), show (256 : Int32) = nI 256 from rfl, if_neg (nI_ge (by omega) (by decide))]
/-- what a knot leaves -/
def Kn (g r m s g' r' : Nat) : Prop := g' ≤ 2097152000000000000 ∧ (g' = 0 ∨ r' < g') ∧ ∀ v, 1 ≤ v → v ≤ 1000000000000 → ((g ≠ 0 ∧ v % g = r ∧ v % m = s) ↔ (g' ≠ 0 ∧ v % g' = r'))
/-- the part behind the guards, from the numbers alone -/
theorem Kn_0 {g r m s r' : Nat} (h : ∀ v, 1 ≤ v → v ≤ 1000000000000 → ¬ (g ≠ 0 ∧ v % g = r ∧ v % m = s)) : Kn g r m s 0 r' :=
  ⟨Nat.zero_le _, Or.inl rfl, fun v h1 h2 => ⟨fun q => absurd q (h v h1 h2), fun q => absurd rfl q.1⟩⟩
theorem emod0 {m : Nat} {x : Int} (h1 : 1 ≤ m) : (x % m).toNat = 0 ↔ ∃ u : Int, x = m * u := by
  have e0 : 0 ≤ x % m := Int.emod_nonneg _ (by omega)
  have e3 := Int.mul_ediv_add_emod x m
  constructor
  · intro h
    exact ⟨x / m, by omega⟩
  · rintro ⟨u, rfl⟩
    rw [Int.mul_emod_right]
    rfl
theorem Kn_b1 {g r m s : Nat} (h1 : 1 ≤ m) (hs : s < m) (hg : 1000000000000 < g) (hg2 : g ≤ 2097152000000000000) (hr : r < g) (hd : (((s : Int) - r) % m).toNat = 0) : Kn g r m s g r := by
  obtain ⟨u, hu⟩ := (emod0 h1).mp hd
  have e : r % m = s := mod_of (q := -u) (by rw [Int.mul_neg]; omega) hs
  refine ⟨hg2, Or.inr hr, fun v v1 v2 => ⟨fun q => ⟨q.1, q.2.1⟩, fun q => ⟨q.1, (crt_big v2 hg).mpr ⟨q.2, e⟩⟩⟩⟩
theorem Kn_b0 {g r m s r' : Nat} (h1 : 1 ≤ m) (hg : 1000000000000 < g) (hd : ¬ (((s : Int) - r) % m).toNat = 0) : Kn g r m s 0 r' := by
  refine Kn_0 (fun v v1 v2 q => hd ((emod0 h1).mpr ?_))
  have e := ((crt_big v2 hg).mp q.2).2
  have a := mod_is r m
  rw [e] at a
  generalize ((r / m : Nat) : Int) = k at a
  exact ⟨-k, by rw [Int.mul_neg]; omega⟩
theorem Kn_no {g r m s r' : Nat} (h1 : 1 ≤ m) (hd : ¬ (((s : Int) - r) % m).toNat % Nat.gcd m g = 0) : Kn g r m s 0 r' := by
  refine Kn_0 (fun v v1 v2 q => ?_)
  have eg := Nat.mul_div_cancel' (Nat.gcd_dvd_right m g)
  have em := Nat.mul_div_cancel' (Nat.gcd_dvd_left m g)
  have h0 : 0 < Nat.gcd m g := Nat.gcd_pos_of_pos_left g h1
  refine crt_no (g0 := Nat.gcd m g) eg.symm em.symm ?_ v q.2
  rintro ⟨u, hu⟩
  refine hd ?_
  have e0 : 0 ≤ ((s : Int) - r) % m := Int.emod_nonneg _ (by omega)
  have e3 := Int.mul_ediv_add_emod ((s : Int) - r) m
  generalize ((s : Int) - r) / m = k at e3
  have em' : (m : Int) = (Nat.gcd m g : Nat) * (m / Nat.gcd m g : Nat) := by exact_mod_cast em.symm
  generalize Nat.gcd m g = d at hu em' h0 ⊢
  generalize m / d = m2 at em'
  have e4 : ((((s : Int) - r) % m).toNat : Int) = d * (u - m2 * k) := by
    rw [Int.toNat_of_nonneg e0, Int.mul_sub, ← hu, ← Int.mul_assoc, ← em']
    omega
  have e5 : (((((s : Int) - r) % m).toNat % d : Nat) : Int) = 0 := by rw [Int.natCast_emod, e4, Int.mul_emod_right]
  exact_mod_cast e5
