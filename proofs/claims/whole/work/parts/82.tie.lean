theorem tie7 {Z : Zt} (hz : ZOk Z) : ∀ (j n i : Nat) (S : Sto), i + j = zN Z → j < n → gi S 22 = nI (zN Z) → gi S 25 = nI (2 ^ i) → NC Z S → TI Z (2 ^ i) S → ∃ T, F_Sh_tie_7 n (nI i) S = some ((), T) ∧ Fr [25] [] [] [22, 23, 24, 25] [] S T ∧ gi T 25 = nI (2 ^ zN Z) ∧ TI Z (2 ^ zN Z) T := by
  have h8 := hz.1
  intro j
  induction j with
  | zero =>
    intro n i S hi hn h22 h25 hN hI
    obtain ⟨n, rfl⟩ : ∃ q, n = q + 1 := ⟨n - 1, by omega⟩
    have : i = zN Z := by omega
    subst this
    refine ⟨S, ?_, Fr.rfl, h25, hI⟩
    rw [F_Sh_tie_7, h22, if_pos (nI_le (Nat.le_refl _) (by omega))]
  | succ j ih =>
    intro n i S hi hn h22 h25 hN hI
    obtain ⟨n, rfl⟩ : ∃ q, n = q + 1 := ⟨n - 1, by omega⟩
    obtain ⟨T, t1, t2, t3⟩ := tie28 hz (show i < zN Z by omega) (F_Sh_tie_7 n) (2 ^ i) FU 0 S (Nat.zero_add _) (by
      have : 2 ^ i ≤ 128 := Nat.le_trans (Nat.pow_le_pow_right (by decide) (show i ≤ 7 by omega)) (by decide)
      rw [FU_v]; omega) h25 hN hI
    have e2 : (2 : Int32) * nI (2 ^ i) = nI (2 ^ (i + 1)) := by
      rw [show (2 : Int32) = nI 2 from rfl, nI_z, nI_z, mul_zI, Nat.pow_succ, nI_z, Nat.mul_comm (2 ^ i) 2, Int.natCast_mul]
    have f1 : Fr [25] [] [] [22, 23, 24, 25] [] S (si T 25 (2 * nI (2 ^ i))) := (t2.mono (by decide) (fun _ q => q) (fun _ q => q) (fun _ q => q) (fun _ q => q)).si (by decide)
    have nT : NC Z T := hN.fr t2
    obtain ⟨U, u1, u2, u3, u4⟩ := ih n (i + 1) (si T 25 (2 * nI (2 ^ i))) (by omega) (by omega) ((f1.gi 22 (by decide)).trans h22) e2 nT (by
      rw [Nat.pow_succ, Nat.mul_two]
      exact t3)
    refine ⟨U, ?_, f1.trans u2, u3, u4⟩
    rw [F_Sh_tie_7, h22, if_neg (nI_ge (by omega) (by omega)), show (8 : Int32) = nI 8 from rfl, if_neg (nI_ge (by omega) (by decide)), sh1 (by omega)]
    exact t1.trans u1
