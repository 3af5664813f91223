/-! ===== a set more ===== -/
theorem tb_add {x i j : Nat} (hx : x < 2 ^ i) : (x + 2 ^ i).testBit j = (decide (j = i) || x.testBit j) := by
  rw [Nat.add_comm]
  by_cases q : j = i
  · subst q
    rw [Nat.testBit_two_pow_add_eq, Nat.testBit_lt_two_pow hx, decide_eq_true rfl]
    rfl
  · rw [decide_eq_false q, Bool.false_or]
    by_cases w : j < i
    · rw [Nat.testBit_two_pow_add_gt w]
    · have h1 : i + 1 ≤ j := by omega
      have h2 : 2 ^ (i + 1) ≤ 2 ^ j := Nat.pow_le_pow_right (by decide) h1
      rw [Nat.pow_succ] at h2
      rw [Nat.testBit_lt_two_pow (by omega), Nat.testBit_lt_two_pow (by omega)]
theorem sh_step {Z : Zt} {x i g r f t g' r' f' t' : Nat} (hi : i < zN Z) (hx : x < 2 ^ i) (h : shOk Z x g r f t) (hK : Kn g r (zM Z i) (zR Z i) g' r') (hF : 1 ≤ f' ∧ f' ≤ 1000000000000) (hT : t' ≤ 1000000000000) (ef : ∀ v, f' ≤ v ↔ f ≤ v ∧ zF Z i ≤ v) (et : ∀ v, v ≤ t' ↔ v ≤ t ∧ v ≤ zT Z i) : shOk Z (x + 2 ^ i) g' r' f' t' := by
  obtain ⟨a1, a2, a3, a4, a5⟩ := h
  obtain ⟨k1, k2, k3⟩ := hK
  refine ⟨hF, hT, k1, k2, fun v v1 v2 => ?_⟩
  have b1 := a5 v v1 v2
  have b2 := k3 v v1 v2
  have e1 : (∀ j, j < zN Z → (x + 2 ^ i).testBit j = true → catB Z j v = true) ↔ (∀ j, j < zN Z → x.testBit j = true → catB Z j v = true) ∧ catB Z i v = true := by
    constructor
    · intro h
      exact ⟨fun j j1 j2 => h j j1 (by rw [tb_add hx, j2, Bool.or_true]), h i hi (by rw [tb_add hx, decide_eq_true rfl]; rfl)⟩
    · rintro ⟨h1, h2⟩ j j1 j2
      rw [tb_add hx] at j2
      by_cases q : j = i
      · rw [q]; exact h2
      · rw [decide_eq_false q, Bool.false_or] at j2
        exact h1 j j1 j2
  have e2 : catB Z i v = true ↔ zF Z i ≤ v ∧ v ≤ zT Z i ∧ v % zM Z i = zR Z i := by
    unfold catB
    rw [Bool.and_eq_true, Bool.and_eq_true, decide_eq_true_iff, decide_eq_true_iff, decide_eq_true_iff]
  rw [e1, e2, b1, ef, et]
  constructor
  · rintro ⟨⟨c1, c2, c3, c4⟩, c5, c6, c7⟩
    have := b2.mp ⟨c3, c4, c7⟩
    exact ⟨⟨c1, c5⟩, ⟨c2, c6⟩, this.1, this.2⟩
  · rintro ⟨⟨c1, c5⟩, ⟨c2, c6⟩, c8, c9⟩
    have := b2.mpr ⟨c8, c9⟩
    exact ⟨⟨c1, c2, this.1, this.2.1⟩, c5, c6, this.2.2⟩
