/-! ===== telling numbers apart ===== -/
def ou (X C : Nat) : Nat := X ^^^ (X &&& C)
theorem ou_bit (X C i : Nat) : (ou X C).testBit i = (X.testBit i && !C.testBit i) := by
  unfold ou
  rw [Nat.testBit_xor, Nat.testBit_and]
  cases X.testBit i <;> cases C.testBit i <;> rfl
theorem in_lt {X : Nat} (C : Nat) {k : Nat} (h : X < 2 ^ k) : X &&& C < 2 ^ k := Nat.lt_of_le_of_lt Nat.and_le_left h
theorem ou_lt {X : Nat} (C : Nat) {k : Nat} (h : X < 2 ^ k) : ou X C < 2 ^ k := Nat.xor_lt_two_pow h (in_lt C h)
theorem ou_z {X C : Nat} : ou X C = 0 ↔ X &&& C = X := by
  constructor
  · intro h
    rw [land_eq]
    intro i hi
    have e := ou_bit X C i
    rw [h, Nat.zero_testBit, hi] at e
    cases q : C.testBit i
    · rw [q] at e; cases e
    · rfl
  · intro h
    unfold ou
    rw [h, Nat.xor_self]
theorem ou_in (X C : Nat) : ou X (X &&& C) = ou X C := by
  unfold ou
  rw [← Nat.and_assoc, Nat.and_self]
theorem m1_bit : ∀ i, i < 64 → (-1 : Int64).toBitVec.getLsbD i = true := by decide
theorem ou_L {X C : Nat} : lN X &&& (lN C ^^^ -1) = lN (ou X C) := by
  apply wb_inj
  rw [Int64.toBitVec_and, Int64.toBitVec_xor, wb_tb, wb_tb, wb_tb]
  refine BitVec.eq_of_getLsbD_eq (fun i hi => ?_)
  rw [BitVec.getLsbD_and, BitVec.getLsbD_xor, m1_bit i hi, BitVec.getLsbD_ofNat, BitVec.getLsbD_ofNat, BitVec.getLsbD_ofNat, ou_bit, decide_eq_true hi]
  cases X.testBit i <;> cases C.testBit i <;> rfl
theorem pcF_add : ∀ (k X A B : Nat), (∀ i, X.testBit i = (A.testBit i || B.testBit i)) → (∀ i, ¬ (A.testBit i = true ∧ B.testBit i = true)) → pcF k X = pcF k A + pcF k B := by
  intro k
  induction k with
  | zero => intro X A B _ _; rfl
  | succ k ih =>
    intro X A B h g
    have e := ih (X / 2) (A / 2) (B / 2) (fun i => by have := h (i + 1); rw [Nat.testBit_succ, Nat.testBit_succ, Nat.testBit_succ] at this; exact this) (fun i w => g (i + 1) (by rw [Nat.testBit_succ, Nat.testBit_succ]; exact w))
    have h0 := h 0
    have g0 := g 0
    rw [Nat.testBit_zero, Nat.testBit_zero, Nat.testBit_zero] at h0
    rw [Nat.testBit_zero, Nat.testBit_zero, decide_eq_true_iff, decide_eq_true_iff] at g0
    have hm : X % 2 = A % 2 + B % 2 := by
      by_cases a : A % 2 = 1
      · rw [decide_eq_true a, Bool.true_or, decide_eq_true_iff] at h0
        omega
      · rw [decide_eq_false a, Bool.false_or] at h0
        by_cases b : B % 2 = 1
        · rw [decide_eq_true b, decide_eq_true_iff] at h0
          omega
        · rw [decide_eq_false b, decide_eq_false_iff_not] at h0
          omega
    unfold pcF
    rw [e, hm]
    omega
theorem pc_ou (X C : Nat) : pc X = pc (X &&& C) + pc (ou X C) := by
  refine pcF_add 64 X _ _ (fun i => ?_) (fun i w => ?_)
  · rw [ou_bit, Nat.testBit_and]
    cases X.testBit i <;> cases C.testBit i <;> rfl
  · rw [ou_bit, Nat.testBit_and] at w
    revert w
    cases X.testBit i <;> cases C.testBit i <;> decide
theorem pc_pos {X : Nat} (h : X < 2 ^ 60) (h0 : X ≠ 0) : 0 < pc X := pcF_pos 64 X (by omega) (Nat.lt_trans h (by decide))
theorem few_k {x : Nat} (h : x < 2 ^ 63) : (x &&& (x - 1) = 0) ↔ pc x < 2 := by
  rcases Nat.eq_zero_or_pos x with z | p
  · subst z
    exact ⟨fun _ => by rw [pc_z]; decide, fun _ => rfl⟩
  · have k := kern 64 x p (Nat.lt_trans h (by decide))
    have e : pc (x &&& (x - 1)) + 1 = pc x := k.2
    constructor
    · intro w
      rw [w, pc_z] at e
      omega
    · intro w
      rcases Nat.eq_zero_or_pos (x &&& (x - 1)) with z | q
      · exact z
      · have := pcF_pos 64 _ q (Nat.lt_trans k.1 (Nat.lt_trans h (by decide)))
        have : 0 < pc (x &&& (x - 1)) := this
        omega
theorem pc_2 {X : Nat} (h : X < 2 ^ 60) : pc (2 * X) = pc X := by
  have e : pcF 64 (2 * X) = (2 * X) % 2 + pcF 63 (2 * X / 2) := rfl
  have e2 : pcF 64 X = pcF 63 X := pcF_big 63 X (Nat.lt_trans h (by decide))
  unfold pc
  rw [e, e2, Nat.mul_div_cancel_left X (by decide), Nat.mul_mod_right, Nat.zero_add]
theorem two_bit (X i : Nat) : (2 * X).testBit (i + 1) = X.testBit i := by rw [Nat.testBit_succ, Nat.mul_div_cancel_left X (by decide)]
theorem two_b0 (X : Nat) : (2 * X).testBit 0 = false := by rw [Nat.testBit_zero, Nat.mul_mod_right]; rfl
theorem in_2 (X C : Nat) : (2 * X) &&& (2 * C) = 2 * (X &&& C) := by
  apply Nat.eq_of_testBit_eq
  intro i
  cases i with
  | zero => rw [Nat.testBit_and, two_b0, two_b0, two_b0]; rfl
  | succ i => rw [Nat.testBit_and, two_bit, two_bit, two_bit, Nat.testBit_and]
theorem ou_2 (X C : Nat) : ou (2 * X) (2 * C) = 2 * ou X C := by
  apply Nat.eq_of_testBit_eq
  intro i
  cases i with
  | zero => rw [ou_bit, two_b0, two_b0, two_b0]; rfl
  | succ i => rw [ou_bit, two_bit, two_bit, two_bit, ou_bit]
/-! in h hauls -/
def anF (p : Nat → Bool) : Nat → Nat → Bool
  | _, 0 => false
  | i, j + 1 => p i || anF p (i + 1) j
theorem anF_iff (p : Nat → Bool) : ∀ j i, anF p i j = true ↔ ∃ k, i ≤ k ∧ k < i + j ∧ p k = true := by
  intro j
  induction j with
  | zero => intro i; exact ⟨fun h => (by cases h), fun ⟨k, h1, h2, _⟩ => (by omega)⟩
  | succ j ih =>
    intro i
    rw [anF, Bool.or_eq_true, ih]
    constructor
    · rintro (h | ⟨k, h1, h2, h3⟩)
      · exact ⟨i, Nat.le_refl _, by omega, h⟩
      · exact ⟨k, by omega, by omega, h3⟩
    · rintro ⟨k, h1, h2, h3⟩
      by_cases q : k = i
      · subst q; exact Or.inl h3
      · exact Or.inr ⟨k, by omega, by omega, h3⟩
def spl (C : Nat → Nat) (X k : Nat) : Bool := decide (¬ X &&& C k = 0) && decide (¬ ou X (C k) = 0)
theorem spl_iff {C : Nat → Nat} {X k : Nat} : spl C X k = true ↔ ¬ X &&& C k = 0 ∧ ¬ ou X (C k) = 0 := by
  unfold spl
  rw [Bool.and_eq_true, decide_eq_true_iff, decide_eq_true_iff]
def tT (C : Nat → Nat) (N : Nat) : Nat → Nat → Bool
  | 0, X => decide (pc X < 2)
  | h + 1, X => decide (pc X < 2) || anF (fun k => spl C X k && (tT C N h (X &&& C k) && tT C N h (ou X (C k)))) 0 N
section
variable {C : Nat → Nat} {N : Nat}
theorem tT_s {h X : Nat} : tT C N (h + 1) X = true ↔ pc X < 2 ∨ ∃ k, k < N ∧ (¬ X &&& C k = 0 ∧ ¬ ou X (C k) = 0) ∧ tT C N h (X &&& C k) = true ∧ tT C N h (ou X (C k)) = true := by
  rw [tT, Bool.or_eq_true, decide_eq_true_iff, anF_iff]
  constructor
  · rintro (w | ⟨k, _, k2, k3⟩)
    · exact Or.inl w
    · rw [Bool.and_eq_true, Bool.and_eq_true, spl_iff] at k3
      exact Or.inr ⟨k, by omega, k3⟩
  · rintro (w | ⟨k, k2, k3⟩)
    · exact Or.inl w
    · refine Or.inr ⟨k, Nat.zero_le _, by omega, ?_⟩
      rw [Bool.and_eq_true, Bool.and_eq_true, spl_iff]
      exact k3
theorem tT_few {h X : Nat} (w : pc X < 2) : tT C N h X = true := by
  cases h with
  | zero => exact decide_eq_true w
  | succ h => exact tT_s.mpr (Or.inl w)
theorem tT_pc : ∀ (h X : Nat), tT C N h X = true → pc X ≤ 2 ^ h := by
  intro h
  induction h with
  | zero =>
    intro X w
    have : pc X < 2 := of_decide_eq_true w
    rw [Nat.pow_zero]
    omega
  | succ h ih =>
    intro X w
    have h0 : 0 < 2 ^ h := Nat.pow_pos (by decide)
    rw [Nat.pow_succ]
    rcases tT_s.mp w with a | ⟨k, _, _, b, c⟩
    · omega
    · have := ih _ b
      have := ih _ c
      have := pc_ou X (C k)
      omega
theorem tT_mono : ∀ (h X : Nat), tT C N h X = true → tT C N (h + 1) X = true := by
  intro h
  induction h with
  | zero => intro X w; exact tT_few (of_decide_eq_true w)
  | succ h ih =>
    intro X w
    rcases tT_s.mp w with a | ⟨k, k1, k2, b, c⟩
    · exact tT_few a
    · exact tT_s.mpr (Or.inr ⟨k, k1, k2, ih _ b, ih _ c⟩)
def mnF (g : Nat → Nat) : Nat → Nat → Nat → Nat
  | _, 0, a => a
  | i, j + 1, a => mnF g (i + 1) j (min a (g i))
theorem mnF_le (g : Nat → Nat) (h : Nat) : ∀ (j i a : Nat), mnF g i j a ≤ h ↔ a ≤ h ∨ ∃ k, i ≤ k ∧ k < i + j ∧ g k ≤ h := by
  intro j
  induction j with
  | zero => intro i a; exact ⟨Or.inl, fun w => w.elim id (fun ⟨k, h1, h2, _⟩ => by omega)⟩
  | succ j ih =>
    intro i a
    rw [mnF, ih]
    constructor
    · rintro (w | ⟨k, h1, h2, h3⟩)
      · by_cases q : a ≤ h
        · exact Or.inl q
        · exact Or.inr ⟨i, Nat.le_refl _, by omega, by omega⟩
      · exact Or.inr ⟨k, by omega, by omega, h3⟩
    · rintro (w | ⟨k, h1, h2, h3⟩)
      · exact Or.inl (by omega)
      · by_cases q : k = i
        · subst q; exact Or.inl (by omega)
        · exact Or.inr ⟨k, by omega, by omega, h3⟩
def hb (f : Nat → Nat) (C : Nat → Nat) (X k : Nat) : Nat := if X &&& C k = 0 then 99 else if ou X (C k) = 0 then 99 else min 99 (max (f (X &&& C k)) (f (ou X (C k))) + 1)
theorem hb_99 (f : Nat → Nat) (C : Nat → Nat) (X k : Nat) : hb f C X k ≤ 99 := by
  unfold hb
  split
  · omega
  · split <;> omega
theorem hb_le {f : Nat → Nat} {X k h : Nat} (hh : h < 99) : hb f C X k ≤ h ↔ (¬ X &&& C k = 0 ∧ ¬ ou X (C k) = 0) ∧ f (X &&& C k) + 1 ≤ h ∧ f (ou X (C k)) + 1 ≤ h := by
  unfold hb
  by_cases a : X &&& C k = 0
  · rw [if_pos a]
    exact ⟨fun w => by omega, fun w => absurd a w.1.1⟩
  · rw [if_neg a]
    by_cases b : ou X (C k) = 0
    · rw [if_pos b]
      exact ⟨fun w => by omega, fun w => absurd b w.1.2⟩
    · rw [if_neg b]
      exact ⟨fun w => ⟨⟨a, b⟩, by omega, by omega⟩, fun w => by omega⟩
def fF (C : Nat → Nat) (N : Nat) : Nat → Nat → Nat
  | 0, X => if pc X < 2 then 0 else 99
  | d + 1, X => if pc X < 2 then 0 else mnF (hb (fF C N d) C X) 0 N 99
theorem fF_few {d X : Nat} (w : pc X < 2) : fF C N d X = 0 := by
  cases d with
  | zero => exact if_pos w
  | succ d => exact if_pos w
theorem fF_s {d X : Nat} (w : ¬ pc X < 2) : fF C N (d + 1) X = mnF (hb (fF C N d) C X) 0 N 99 := if_neg w
theorem fF_le : ∀ (d h X : Nat), d ≤ 90 → h ≤ d → (fF C N d X ≤ h ↔ tT C N h X = true) := by
  intro d
  induction d with
  | zero =>
    intro h X _ hd
    have : h = 0 := by omega
    subst this
    by_cases w : pc X < 2
    · rw [fF_few w]
      exact ⟨fun _ => tT_few w, fun _ => Nat.le_refl _⟩
    · constructor
      · intro u
        rw [fF, if_neg w] at u
        omega
      · intro u
        exact absurd (of_decide_eq_true u) w
  | succ d ih =>
    intro h X hd hh
    by_cases w : pc X < 2
    · rw [fF_few w]
      exact ⟨fun _ => tT_few w, fun _ => Nat.zero_le _⟩
    · rw [fF_s w, mnF_le]
      cases h with
      | zero =>
        constructor
        · rintro (u | ⟨k, _, _, u⟩)
          · omega
          · have := (hb_le (by decide)).mp u
            omega
        · intro u
          exact absurd (of_decide_eq_true u) w
      | succ h =>
        rw [tT_s]
        constructor
        · rintro (u | ⟨k, _, k2, u⟩)
          · omega
          · obtain ⟨u1, u2, u3⟩ := (hb_le (by omega)).mp u
            exact Or.inr ⟨k, by omega, u1, (ih h _ (by omega) (by omega)).mp (by omega), (ih h _ (by omega) (by omega)).mp (by omega)⟩
        · rintro (u | ⟨k, k2, u1, u2, u3⟩)
          · exact absurd u w
          · refine Or.inr ⟨k, Nat.zero_le _, by omega, (hb_le (by omega)).mpr ⟨u1, ?_, ?_⟩⟩
            · have := (ih h _ (by omega) (by omega)).mpr u2; omega
            · have := (ih h _ (by omega) (by omega)).mpr u3; omega
theorem fF_99 (d X : Nat) : fF C N d X ≤ 99 := by
  by_cases w : pc X < 2
  · rw [fF_few w]; omega
  · cases d with
    | zero => rw [fF, if_neg w]; omega
    | succ d => rw [fF_s w, mnF_le]; exact Or.inl (Nat.le_refl _)
theorem fF_bd : ∀ (d X : Nat), d ≤ 90 → fF C N d X < 99 → fF C N d X ≤ d := by
  intro d
  induction d with
  | zero =>
    intro X _ h
    by_cases w : pc X < 2
    · rw [fF_few w]; omega
    · rw [fF, if_neg w] at h; omega
  | succ d ih =>
    intro X hd h
    by_cases w : pc X < 2
    · rw [fF_few w]; omega
    · rw [fF_s w] at h ⊢
      have e := (mnF_le (hb (fF C N d) C X) _ N 0 99).mp (Nat.le_refl _)
      rcases e with u | ⟨k, _, k2, u⟩
      · omega
      · obtain ⟨u1, u2, u3⟩ := (hb_le (by omega)).mp u
        have a := ih (X &&& C k) (by omega) (by omega)
        have b := ih (ou X (C k)) (by omega) (by omega)
        rw [mnF_le]
        exact Or.inr ⟨k, Nat.zero_le _, by omega, (hb_le (by omega)).mpr ⟨u1, by omega, by omega⟩⟩
/-! numbers that differ -/
theorem pcF_2 : ∀ (k X : Nat), 2 ≤ pcF k X → ∃ a b, ¬ a = b ∧ X.testBit a = true ∧ X.testBit b = true := by
  intro k
  induction k with
  | zero => intro X h; exact absurd h (by show ¬ 2 ≤ 0; omega)
  | succ k ih =>
    intro X h
    have h : 2 ≤ X % 2 + pcF k (X / 2) := h
    by_cases q : 2 ≤ pcF k (X / 2)
    · obtain ⟨a, b, w, h1, h2⟩ := ih _ q
      exact ⟨a + 1, b + 1, by omega, by rw [Nat.testBit_succ]; exact h1, by rw [Nat.testBit_succ]; exact h2⟩
    · have hx : X % 2 = 1 := by omega
      have hy : X / 2 ≠ 0 := by
        intro z
        rw [z, pcF_z] at h
        omega
      obtain ⟨b, hb⟩ := Nat.exists_testBit_of_ne_zero hy
      exact ⟨0, b + 1, by omega, by rw [Nat.testBit_zero, hx]; rfl, by rw [Nat.testBit_succ]; exact hb⟩
theorem tT_dis : ∀ (j X : Nat), j ≤ N → (∀ a b, X.testBit a = true → X.testBit b = true → ¬ a = b → ∃ k, N - j ≤ k ∧ k < N ∧ ¬ (C k).testBit a = (C k).testBit b) → tT C N j X = true := by
  intro j
  induction j with
  | zero =>
    intro X _ h
    by_cases w : pc X < 2
    · exact tT_few w
    · obtain ⟨a, b, q, h1, h2⟩ := pcF_2 64 X (Nat.not_lt.mp w)
      obtain ⟨k, k1, k2, _⟩ := h a b h1 h2 q
      omega
  | succ j ih =>
    intro X hj h
    by_cases w : pc X < 2
    · exact tT_few w
    · by_cases s : ¬ X &&& C (N - (j + 1)) = 0 ∧ ¬ ou X (C (N - (j + 1))) = 0
      · refine tT_s.mpr (Or.inr ⟨N - (j + 1), by omega, s, ih _ (by omega) (fun a b h1 h2 q => ?_), ih _ (by omega) (fun a b h1 h2 q => ?_)⟩)
        · rw [Nat.testBit_and, Bool.and_eq_true] at h1 h2
          obtain ⟨k, k1, k2, k3⟩ := h a b h1.1 h2.1 q
          by_cases e : k = N - (j + 1)
          · rw [e, h1.2, h2.2] at k3
            exact absurd rfl k3
          · exact ⟨k, by omega, k2, k3⟩
        · rw [ou_bit, Bool.and_eq_true, Bool.not_eq_true'] at h1 h2
          obtain ⟨k, k1, k2, k3⟩ := h a b h1.1 h2.1 q
          by_cases e : k = N - (j + 1)
          · rw [e, h1.2, h2.2] at k3
            exact absurd rfl k3
          · exact ⟨k, by omega, k2, k3⟩
      · refine tT_mono _ _ (ih X (by omega) (fun a b h1 h2 q => ?_))
        obtain ⟨k, k1, k2, k3⟩ := h a b h1 h2 q
        by_cases e : k = N - (j + 1)
        · exfalso
          rw [← e] at s
          by_cases s1 : X &&& C k = 0
          · have f : ∀ x, X.testBit x = true → (C k).testBit x = false := fun x hx => by
              have : (X &&& C k).testBit x = false := by rw [s1, Nat.zero_testBit]
              rw [Nat.testBit_and, hx, Bool.true_and] at this
              exact this
            exact k3 (by rw [f a h1, f b h2])
          · have s2 : ou X (C k) = 0 := Classical.byContradiction fun z => s ⟨s1, z⟩
            have f : ∀ x, X.testBit x = true → (C k).testBit x = true := fun x hx => by
              have : (ou X (C k)).testBit x = false := by rw [s2, Nat.zero_testBit]
              rw [ou_bit, hx, Bool.true_and, Bool.not_eq_false'] at this
              exact this
            exact k3 (by rw [f a h1, f b h2])
        · exact ⟨k, by omega, k2, k3⟩
theorem tT_same {a b : Nat} (q : ¬ a = b) (hC : ∀ k, k < N → (C k).testBit a = (C k).testBit b) : ∀ (h X : Nat), X < 2 ^ 60 → X.testBit a = true → X.testBit b = true → ¬ tT C N h X = true := by
  have two : ∀ X, X < 2 ^ 60 → X.testBit a = true → X.testBit b = true → ¬ pc X < 2 := by
    intro X hX h1 h2 w
    have e := pc_ou X (2 ^ a)
    have p1 : 0 < pc (X &&& 2 ^ a) := pc_pos (in_lt _ hX) (fun z => by
      have : (X &&& 2 ^ a).testBit a = false := by rw [z, Nat.zero_testBit]
      rw [Nat.testBit_and, h1, Nat.testBit_two_pow_self] at this
      cases this)
    have p2 : 0 < pc (ou X (2 ^ a)) := pc_pos (ou_lt _ hX) (fun z => by
      have : (ou X (2 ^ a)).testBit b = false := by rw [z, Nat.zero_testBit]
      rw [ou_bit, h2, Nat.testBit_two_pow, decide_eq_false q] at this
      cases this)
    omega
  intro h
  induction h with
  | zero => intro X hX h1 h2 w; exact two X hX h1 h2 (of_decide_eq_true w)
  | succ h ih =>
    intro X hX h1 h2 w
    rcases tT_s.mp w with u | ⟨k, k1, _, u, v⟩
    · exact two X hX h1 h2 u
    · have e := hC k k1
      cases c : (C k).testBit a
      · rw [c] at e
        exact ih _ (ou_lt _ hX) (by rw [ou_bit, h1, c]; rfl) (by rw [ou_bit, h2, ← e]; rfl) v
      · rw [c] at e
        exact ih _ (in_lt _ hX) (by rw [Nat.testBit_and, h1, c]; rfl) (by rw [Nat.testBit_and, h2, ← e]; rfl) u
end
