/-! ===== how many numbers a set catches, and which ===== -/
def PB (Z : Zt) (s v : Nat) : Bool := decide (s &&& cbN Z v = s)
theorem land_eq {s c : Nat} : s &&& c = s ↔ ∀ i, s.testBit i = true → c.testBit i = true := by
  constructor
  · intro h i hi
    have h2 : (s &&& c).testBit i = true := by rw [h]; exact hi
    rw [Nat.testBit_and, Bool.and_eq_true] at h2
    exact h2.2
  · intro h
    apply Nat.eq_of_testBit_eq
    intro i
    rw [Nat.testBit_and]
    cases q : s.testBit i
    · rfl
    · rw [h i q]; rfl
theorem PB_iff {Z : Zt} {s v : Nat} (hs : s < 2 ^ zN Z) : PB Z s v = true ↔ ∀ i, i < zN Z → s.testBit i = true → catB Z i v = true := by
  unfold PB
  rw [decide_eq_true_iff, land_eq]
  unfold cbN
  constructor
  · intro h i hi q
    have := h i q
    rw [nb_bit, Bool.and_eq_true] at this
    exact this.2
  · intro h i q
    have hi : i < zN Z := by
      rcases Nat.lt_or_ge i (zN Z) with w | w
      · exact w
      · rw [Nat.testBit_lt_two_pow (Nat.lt_of_lt_of_le hs (Nat.pow_le_pow_right (by decide) w))] at q; cases q
    rw [nb_bit, decide_eq_true hi, h i hi q]; rfl
theorem sdiv {d g : Nat} (hg : 0 < g) (hd : 0 < d) : d / g = (d - 1) / g + (if d % g = 0 then 1 else 0) := by
  have e := Nat.div_add_mod d g
  have hr : d % g < g := Nat.mod_lt _ hg
  generalize hq : d / g = q at e ⊢
  generalize d % g = r at e hr ⊢
  by_cases w : r = 0
  · rw [if_pos w]
    obtain ⟨q, rfl⟩ : ∃ p, q = p + 1 := ⟨q - 1, by
      rcases Nat.eq_zero_or_pos q with z | z
      · rw [z, Nat.mul_zero] at e; omega
      · omega⟩
    have : d - 1 = g * q + (g - 1) := by rw [Nat.mul_add, Nat.mul_one] at e; omega
    rw [this, Nat.mul_add_div hg, Nat.div_eq_of_lt (by omega : g - 1 < g)]
  · rw [if_neg w]
    have : d - 1 = g * q + (r - 1) := by omega
    rw [this, Nat.mul_add_div hg, Nat.div_eq_of_lt (by omega : r - 1 < g)]
    rfl
/-- a row of numbers g apart from x on: how many of n from a on -/
theorem ap_ct {A : Nat → Bool} {a x g N : Nat} (hg : 0 < g) (hx : a ≤ x) (hA : ∀ v, a ≤ v → v < N → (A v = true ↔ x ≤ v ∧ (v - x) % g = 0)) : ∀ n, a + n ≤ N → fb_ct (fun k => A (a + k)) n = if a + n ≤ x then 0 else (a + n - 1 - x) / g + 1 := by
  intro n
  induction n with
  | zero => intro _; rw [if_pos (show a + 0 ≤ x from hx)]; rfl
  | succ n ih =>
    intro hn
    rw [fb_ct_succ, ih (by omega)]
    have h := hA (a + n) (by omega) (by omega)
    show _ + (if A (a + n) = true then 1 else 0) = _
    by_cases q : a + n < x
    · rw [if_pos (show a + n ≤ x by omega), if_pos (show a + (n + 1) ≤ x by omega), if_neg (fun w => by have := (h.mp w).1; omega)]
    · by_cases w : a + n = x
      · rw [if_pos (show a + n ≤ x by omega), if_neg (show ¬ a + (n + 1) ≤ x by omega), if_pos (h.mpr ⟨by omega, by rw [w, Nat.sub_self]; exact Nat.zero_mod g⟩), show a + (n + 1) - 1 - x = 0 by omega, Nat.zero_div]
      · rw [if_neg (show ¬ a + n ≤ x by omega), if_neg (show ¬ a + (n + 1) ≤ x by omega), show a + (n + 1) - 1 - x = a + n - x by omega, sdiv (d := a + n - x) hg (by omega), show a + n - x - 1 = a + n - 1 - x by omega]
        by_cases u : (a + n - x) % g = 0
        · rw [if_pos (h.mpr ⟨by omega, u⟩), if_pos u]
        · rw [if_neg (fun z => u (h.mp z).2), if_neg u]
/-- from a on: the least that leaves r -/
def lf (g r a : Nat) : Nat := a + (((r : Int) - a) % g).toNat
theorem lf_is {g r a v : Nat} (hr : r < g) (hv : a ≤ v) : v % g = r ↔ lf g r a ≤ v ∧ (v - lf g r a) % g = 0 := by
  have e0 : 0 ≤ ((r : Int) - a) % g := Int.emod_nonneg _ (by omega)
  have e1 : ((r : Int) - a) % g < g := Int.emod_lt_of_pos _ (by omega)
  have e3 := Int.mul_ediv_add_emod ((r : Int) - a) g
  have hx : lf g r a % g = r := by
    refine mod_of (q := -(((r : Int) - a) / g)) ?_ hr
    unfold lf
    rw [Int.natCast_add, Int.toNat_of_nonneg e0, Int.mul_neg]
    omega
  have hb : a ≤ lf g r a ∧ lf g r a < a + g := by unfold lf; omega
  generalize lf g r a = x at hx hb ⊢
  constructor
  · intro h
    rcases Nat.lt_or_ge v x with q | q
    · have : (x - v) % g = 0 := Nat.sub_mod_eq_zero_of_mod_eq (by rw [hx, h])
      rw [Nat.mod_eq_of_lt (by omega)] at this
      omega
    · exact ⟨q, Nat.sub_mod_eq_zero_of_mod_eq (by rw [hx, h])⟩
  · rintro ⟨h1, h2⟩
    have : v = x + (v - x) := by omega
    rw [this, Nat.add_mod, hx, h2, Nat.add_zero]
    exact Nat.mod_eq_of_lt hr
theorem lf_ge (g r a : Nat) : a ≤ lf g r a := Nat.le_add_right _ _
theorem lf_lt {g r a : Nat} (hg : 0 < g) : lf g r a < a + g := by
  have e0 : 0 ≤ ((r : Int) - a) % g := Int.emod_nonneg _ (by omega)
  have e1 : ((r : Int) - a) % g < g := Int.emod_lt_of_pos _ (by omega)
  unfold lf
  omega
/-- how many of low .. high all of a set catch -/
def nC (Z : Zt) (s lo hi : Nat) : Nat := fb_ct (fun k => PB Z s (lo + k)) (hi + 1 - lo)
/-- y is the i-th of them -/
def Ith (Z : Zt) (s lo hi i y : Nat) : Prop := lo ≤ y ∧ y ≤ hi ∧ PB Z s y = true ∧ fb_ct (fun k => PB Z s (lo + k)) (y - lo) = i
theorem Ith.uni {Z : Zt} {s lo hi i y z : Nat} (h : Ith Z s lo hi i y) (g : Ith Z s lo hi i z) : y = z := by
  have key : ∀ y z, Ith Z s lo hi i y → Ith Z s lo hi i z → ¬ y < z := by
    intro y z h g q
    have a := fb_ct_mono (fun k => PB Z s (lo + k)) (show y - lo + 1 ≤ z - lo by have := h.1; omega)
    rw [fb_ct_succ, h.2.2.2, g.2.2.2] at a
    have : lo + (y - lo) = y := by have := h.1; omega
    have b : (fun k => PB Z s (lo + k)) (y - lo) = true := by show PB Z s (lo + (y - lo)) = true; rw [this]; exact h.2.2.1
    rw [if_pos b] at a
    omega
  have := key y z h g
  have := key z y g h
  omega
section
variable {Z : Zt} {s g r f t lo hi : Nat}
theorem sh_ap (hs : s < 2 ^ zN Z) (h : shOk Z s g r f t) (hg : 0 < g) (h1 : 1 ≤ lo) (h2 : hi ≤ 1000000000000) : ∀ v, lo ≤ v → v < min hi t + 1 → (PB Z s v = true ↔ lf g r (max lo f) ≤ v ∧ (v - lf g r (max lo f)) % g = 0) := by
  obtain ⟨c1, c2, c3, c4, c5⟩ := h
  intro v v1 v2
  rw [PB_iff hs, c5 v (by omega) (by omega)]
  by_cases q : f ≤ v
  · rw [← lf_is (show r < g by omega) (show max lo f ≤ v by omega)]
    exact ⟨fun w => w.2.2.2, fun w => ⟨q, by omega, by omega, w⟩⟩
  · have := lf_ge g r (max lo f)
    exact ⟨fun w => absurd w.1 q, fun w => by omega⟩
theorem cnt_sh (hs : s < 2 ^ zN Z) (h : shOk Z s g r f t) (h1 : 1 ≤ lo) (h2 : hi ≤ 1000000000000) : nC Z s lo hi = if g = 0 then 0 else if lf g r (max lo f) ≤ min hi t then (min hi t - lf g r (max lo f)) / g + 1 else 0 := by
  have hh := h
  obtain ⟨c1, c2, c3, c4, c5⟩ := h
  unfold nC
  rcases Nat.eq_zero_or_pos g with z | hg
  · rw [if_pos z]
    refine fb_ct_zero.mpr (fun k hk => ?_)
    cases q : PB Z s (lo + k)
    · rfl
    · exact absurd z ((c5 (lo + k) (by omega) (by omega)).mp ((PB_iff hs).mp q)).2.2.1
  rw [if_neg (by omega)]
  have hA := sh_ap hs hh hg h1 h2
  have hx := lf_ge g r (max lo f)
  by_cases q : min hi t + 1 ≤ lo
  · rw [if_neg (by omega)]
    refine fb_ct_zero.mpr (fun k hk => ?_)
    cases q2 : PB Z s (lo + k)
    · rfl
    · have := ((c5 (lo + k) (by omega) (by omega)).mp ((PB_iff hs).mp q2)).2.1
      omega
  · have e1 : hi + 1 - lo = (min hi t + 1 - lo) + (hi - min hi t) := by omega
    rw [e1, fb_ct_split, ap_ct hg (by omega) hA _ (by omega)]
    have e2 : fb_ct (fun k => PB Z s (lo + (min hi t + 1 - lo + k))) (hi - min hi t) = 0 := by
      refine fb_ct_zero.mpr (fun k hk => ?_)
      cases q2 : PB Z s (lo + (min hi t + 1 - lo + k))
      · rfl
      · have := ((c5 _ (by omega) (by omega)).mp ((PB_iff hs).mp q2)).2.1
        omega
    rw [e2, Nat.add_zero]
    by_cases w : lf g r (max lo f) ≤ min hi t
    · rw [if_neg (by omega), if_pos w, show lo + (min hi t + 1 - lo) - 1 - lf g r (max lo f) = min hi t - lf g r (max lo f) by omega]
    · rw [if_pos (by omega), if_neg w]
theorem ith_sh (hs : s < 2 ^ zN Z) (h : shOk Z s g r f t) (h1 : 1 ≤ lo) (h2 : hi ≤ 1000000000000) {i : Nat} (hg : 0 < g) (hw : lf g r (max lo f) ≤ min hi t) (hi2 : i ≤ (min hi t - lf g r (max lo f)) / g) : Ith Z s lo hi i (lf g r (max lo f) + i * g) ∧ lf g r (max lo f) + i * g ≤ hi := by
  have hA := sh_ap hs h hg h1 h2
  have hx := lf_ge g r (max lo f)
  have hm : i * g ≤ min hi t - lf g r (max lo f) := Nat.le_trans (Nat.mul_le_mul_right g hi2) (Nat.div_mul_le_self _ _)
  have hB : lo ≤ lf g r (max lo f) + i * g ∧ lf g r (max lo f) + i * g ≤ hi := by omega
  refine ⟨⟨hB.1, hB.2, ?_, ?_⟩, hB.2⟩
  · refine (hA _ (by omega) (by omega)).mpr ⟨by omega, ?_⟩
    rw [Nat.add_sub_cancel_left, Nat.mul_mod_left]
  · rw [ap_ct hg (by omega) hA _ (by omega)]
    rcases Nat.eq_zero_or_pos i with q | q
    · subst q
      rw [if_pos (by omega)]
    · have hig : 0 < i * g := Nat.mul_pos q hg
      rw [if_neg (by omega), show lo + (lf g r (max lo f) + i * g - lo) - 1 - lf g r (max lo f) = i * g - 1 by omega]
      have e := sdiv (d := i * g) hg hig
      rw [Nat.mul_div_left _ hg, Nat.mul_mod_left, if_pos rfl] at e
      exact e.symm
end
theorem mxN {a b : Nat} (ha : a < 9223372036854775808) (hb : b < 9223372036854775808) : mxL (lN a) (lN b) = lN (max a b) := by rw [mx_a ha hb, Nat.max_def]
theorem mnN {a b : Nat} (ha : a < 9223372036854775808) (hb : b < 9223372036854775808) : mnL (lN a) (lN b) = lN (min a b) := by rw [mn_a ha hb, Nat.min_def]
theorem tmB {x : Int} {g : Nat} (hg : 0 < g) : -(g : Int) < x.tmod g ∧ x.tmod g < g := by
  refine ⟨?_, Int.tmod_lt_of_pos _ (by omega)⟩
  have := Int.tmod_lt_of_pos (-x) (show (0 : Int) < g by omega)
  rw [Int.neg_tmod] at this
  omega
theorem tmE {x : Int} {g : Nat} (hg : 0 < g) : (if 0 ≤ x.tmod g then x.tmod g else x.tmod g + g) = x % g := by
  have b := tmB (x := x) hg
  have b2 : x.tmod g = x - g * (x.tdiv g) := Int.tmod_def _ _
  by_cases q : 0 ≤ x.tmod g
  · rw [if_pos q, ← Int.emod_eq_of_lt q b.2, b2, Int.sub_mul_emod_self_left]
  · rw [if_neg q, ← Int.emod_eq_of_lt (show 0 ≤ x.tmod g + g by omega) (show x.tmod g + g < g by omega), Int.add_emod_right, b2, Int.sub_mul_emod_self_left]
theorem emE {r a g : Nat} (hr : r < g) : (if 0 ≤ (r : Int) - (a % g : Nat) then (r : Int) - (a % g : Nat) else (r : Int) - (a % g : Nat) + g) = ((r : Int) - a) % g := by
  have hb : a % g < g := Nat.mod_lt _ (by omega)
  have e := mod_is a g
  have e2 : ((r : Int) - a) % g = ((r : Int) - (a % g : Nat)) % g := by
    have : (r : Int) - a = (r : Int) - (a % g : Nat) + g * (-(a / g : Nat)) := by rw [Int.mul_neg]; omega
    rw [this, Int.add_mul_emod_self_left]
  rw [e2]
  by_cases q : 0 ≤ (r : Int) - (a % g : Nat)
  · rw [if_pos q, Int.emod_eq_of_lt q (by omega)]
  · rw [if_neg q, ← Int.add_emod_right, Int.emod_eq_of_lt (by omega) (by omega)]
