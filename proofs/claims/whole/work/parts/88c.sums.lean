/-! ===== sums over sets ===== -/
def sm (F : Nat → Int) : Nat → Int
  | 0 => 0
  | n + 1 => sm F n + F n
theorem sm_s (F : Nat → Int) (n : Nat) : sm F (n + 1) = sm F n + F n := rfl
theorem sm_cong {F G : Nat → Int} : ∀ {n : Nat}, (∀ k, k < n → F k = G k) → sm F n = sm G n := by
  intro n
  induction n with
  | zero => intro _; rfl
  | succ n ih => intro h; rw [sm_s, sm_s, ih (fun k hk => h k (by omega)), h n (by omega)]
theorem sm_add {F G H : Nat → Int} (h : ∀ k, H k = F k + G k) : ∀ n, sm H n = sm F n + sm G n := by
  intro n
  induction n with
  | zero => rfl
  | succ n ih => rw [sm_s, sm_s, sm_s, ih, h]; omega
theorem sm_end {F : Nat → Int} {n : Nat} (h : ∀ k, n ≤ k → F k = 0) : ∀ d, sm F (n + d) = sm F n := by
  intro d
  induction d with
  | zero => rfl
  | succ d ih => show sm F (n + d) + F (n + d) = _; rw [ih, h _ (by omega)]; omega
def chs (m : Nat) : Nat → Nat
  | 0 => 1
  | i + 1 => chs m i * (m - i) / (i + 1)
theorem choC : ∀ m, m < 9 → ∀ k, k < 9 → k ≤ m → F_Sh_choices (nI m) (nI k) = some (lN (chs m k)) := by decide +kernel
theorem choM : ∀ m, m < 9 → ∀ k, k < 9 → k ≤ m → F_m_choose (nI m) (nI k) = some (lN (chs m k)) := by decide +kernel
/-- what a set adds, for just k of a set -/
def trm (Z : Zt) (lo hi set k n : Nat) : Int := if n &&& set = n ∧ k ≤ pc n then (if (pc n - k) % 2 = 0 then ((chs (pc n) k * nC Z n lo hi : Nat) : Int) else -((chs (pc n) k * nC Z n lo hi : Nat) : Int)) else 0
def sgn2 (n : Nat) : Int := if pc n % 2 = 0 then 1 else -1
def sbs (D n : Nat) : Int := if n &&& D = n then sgn2 n else 0
theorem sbs_all : ∀ D, D < 256 → sm (sbs D) 256 = if D = 0 then 1 else 0 := by decide +kernel
theorem sbs_set {D q : Nat} (hD : D < 256) (hq : D < q) (hq2 : q ≤ 256) : sm (sbs D) q = if D = 0 then 1 else 0 := by
  rw [← sbs_all D hD]
  have h : ∀ k, q ≤ k → sbs D k = 0 := fun k hk => by
    unfold sbs
    rw [if_neg]
    intro w
    have : k &&& D ≤ D := Nat.and_le_right
    omega
  have e := sm_end h (256 - q)
  rw [show q + (256 - q) = 256 by omega] at e
  exact e.symm
def trN (Z : Zt) (lo set N n : Nat) : Int := if n &&& set = n then sgn2 n * (fb_ct (fun k => PB Z n (lo + k)) N : Nat) else 0
theorem trN_s (Z : Zt) (lo set N n : Nat) : trN Z lo set (N + 1) n = trN Z lo set N n + sbs (set &&& cbN Z (lo + N)) n := by
  unfold trN sbs
  rw [fb_ct_succ]
  have e : n &&& (set &&& cbN Z (lo + N)) = n ↔ n &&& set = n ∧ n &&& cbN Z (lo + N) = n := by
    rw [land_eq, land_eq, land_eq]
    constructor
    · intro h
      refine ⟨fun i hi => ?_, fun i hi => ?_⟩
      · have := h i hi
        rw [Nat.testBit_and, Bool.and_eq_true] at this
        exact this.1
      · have := h i hi
        rw [Nat.testBit_and, Bool.and_eq_true] at this
        exact this.2
    · rintro ⟨a, b⟩ i hi
      rw [Nat.testBit_and, a i hi, b i hi]; rfl
  by_cases q : n &&& set = n
  · rw [if_pos q, if_pos q]
    by_cases w : n &&& cbN Z (lo + N) = n
    · have pb : (fun k => PB Z n (lo + k)) N = true := decide_eq_true w
      rw [if_pos (e.mpr ⟨q, w⟩), if_pos pb, Int.natCast_add, Int.mul_add]
      show _ + sgn2 n * 1 = _
      rw [Int.mul_one]
    · have pb : ¬ (fun k => PB Z n (lo + k)) N = true := by
        show ¬ decide (n &&& cbN Z (lo + N) = n) = true
        rw [decide_eq_true_iff]; exact w
      rw [if_neg (fun u => w (e.mp u).2), if_neg pb]
      rw [Nat.add_zero, Int.add_zero]
  · rw [if_neg q, if_neg q, if_neg (fun u => q (e.mp u).1)]; rfl
theorem ie {Z : Zt} (lo : Nat) {set : Nat} (hs : set < 256) : ∀ N, sm (trN Z lo set N) (set + 1) = (fb_ct (fun k => decide (set &&& cbN Z (lo + k) = 0)) N : Nat) := by
  intro N
  induction N with
  | zero =>
    have : sm (trN Z lo set 0) (set + 1) = sm (fun _ => 0) (set + 1) := sm_cong (fun k _ => by
      unfold trN
      split
      · show sgn2 k * 0 = 0
        rw [Int.mul_zero]
      · rfl)
    rw [this]
    have z := sm_end (F := fun _ => (0 : Int)) (n := 0) (fun _ _ => rfl) (set + 1)
    rw [Nat.zero_add] at z
    exact z
  | succ N ih =>
    have hd : set &&& cbN Z (lo + N) ≤ set := Nat.and_le_left
    rw [sm_add (trN_s Z lo set N), ih, sbs_set (by omega) (by omega) (by omega), fb_ct_succ]
    show _ = ((fb_ct _ N + (if decide (set &&& cbN Z (lo + N) = 0) = true then 1 else 0) : Nat) : Int)
    by_cases q : set &&& cbN Z (lo + N) = 0
    · rw [if_pos q, if_pos (decide_eq_true q)]; rfl
    · rw [if_neg q, if_neg (by rw [decide_eq_true_iff]; exact q)]; rfl
theorem trm_0 (Z : Zt) (lo hi set n : Nat) : trm Z lo hi set 0 n = trN Z lo set (hi + 1 - lo) n := by
  unfold trm trN sgn2 nC
  by_cases q : n &&& set = n
  · rw [if_pos ⟨q, Nat.zero_le _⟩, if_pos q, Nat.sub_zero]
    show (if pc n % 2 = 0 then ((1 * _ : Nat) : Int) else -((1 * _ : Nat) : Int)) = _
    rw [Nat.one_mul]
    by_cases w : pc n % 2 = 0
    · rw [if_pos w, if_pos w, Int.one_mul]
    · rw [if_neg w, if_neg w, Int.neg_mul, Int.one_mul]
  · rw [if_neg (fun u => q u.1), if_neg q]
/-- how many of low .. high some of a set catch -/
def sv (Z : Zt) (lo hi set : Nat) : Int := ((hi + 1 - lo : Nat) : Int) - sm (trm Z lo hi set 0) (set + 1)
theorem sv_bd {Z : Zt} {lo hi set : Nat} (hs : set < 256) : 0 ≤ sv Z lo hi set ∧ sv Z lo hi set ≤ (hi + 1 - lo : Nat) := by
  unfold sv
  rw [sm_cong (fun k _ => trm_0 Z lo hi set k), ie lo hs]
  have := fb_ct_le (fun k => decide (set &&& cbN Z (lo + k) = 0)) (hi + 1 - lo)
  omega
theorem nC_0 (Z : Zt) (lo hi : Nat) : nC Z 0 lo hi = hi + 1 - lo := by
  unfold nC
  refine fb_ct_all.mpr (fun k _ => ?_)
  show decide (0 &&& _ = 0) = true
  rw [Nat.zero_and]; rfl
