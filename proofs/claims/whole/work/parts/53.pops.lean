/-! ===== how many bits ===== -/
def pcF : Nat → Nat → Nat
  | 0, _ => 0
  | k + 1, n => n % 2 + pcF k (n / 2)
/-- how many bits of a number below 2 to the power of 64 -/
def pc (n : Nat) : Nat := pcF 64 n
theorem pcF_le : ∀ k n, pcF k n ≤ k
  | 0, _ => Nat.le_refl _
  | k + 1, n => by
    have := pcF_le k (n / 2)
    unfold pcF
    omega
theorem pcF_z : ∀ k, pcF k 0 = 0
  | 0 => rfl
  | k + 1 => by unfold pcF; rw [Nat.zero_div, pcF_z k]
theorem pcF_big : ∀ k n, n < 2 ^ k → pcF (k + 1) n = pcF k n
  | 0, n, h => by
    have : n = 0 := by omega
    subst this
    rfl
  | k + 1, n, h => by
    have := pcF_big k (n / 2) (by rw [Nat.pow_succ] at h; omega)
    unfold pcF
    rw [this]
theorem pcF_up {k n : Nat} (h : n < 2 ^ k) : ∀ d, pcF (k + d) n = pcF k n
  | 0 => rfl
  | d + 1 => by
    have : n < 2 ^ (k + d) := Nat.lt_of_lt_of_le h (Nat.pow_le_pow_right (by decide) (by omega))
    rw [← Nat.add_assoc, pcF_big _ _ this, pcF_up h d]
theorem pc_lt {k n : Nat} (h : n < 2 ^ k) (hk : k ≤ 64) : pc n ≤ k := by
  have := pcF_up h (64 - k)
  rw [show k + (64 - k) = 64 by omega] at this
  unfold pc
  rw [this]
  exact pcF_le k n
theorem pc_z : pc 0 = 0 := pcF_z 64
theorem pcF_pos : ∀ k n, 0 < n → n < 2 ^ k → 0 < pcF k n
  | 0, n, h, h2 => by omega
  | k + 1, n, h, h2 => by
    unfold pcF
    by_cases q : n % 2 = 0
    · have := pcF_pos k (n / 2) (by omega) (by rw [Nat.pow_succ] at h2; omega)
      omega
    · omega
/-- the least bit taken off -/
theorem kern_e (y : Nat) (h : 0 < y) : 2 * y &&& (2 * y - 1) = 2 * (y &&& (y - 1)) := by
  rw [show 2 * y - 1 = 2 * (y - 1) + 1 by omega]
  refine Nat.eq_of_testBit_eq (fun i => ?_)
  cases i with
  | zero => simp [Nat.testBit_and, Nat.testBit_zero, Nat.mul_mod_right]
  | succ i =>
    rw [Nat.testBit_and, Nat.testBit_succ, Nat.testBit_succ, Nat.testBit_succ]
    rw [show 2 * y / 2 = y by omega, show (2 * (y - 1) + 1) / 2 = y - 1 by omega, show 2 * (y &&& (y - 1)) / 2 = y &&& (y - 1) by omega, Nat.testBit_and]
theorem kern_o (y : Nat) : (2 * y + 1) &&& (2 * y + 1 - 1) = 2 * y := by
  rw [Nat.add_sub_cancel]
  refine Nat.eq_of_testBit_eq (fun i => ?_)
  cases i with
  | zero => simp [Nat.testBit_and, Nat.testBit_zero]
  | succ i =>
    rw [Nat.testBit_and, Nat.testBit_succ, Nat.testBit_succ]
    rw [show 2 * y / 2 = y by omega, show (2 * y + 1) / 2 = y by omega, Bool.and_self]
theorem kern : ∀ (k n : Nat), 0 < n → n < 2 ^ k → (n &&& (n - 1)) < n ∧ pcF k (n &&& (n - 1)) + 1 = pcF k n
  | 0, n, h, h2 => by omega
  | k + 1, n, h, h2 => by
    rw [Nat.pow_succ] at h2
    rcases Nat.mod_two_eq_zero_or_one n with q | q
    · obtain ⟨y, rfl⟩ : ∃ y, n = 2 * y := ⟨n / 2, by omega⟩
      obtain ⟨i1, i2⟩ := kern k y (by omega) (by omega)
      rw [kern_e y (by omega)]
      refine ⟨by omega, ?_⟩
      unfold pcF
      rw [show 2 * (y &&& (y - 1)) / 2 = y &&& (y - 1) by omega, show 2 * y / 2 = y by omega]
      omega
    · obtain ⟨y, rfl⟩ : ∃ y, n = 2 * y + 1 := ⟨n / 2, by omega⟩
      rw [kern_o y]
      refine ⟨by omega, ?_⟩
      unfold pcF
      rw [show 2 * y / 2 = y by omega, show (2 * y + 1) / 2 = y by omega]
      omega
theorem bitsOf_lp : ∀ (j n c : Nat) (x : Nat), x < 2 ^ 63 → pc x = j → j < n → c + j < 2147483648 → F_m_bitsOf_4 n (nI c) (lN x) = some (nI (c + j)) := by
  intro j
  induction j with
  | zero =>
    intro n c x hx hj hn hc
    obtain ⟨n, rfl⟩ : ∃ q, n = q + 1 := ⟨n - 1, by omega⟩
    have : x = 0 := by
      have h1 : ¬ 0 < x := fun h => by
        have h2 := pcF_pos 64 x h (Nat.lt_trans hx (by decide))
        have h3 : pcF 64 x = 0 := hj
        omega
      omega
    subst this
    rw [F_m_bitsOf_4, if_pos (show lN 0 = (0 : Int64) from rfl)]
    rfl
  | succ j ih =>
    intro n c x hx hj hn hc
    obtain ⟨n, rfl⟩ : ∃ q, n = q + 1 := ⟨n - 1, by omega⟩
    have h0 : 0 < x := by
      by_cases h : 0 < x
      · exact h
      · have : x = 0 := by omega
        subst this
        rw [pc_z] at hj
        omega
    obtain ⟨k1, k2⟩ := kern 64 x h0 (Nat.lt_trans hx (by decide))
    have k3 : pc (x &&& (x - 1)) + 1 = pc x := k2
    rw [F_m_bitsOf_4, (show (0 : Int64) = lN 0 from rfl), if_neg (by rw [pk_lEQ (by omega) (by decide)]; omega), (show (1 : Int64) = lN 1 from rfl), lN_sub h0, (show (1 : Int32) = nI 1 from rfl), nI_add, fb_andL, show c + (j + 1) = c + 1 + j by omega]
    exact ih n (c + 1) (x &&& (x - 1)) (by omega) (by omega) (by omega) (by omega)
theorem bitsOf_ok {x : Nat} (h : x < 2 ^ 63) : F_m_bitsOf (lN x) = some (nI (pc x)) := by
  have h1 : pc x ≤ 63 := pc_lt h (by decide)
  unfold F_m_bitsOf
  have := bitsOf_lp (pc x) FU 0 x h rfl (by rw [FU_v]; omega) (by omega)
  rw [Nat.zero_add] at this
  exact this
/-! the JDK's count of a long -/
theorem pc_b : ∀ b, b < 256 → b - (b / 2 &&& 85) < 256 ∧ ((b - (b / 2 &&& 85)) &&& 51) + ((b - (b / 2 &&& 85)) / 4 &&& 51) < 256 ∧ ((((b - (b / 2 &&& 85)) &&& 51) + ((b - (b / 2 &&& 85)) / 4 &&& 51)) + (((b - (b / 2 &&& 85)) &&& 51) + ((b - (b / 2 &&& 85)) / 4 &&& 51)) / 16 &&& 15) = pcF 8 b ∧ (b / 2 &&& 85) ≤ b ∧ (((b - (b / 2 &&& 85)) &&& 51) + ((b - (b / 2 &&& 85)) / 4 &&& 51)) % 16 ≤ 4 ∧ (((b - (b / 2 &&& 85)) &&& 51) + ((b - (b / 2 &&& 85)) / 4 &&& 51)) / 16 ≤ 4 := by decide +kernel
theorem and_cat (a b A B : Nat) (hb : b < 256) (hB : B < 256) : (256 * a + b) &&& (256 * A + B) = 256 * (a &&& A) + (b &&& B) := by
  refine Nat.eq_of_testBit_eq (fun i => ?_)
  have hbB : b &&& B < 2 ^ 8 := Nat.lt_of_le_of_lt Nat.and_le_left hb
  rw [Nat.testBit_and, show 256 = 2 ^ 8 from rfl, Nat.testBit_two_pow_mul_add _ hb, Nat.testBit_two_pow_mul_add _ hB, Nat.testBit_two_pow_mul_add _ hbB]
  by_cases h : i < 8
  · rw [if_pos h, if_pos h, if_pos h, Nat.testBit_and]
  · rw [if_neg h, if_neg h, if_neg h, Nat.testBit_and]
def mkk : Nat → Nat → Nat
  | 0, _ => 0
  | k + 1, c => 256 * mkk k c + c
theorem mkk_s (k c : Nat) : mkk (k + 1) c = 256 * mkk k c + c := rfl
def sw1 (k x : Nat) : Nat := x - (x / 2 &&& mkk k 85)
def sw2 (k p : Nat) : Nat := (p &&& mkk k 51) + (p / 4 &&& mkk k 51)
def sw3 (k q : Nat) : Nat := (q + q / 16) &&& mkk k 15
def sb8 : Nat → Nat → Nat
  | 0, _ => 0
  | k + 1, x => 256 * sb8 k (x / 256) + pcF 8 (x % 256)
def gb1 (b : Nat) : Nat := b - (b / 2 &&& 85)
def gb2 (c : Nat) : Nat := (c &&& 51) + (c / 4 &&& 51)
theorem sw1_s (k x : Nat) : sw1 (k + 1) x = 256 * sw1 k (x / 256) + gb1 (x % 256) := by
  have hx : x = 256 * (x / 256) + x % 256 := by omega
  have hb : x % 256 < 256 := Nat.mod_lt _ (by decide)
  generalize x / 256 = a at hx ⊢
  generalize x % 256 = b at hx hb ⊢
  subst hx
  unfold sw1 gb1
  have e : (256 * a + b) / 2 = 256 * (a / 2) + (128 * (a % 2) + b / 2) := by omega
  have e2 : ∀ b, b < 256 → (128 * 1 + b / 2) &&& 85 = b / 2 &&& 85 := by decide +kernel
  have e3 : (128 * (a % 2) + b / 2) &&& 85 = b / 2 &&& 85 := by
    rcases Nat.mod_two_eq_zero_or_one a with q | q
    · rw [q, Nat.mul_zero, Nat.zero_add]
    · rw [q]; exact e2 b hb
  rw [e, mkk_s, and_cat _ _ _ _ (by omega) (by decide), e3]
  have h1 : a / 2 &&& mkk k 85 ≤ a / 2 := Nat.and_le_left
  have h2 : b / 2 &&& 85 ≤ b / 2 := Nat.and_le_left
  omega
theorem sw2_s (k a b : Nat) (hb : b < 256) : sw2 (k + 1) (256 * a + b) = 256 * sw2 k a + gb2 b := by
  unfold sw2 gb2
  have e : (256 * a + b) / 4 = 256 * (a / 4) + (64 * (a % 4) + b / 4) := by omega
  have e2 : ∀ b, b < 256 → (64 * 1 + b / 4) &&& 51 = b / 4 &&& 51 ∧ (64 * 2 + b / 4) &&& 51 = b / 4 &&& 51 ∧ (64 * 3 + b / 4) &&& 51 = b / 4 &&& 51 := by decide +kernel
  have e3 : (64 * (a % 4) + b / 4) &&& 51 = b / 4 &&& 51 := by
    have : a % 4 = 0 ∨ a % 4 = 1 ∨ a % 4 = 2 ∨ a % 4 = 3 := by omega
    rcases this with q | q | q | q
    · rw [q, Nat.mul_zero, Nat.zero_add]
    · rw [q]; exact (e2 b hb).1
    · rw [q]; exact (e2 b hb).2.1
    · rw [q]; exact (e2 b hb).2.2
  rw [e, mkk_s, and_cat _ _ _ _ hb (by decide), and_cat _ _ _ _ (by omega) (by decide), e3]
  omega
theorem sw3_s (k a b : Nat) (ha : a % 16 ≤ 4) (hb : b % 16 ≤ 4) (hb2 : b / 16 ≤ 4) : sw3 (k + 1) (256 * a + b) = 256 * sw3 k a + ((b + b / 16) &&& 15) := by
  unfold sw3
  have e : 256 * a + b + (256 * a + b) / 16 = 256 * (a + a / 16) + (16 * (a % 16) + (b + b / 16)) := by omega
  rw [e, mkk_s, and_cat _ _ _ _ (by omega) (by decide)]
  have h1 : (16 * (a % 16) + (b + b / 16)) &&& 15 = (16 * (a % 16) + (b + b / 16)) % 16 := Nat.and_two_pow_sub_one_eq_mod _ 4
  have h2 : (b + b / 16) &&& 15 = (b + b / 16) % 16 := Nat.and_two_pow_sub_one_eq_mod _ 4
  rw [h1, h2]
  omega
theorem sw_all : ∀ (k x : Nat), x < 256 ^ k → sw1 k x ≤ x ∧ sw2 k (sw1 k x) < 256 ^ k ∧ sw2 k (sw1 k x) % 16 ≤ 4 ∧ sw3 k (sw2 k (sw1 k x)) = sb8 k x
  | 0, x, h => by
    have : x = 0 := by omega
    subst this
    exact ⟨by decide, by decide, by decide, by decide⟩
  | k + 1, x, h => by
    have hk : x / 256 < 256 ^ k := by rw [Nat.pow_succ] at h; omega
    obtain ⟨i1, i2, i3, i4⟩ := sw_all k (x / 256) hk
    obtain ⟨b1, b2, b3, b4, b5, b6⟩ := pc_b (x % 256) (Nat.mod_lt _ (by decide))
    have c1 : gb1 (x % 256) < 256 := b1
    have c2 : gb2 (gb1 (x % 256)) < 256 := b2
    have c5 : gb2 (gb1 (x % 256)) % 16 ≤ 4 := b5
    have c6 : gb2 (gb1 (x % 256)) / 16 ≤ 4 := b6
    rw [sw1_s, sw2_s _ _ _ c1, sw3_s _ _ _ i3 c5 c6, i4]
    refine ⟨?_, ?_, ?_, ?_⟩
    · have : gb1 (x % 256) ≤ x % 256 := Nat.sub_le _ _
      omega
    · rw [Nat.pow_succ]; omega
    · omega
    · show _ = 256 * sb8 k (x / 256) + pcF 8 (x % 256)
      rw [← b3]
      rfl
theorem pcF_8 (k n : Nat) : pcF (k + 8) n = pcF 8 (n % 256) + pcF k (n / 256) := by
  simp only [pcF, Nat.div_div_eq_div_mul, Nat.reduceMul]
  rw [show n % 256 % 2 = n % 2 by omega, show n % 256 / 2 % 2 = n / 2 % 2 by omega, show n % 256 / 4 % 2 = n / 4 % 2 by omega, show n % 256 / 8 % 2 = n / 8 % 2 by omega, show n % 256 / 16 % 2 = n / 16 % 2 by omega, show n % 256 / 32 % 2 = n / 32 % 2 by omega, show n % 256 / 64 % 2 = n / 64 % 2 by omega, show n % 256 / 128 % 2 = n / 128 % 2 by omega]
  omega
theorem sb8_8 (x : Nat) : ∃ a b c d e f g h, a ≤ 8 ∧ b ≤ 8 ∧ c ≤ 8 ∧ d ≤ 8 ∧ e ≤ 8 ∧ f ≤ 8 ∧ g ≤ 8 ∧ h ≤ 8 ∧ sb8 8 x = a + 256 * (b + 256 * (c + 256 * (d + 256 * (e + 256 * (f + 256 * (g + 256 * h)))))) ∧ pc x = a + b + c + d + e + f + g + h := by
  refine ⟨pcF 8 (x % 256), pcF 8 (x / 256 % 256), pcF 8 (x / 256 / 256 % 256), pcF 8 (x / 256 / 256 / 256 % 256), pcF 8 (x / 256 / 256 / 256 / 256 % 256), pcF 8 (x / 256 / 256 / 256 / 256 / 256 % 256), pcF 8 (x / 256 / 256 / 256 / 256 / 256 / 256 % 256), pcF 8 (x / 256 / 256 / 256 / 256 / 256 / 256 / 256 % 256), pcF_le _ _, pcF_le _ _, pcF_le _ _, pcF_le _ _, pcF_le _ _, pcF_le _ _, pcF_le _ _, pcF_le _ _, ?_, ?_⟩
  · simp only [sb8]
    omega
  · unfold pc
    rw [pcF_8 56, pcF_8 48, pcF_8 40, pcF_8 32, pcF_8 24, pcF_8 16, pcF_8 8, show pcF 8 = pcF (0 + 8) from rfl, pcF_8 0 (x / 256 / 256 / 256 / 256 / 256 / 256 / 256)]
    simp only [pcF]
    omega
theorem ush_lN {a p : Nat} (k : Nat) (hk : k < 64) (hp : 2 ^ k = p) (ha : a < 18446744073709551616) : ((lN a).toUInt64 >>> ((nI k).toInt64.toUInt64 &&& Int64.toUInt64 63)).toInt64 = lN (a / p) := by
  rw [← hp]
  exact wb_shr ha hk
theorem nm_q {α β : Type} {e e' : α} {f : α → Option β} (h : e = e') : nm e f = f e' := by rw [h]; rfl
theorem i8a (a b c d e f g i : Nat) : (a + 256 * (b + 256 * (c + 256 * (d + 256 * (e + 256 * (f + 256 * (g + 256 * i))))))) + (b + 256 * (c + 256 * (d + 256 * (e + 256 * (f + 256 * (g + 256 * i)))))) = (a + b + 256 * (b + c)) + 65536 * ((c + d) + 256 * ((d + e) + 256 * ((e + f) + 256 * ((f + g) + 256 * ((g + i) + 256 * i))))) := by omega
theorem i8b (a b c d e f g i : Nat) : (a + b + 256 * (b + c)) + 65536 * ((c + d) + 256 * ((d + e) + 256 * ((e + f) + 256 * ((f + g) + 256 * ((g + i) + 256 * i))))) + ((c + d) + 256 * ((d + e) + 256 * ((e + f) + 256 * ((f + g) + 256 * ((g + i) + 256 * i))))) = ((a + b + c + d) + 256 * (b + c + d + e) + 65536 * (c + d + e + f) + 16777216 * (d + e + f + g)) + 4294967296 * ((e + f + g + i) + 256 * ((f + g + i) + 256 * ((g + i) + 256 * i))) := by omega
theorem i8c (a b c d e f g i : Nat) : ((a + b + c + d) + 256 * (b + c + d + e) + 65536 * (c + d + e + f) + 16777216 * (d + e + f + g)) + 4294967296 * ((e + f + g + i) + 256 * ((f + g + i) + 256 * ((g + i) + 256 * i))) + ((e + f + g + i) + 256 * ((f + g + i) + 256 * ((g + i) + 256 * i))) = (a + b + c + d + e + f + g + i) + 128 * (2 * (b + c + d + e) + 512 * (c + d + e + f) + 131072 * (d + e + f + g) + 33554432 * ((e + f + g + i) + 256 * ((f + g + i) + 256 * ((g + i) + 256 * i))) + 2 * ((f + g + i) + 256 * ((g + i) + 256 * i))) := by omega
theorem dv8 {a X m : Nat} (h : a < m) : (a + m * X) / m = X := by
  rw [Nat.add_mul_div_left _ _ (Nat.lt_of_le_of_lt (Nat.zero_le a) h), Nat.div_eq_of_lt h, Nat.zero_add]
theorem sum8 {a b c d e f g i T : Nat} (ha : a ≤ 8) (hb : b ≤ 8) (hc : c ≤ 8) (hd : d ≤ 8) (he : e ≤ 8) (hf : f ≤ 8) (hg : g ≤ 8) (hi : i ≤ 8) (t1 : T = a + 256 * (b + 256 * (c + 256 * (d + 256 * (e + 256 * (f + 256 * (g + 256 * i))))))) : (T + T / 256 + (T + T / 256) / 65536 + (T + T / 256 + (T + T / 256) / 65536) / 4294967296) % 128 = a + b + c + d + e + f + g + i := by
  obtain ⟨h1, h2, h3, h4⟩ : a < 256 ∧ a + b + 256 * (b + c) < 65536 ∧ (a + b + c + d) + 256 * (b + c + d + e) + 65536 * (c + d + e + f) + 16777216 * (d + e + f + g) < 4294967296 ∧ a + b + c + d + e + f + g + i < 128 := by
    clear t1
    refine ⟨by omega, by omega, by omega, by omega⟩
  clear ha hb hc hd he hf hg hi
  have e1 : T / 256 = b + 256 * (c + 256 * (d + 256 * (e + 256 * (f + 256 * (g + 256 * i))))) := (congrArg (fun q => q / 256) t1).trans (dv8 h1)
  have e2 : T + T / 256 = (a + b + 256 * (b + c)) + 65536 * ((c + d) + 256 * ((d + e) + 256 * ((e + f) + 256 * ((f + g) + 256 * ((g + i) + 256 * i))))) := (congr (congrArg (fun p q : Nat => p + q) t1) e1).trans (i8a a b c d e f g i)
  generalize T + T / 256 = U at e2 ⊢
  have e3 : U / 65536 = (c + d) + 256 * ((d + e) + 256 * ((e + f) + 256 * ((f + g) + 256 * ((g + i) + 256 * i)))) := (congrArg (fun q => q / 65536) e2).trans (dv8 h2)
  have e4 : U + U / 65536 = ((a + b + c + d) + 256 * (b + c + d + e) + 65536 * (c + d + e + f) + 16777216 * (d + e + f + g)) + 4294967296 * ((e + f + g + i) + 256 * ((f + g + i) + 256 * ((g + i) + 256 * i))) := (congr (congrArg (fun p q : Nat => p + q) e2) e3).trans (i8b a b c d e f g i)
  generalize U + U / 65536 = V at e4 ⊢
  have e5 : V / 4294967296 = (e + f + g + i) + 256 * ((f + g + i) + 256 * ((g + i) + 256 * i)) := (congrArg (fun q => q / 4294967296) e4).trans (dv8 h3)
  have e6 := (congr (congrArg (fun p q : Nat => p + q) e4) e5).trans (i8c a b c d e f g i)
  refine (congrArg (fun q => q % 128) e6).trans ?_
  exact (Nat.add_mul_mod_self_left _ _ _).trans (Nat.mod_eq_of_lt h4)
theorem bitCountJ_ok {x : Nat} (h : x < 9223372036854775808) : F_j_bitCountJ (lN x) = some (nI (pc x)) := by
  obtain ⟨s1, s2, s3, s4⟩ := sw_all 8 x (by omega)
  obtain ⟨a, b, c, d, e, f, g, i, ha, hb, hc, hd, he, hf, hg, hi, t1, t2⟩ := sb8_8 x
  unfold F_j_bitCountJ
  have m1 : sw1 8 x = x - (x / 2 &&& 6148914691236517205) := rfl
  have m2 : sw2 8 (sw1 8 x) = (sw1 8 x &&& 3689348814741910323) + (sw1 8 x / 4 &&& 3689348814741910323) := rfl
  have m3 : sw3 8 (sw2 8 (sw1 8 x)) = (sw2 8 (sw1 8 x) + sw2 8 (sw1 8 x) / 16) &&& 1085102592571150095 := rfl
  have l1 : x / 2 &&& 6148914691236517205 ≤ x / 2 := Nat.and_le_left
  have b2 : sw2 8 (sw1 8 x) < 18446744073709551616 := s2
  refine (nm_q (e' := lN (sw1 8 x)) ?_).trans ?_
  · rw [(show (1 : Int32) = nI 1 from rfl), (show (6148914691236517205 : Int64) = lN 6148914691236517205 from rfl), ush_lN (p := 2) 1 (by decide) rfl (by omega), fb_andL, lN_sub (by omega), ← m1]
  refine (nm_q (e' := lN (sw2 8 (sw1 8 x))) ?_).trans ?_
  · rw [(show (2 : Int32) = nI 2 from rfl), (show (3689348814741910323 : Int64) = lN 3689348814741910323 from rfl), ush_lN (p := 4) 2 (by decide) rfl (by omega), fb_andL, fb_andL, lN_add, ← m2]
  refine (nm_q (e' := lN (sb8 8 x)) ?_).trans ?_
  · rw [(show (4 : Int32) = nI 4 from rfl), (show (1085102592571150095 : Int64) = lN 1085102592571150095 from rfl), ush_lN (p := 16) 4 (by decide) rfl b2, lN_add, fb_andL, ← m3, s4]
  generalize sb8 8 x = T at t1
  have hT : T < 1000000000000000000 := by omega
  refine (nm_q (e' := lN (T + T / 256)) ?_).trans ?_
  · rw [(show (8 : Int32) = nI 8 from rfl), ush_lN (p := 256) 8 (by decide) rfl (by omega), lN_add]
  refine (nm_q (e' := lN (T + T / 256 + (T + T / 256) / 65536)) ?_).trans ?_
  · rw [(show (16 : Int32) = nI 16 from rfl), ush_lN (p := 65536) 16 (by decide) rfl (by omega), lN_add]
  refine (nm_q (e' := lN (T + T / 256 + (T + T / 256) / 65536 + (T + T / 256 + (T + T / 256) / 65536) / 4294967296)) ?_).trans ?_
  · rw [(show (32 : Int32) = nI 32 from rfl), ush_lN (p := 4294967296) 32 (by decide) rfl (by omega), lN_add]
  rw [(show (127 : Int32) = nI 127 from rfl), l2i_lN]
  have e9 : ∀ q : Nat, nI q &&& nI 127 = nI (q % 128) := fun q => fa_mask q 7
  rw [e9, t2]
  refine congrArg (fun q => some (nI q)) ?_
  exact sum8 ha hb hc hd he hf hg hi t1
theorem bitCountI_ok : ∀ x, x < 256 → F_j_bitCountI (nI x) = some (nI (pc x)) := by decide +kernel
