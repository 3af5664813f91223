/-! ===== the text, token by token ===== -/
def LxC (y : Nat → Nat) (n : Nat) (S : Sto) : Prop := n ≤ 500 ∧ gi S 10 = nI n ∧ (∀ i, i < n → ai S 2 i = nI (y i) ∧ y i < 256) ∧ gi S 8 = -1
def LxM (y : Nat → Nat) (n : Nat) (M : Sto) : Prop := n ≤ 500 ∧ gi M 1005 = nI n ∧ (∀ i, i < n → ai M 1011 i = nI (y i) ∧ y i < 256) ∧ gi M 1012 = -1
abbrev lC (S T : Sto) : Prop := Fr [11, 12, 13, 14, 15, 16] [] [] [] [] S T
abbrev lM (S T : Sto) : Prop := Fr [1004, 1006, 1007, 1008, 1009] [] [] [] [] S T
def isBl (c : Nat) : Bool := decide (c = 32 ∨ c = 10)
def isLt (c : Nat) : Bool := decide (97 ≤ c ∧ c ≤ 122)
def isDg (c : Nat) : Bool := decide (48 ≤ c ∧ c ≤ 57)
def isMk (c : Nat) : Bool := decide (c = 59 ∨ c = 40 ∨ c = 41 ∨ c = 43 ∨ c = 45 ∨ c = 42 ∨ c = 47 ∨ c = 60 ∨ c = 61)
theorem cBl : ∀ c, c < 256 → F_Rd_isBlank (nI c) = some (bI (isBl c)) := by decide +kernel
theorem cLt : ∀ c, c < 256 → F_Rd_isLetter (nI c) = some (bI (isLt c)) := by decide +kernel
theorem cDg : ∀ c, c < 256 → F_Rd_isDigit (nI c) = some (bI (isDg c)) := by decide +kernel
theorem mLt : ∀ c, c < 256 → F_m_isLetter (nI c) = some (bI (isLt c)) := by decide +kernel
theorem mDg : ∀ c, c < 256 → F_m_isDigit (nI c) = some (bI (isDg c)) := by decide +kernel
theorem mMk : ∀ c, c < 256 → F_m_isMark (nI c) = some (bI (isMk c)) := by decide +kernel
theorem mBl : ∀ c, c < 256 → isBl c = false → ¬ nI c = 32 ∧ ¬ nI c = 10 ∧ ¬ nI c = -1 := by decide +kernel
theorem mBt : ∀ c, c < 256 → isBl c = true → nI c = 32 ∨ nI c = 10 := by decide +kernel
theorem m1Lt : F_m_isLetter (-1) = some (bI false) := by decide +kernel
theorem m1Dg : F_m_isDigit (-1) = some (bI false) := by decide +kernel
theorem bF {b : Bool} (h : b = false) : bI b = 0 := by rw [bI_z]; exact h
theorem bT {b : Bool} (h : b = true) : ¬ bI b = 0 := by rw [bI_z, h]; decide
section
variable {y : Nat → Nat} {n : Nat} {S T M : Sto}
theorem LxC.fr {a b d e g : List Nat} (h : LxC y n S) (q : Fr a b d e g S T) (h1 : 10 ∉ a ∧ 8 ∉ a) (h2 : 2 ∉ d) : LxC y n T := by
  unfold LxC at h ⊢
  rw [q.gi 10 h1.1, q.ai 2 h2, q.gi 8 h1.2]
  exact h
theorem LxM.fr {a b d e g : List Nat} (h : LxM y n S) (q : Fr a b d e g S T) (h1 : 1005 ∉ a ∧ 1012 ∉ a) (h2 : 1011 ∉ d) : LxM y n T := by
  unfold LxM at h ⊢
  rw [q.gi 1005 h1.1, q.ai 1011 h2, q.gi 1012 h1.2]
  exact h
theorem LxC.s (h : LxC y n S) {k : Nat} {v : Int32} (hk : ¬ 10 = k ∧ ¬ 8 = k) : LxC y n (si S k v) := by
  unfold LxC at h ⊢
  rw [gi_si, if_neg hk.1, gi_si, if_neg hk.2]
  exact h
theorem LxM.s (h : LxM y n S) {k : Nat} {v : Int32} (hk : ¬ 1005 = k ∧ ¬ 1012 = k) : LxM y n (si S k v) := by
  unfold LxM at h ⊢
  rw [gi_si, if_neg hk.1, gi_si, if_neg hk.2]
  exact h
theorem byC (h : LxC y n S) {p : Nat} (hp : p < n) : F_Rd_byteAt (nI p) S = some (nI (y p)) := by
  have h5 := h.1
  unfold F_Rd_byteAt
  rw [if_neg (nI_pos (by omega)), h.2.1, if_neg (nI_ge hp (by omega)), (show (500 : Int32) = nI 500 from rfl), if_neg (nI_ge (by omega) (by decide)), ck_t (ib_nI (by omega) (by omega)), nI_clamp (by omega), (h.2.2.1 p hp).1]
theorem byM (h : LxM y n M) {p : Nat} (hp : p < n) : F_m_byteAt (nI p) M = some (nI (y p)) := by
  have h5 := h.1
  unfold F_m_byteAt
  rw [h.2.1, if_neg (nI_ge hp (by omega)), ck_t (ib_nI (by omega) (by omega)), nI_clamp (by omega), (h.2.2.1 p hp).1]
theorem byMe (h : LxM y n M) : F_m_byteAt (nI n) M = some (-1) := by
  have h5 := h.1
  unfold F_m_byteAt
  rw [h.2.1, if_pos (nI_le (Nat.le_refl _) (by omega))]
theorem run_ex (P : Nat → Bool) (n : Nat) : ∀ j p, p + j = n → ∃ b, p ≤ b ∧ b ≤ n ∧ (∀ i, p ≤ i → i < b → P i = true) ∧ (b = n ∨ P b = false) := by
  intro j
  induction j with
  | zero => intro p hp; exact ⟨p, Nat.le_refl _, by omega, fun i i1 i2 => by omega, Or.inl (by omega)⟩
  | succ j ih =>
    intro p hp
    cases q : P p
    · exact ⟨p, Nat.le_refl _, by omega, fun i i1 i2 => by omega, Or.inr q⟩
    · obtain ⟨b, b1, b2, b3, b4⟩ := ih (p + 1) (by omega)
      refine ⟨b, by omega, b2, fun i i1 i2 => ?_, b4⟩
      by_cases w : i = p
      · rw [w]; exact q
      · exact b3 i (by omega) i2
theorem skC {b : Nat} (hb : b ≤ n) (hbe : b = n ∨ isBl (y b) = false) : ∀ (j k p : Nat) (S : Sto), p + j = b → j < k → LxC y n S → gi S 11 = nI p → (∀ i, p ≤ i → i < b → isBl (y i) = true) → ∃ S', F_Rd_nextToken_0 k S = F_Rd_nextToken_38 S' ∧ Fr [11] [] [] [] [] S S' ∧ gi S' 11 = nI b := by
  intro j
  induction j with
  | zero =>
    intro k p S hp hk hT h11 hB
    obtain ⟨k, rfl⟩ : ∃ q, k = q + 1 := ⟨k - 1, by omega⟩
    have : p = b := by omega
    subst this
    have h5 := hT.1
    refine ⟨S, ?_, Fr.rfl, h11⟩
    rw [F_Rd_nextToken_0, h11, hT.2.1]
    by_cases w : p = n
    · rw [if_pos (nI_le (by omega) (by omega))]
    · rcases hbe with q | q
      · exact absurd q w
      · rw [if_neg (nI_ge (by omega) (by omega)), byC hT (by omega), b1_s, cBl _ (hT.2.2.1 p (by omega)).2, b1_s, if_pos (bF q)]
  | succ j ih =>
    intro k p S hp hk hT h11 hB
    obtain ⟨k, rfl⟩ : ∃ q, k = q + 1 := ⟨k - 1, by omega⟩
    have h5 := hT.1
    have f1 : Fr [11] [] [] [] [] S (si S 11 (nI (p + 1))) := Fr.rfl.si (by decide)
    obtain ⟨U, u1, u2, u3⟩ := ih k (p + 1) _ (by omega) (by omega) (hT.fr f1 (by decide) (by decide)) rfl (fun i i1 i2 => hB i (by omega) i2)
    refine ⟨U, ?_, f1.trans u2, u3⟩
    rw [F_Rd_nextToken_0, h11, hT.2.1, if_neg (nI_ge (by omega) (by omega)), byC hT (by omega), b1_s, cBl _ (hT.2.2.1 p (by omega)).2, b1_s, if_neg (bT (hB p (Nat.le_refl _) (by omega))), show nI p + (1 : Int32) = nI (p + 1) from nI_add p 1]
    exact u1
theorem wdC {b : Nat} (hb : b ≤ n) (hbe : b = n ∨ isLt (y b) = false) : ∀ (j k p : Nat) (S : Sto), p + j = b → j < k → LxC y n S → gi S 11 = nI p → (∀ i, p ≤ i → i < b → isLt (y i) = true) → ∃ S', F_Rd_nextToken_102 k S = some ((), S') ∧ Fr [11] [] [] [] [] S S' ∧ gi S' 11 = nI b := by
  intro j
  induction j with
  | zero =>
    intro k p S hp hk hT h11 hB
    obtain ⟨k, rfl⟩ : ∃ q, k = q + 1 := ⟨k - 1, by omega⟩
    have : p = b := by omega
    subst this
    have h5 := hT.1
    refine ⟨S, ?_, Fr.rfl, h11⟩
    rw [F_Rd_nextToken_102, h11, hT.2.1]
    by_cases w : p = n
    · rw [if_pos (nI_le (by omega) (by omega))]
    · rcases hbe with q | q
      · exact absurd q w
      · rw [if_neg (nI_ge (by omega) (by omega)), byC hT (by omega), b1_s, cLt _ (hT.2.2.1 p (by omega)).2, b1_s, if_pos (bF q)]
  | succ j ih =>
    intro k p S hp hk hT h11 hB
    obtain ⟨k, rfl⟩ : ∃ q, k = q + 1 := ⟨k - 1, by omega⟩
    have h5 := hT.1
    have f1 : Fr [11] [] [] [] [] S (si S 11 (nI (p + 1))) := Fr.rfl.si (by decide)
    obtain ⟨U, u1, u2, u3⟩ := ih k (p + 1) _ (by omega) (by omega) (hT.fr f1 (by decide) (by decide)) rfl (fun i i1 i2 => hB i (by omega) i2)
    refine ⟨U, ?_, f1.trans u2, u3⟩
    rw [F_Rd_nextToken_102, h11, hT.2.1, if_neg (nI_ge (by omega) (by omega)), byC hT (by omega), b1_s, cLt _ (hT.2.2.1 p (by omega)).2, b1_s, if_neg (bT (hB p (Nat.le_refl _) (by omega))), show nI p + (1 : Int32) = nI (p + 1) from nI_add p 1]
    exact u1
def nv (y : Nat → Nat) (b : Nat) : Nat → Nat
  | 0 => 0
  | j + 1 => nv y b j * 10 + (y (b + j) - 48)
theorem dgt_at {c : Nat} (h : isDg c = true) : 48 ≤ c ∧ c ≤ 57 := of_decide_eq_true h
theorem nv_lt {b : Nat} : ∀ j, (∀ i, i < j → isDg (y (b + i)) = true) → nv y b j < 10 ^ j := by
  intro j
  induction j with
  | zero => intro _; exact Nat.one_pos
  | succ j ih =>
    intro h
    have h1 := ih (fun i hi => h i (by omega))
    have h2 := dgt_at (h j (by omega))
    rw [nv, Nat.pow_succ]
    omega
theorem nv_4 {b j : Nat} (hj : j ≤ 4) (h : ∀ i, i < j → isDg (y (b + i)) = true) : nv y b j ≤ 9999 := by
  have h1 := nv_lt j h
  have h2 : 10 ^ j ≤ 10 ^ 4 := Nat.pow_le_pow_right (by decide) hj
  omega
theorem dgI {v c : Nat} (h : 48 ≤ c) : (nI v * (10 : Int32) + nI c) - (48 : Int32) = nI (v * 10 + (c - 48)) := by
  rw [(show (10 : Int32) = nI 10 from rfl), (show (48 : Int32) = nI 48 from rfl), pk_mul, nI_add, sub_nI (by omega)]
  exact congrArg nI (by omega)
theorem dgI2 {v c : Nat} (h : 48 ≤ c) : ((10 : Int32) * nI v + nI c) - (48 : Int32) = nI (v * 10 + (c - 48)) := by
  rw [(show (10 : Int32) = nI 10 from rfl), (show (48 : Int32) = nI 48 from rfl), pk_mul, nI_add, sub_nI (by omega)]
  exact congrArg nI (by omega)
theorem t215 (k : Sto → Option (Unit × Sto)) (s : Int32) (S : Sto) : F_Rd_nextToken_215 k s S = k (si (si (si S 15 s) 16 (gi S 16 + 1)) 11 (gi S 11 + 1)) := rfl
theorem nmC {b a : Nat} (ha : a ≤ n) (hae : a = n ∨ isDg (y a) = false) (hD : ∀ i, b ≤ i → i < a → isDg (y i) = true) : ∀ (j k p : Nat) (S : Sto), p + j = a → j < k → LxC y n S → gi S 11 = nI p → b ≤ p → gi S 16 = nI (p - b) → gi S 15 = nI (nv y b (min 4 (p - b))) → ∃ S', F_Rd_nextToken_155 k S = some ((), S') ∧ Fr [11, 15, 16] [] [] [] [] S S' ∧ gi S' 11 = nI a ∧ gi S' 16 = nI (a - b) ∧ gi S' 15 = nI (nv y b (min 4 (a - b))) := by
  intro j
  induction j with
  | zero =>
    intro k p S hp hk hT h11 hbp h16 h15
    obtain ⟨k, rfl⟩ : ∃ q, k = q + 1 := ⟨k - 1, by omega⟩
    have : p = a := by omega
    subst this
    have h5 := hT.1
    refine ⟨S, ?_, Fr.rfl, h11, h16, h15⟩
    rw [F_Rd_nextToken_155, h11, hT.2.1]
    by_cases w : p = n
    · rw [if_pos (nI_le (by omega) (by omega))]
    · rcases hae with q | q
      · exact absurd q w
      · rw [if_neg (nI_ge (by omega) (by omega)), byC hT (by omega), b1_s, cDg _ (hT.2.2.1 p (by omega)).2, b1_s, if_pos (bF q)]
  | succ j ih =>
    intro k p S hp hk hT h11 hbp h16 h15
    obtain ⟨k, rfl⟩ : ∃ q, k = q + 1 := ⟨k - 1, by omega⟩
    have h5 := hT.1
    have hd := hD p hbp (by omega)
    have go : ∀ x : Int32, x = nI (nv y b (min 4 (p + 1 - b))) → ∃ S', F_Rd_nextToken_215 (F_Rd_nextToken_155 k) x S = some ((), S') ∧ Fr [11, 15, 16] [] [] [] [] S S' ∧ gi S' 11 = nI a ∧ gi S' 16 = nI (a - b) ∧ gi S' 15 = nI (nv y b (min 4 (a - b))) := by
      intro x hx
      rw [t215, h16, h11, show nI (p - b) + (1 : Int32) = nI (p - b + 1) from nI_add _ 1, show nI p + (1 : Int32) = nI (p + 1) from nI_add p 1]
      have f1 : Fr [11, 15, 16] [] [] [] [] S (si (si (si S 15 x) 16 (nI (p - b + 1))) 11 (nI (p + 1))) := ((Fr.rfl.si (by decide)).si (by decide)).si (by decide)
      obtain ⟨U, u1, u2, u3⟩ := ih k (p + 1) _ (by omega) (by omega) (hT.fr f1 (by decide) (by decide)) rfl (by omega) (show nI (p - b + 1) = nI (p + 1 - b) from congrArg nI (by omega)) hx
      exact ⟨U, u1, f1.trans u2, u3⟩
    rw [F_Rd_nextToken_155, h11, hT.2.1, if_neg (nI_ge (by omega) (by omega)), byC hT (by omega), b1_s, cDg _ (hT.2.2.1 p (by omega)).2, b1_s, if_neg (bT hd), h16, (show (4 : Int32) = nI 4 from rfl)]
    by_cases w : 4 ≤ p - b
    · rw [if_pos (nI_le w (by omega)), h15]
      refine go _ ?_
      rw [show min 4 (p - b) = 4 by omega, show min 4 (p + 1 - b) = 4 by omega]
    · rw [if_neg (nI_ge (by omega) (by decide)), b1_s, h15, dgI (dgt_at hd).1]
      refine go _ (congrArg nI ?_)
      rw [show min 4 (p - b) = p - b by omega, show min 4 (p + 1 - b) = (p - b) + 1 by omega, nv, show b + (p - b) = p by omega]
/-! the model's -/
theorem skM {b : Nat} (hb : b ≤ n) : ∀ (j k p : Nat) (M : Sto), p + j = b → j < k → LxM y n M → gi M 1004 = nI p → (∀ i, p ≤ i → i < b → isBl (y i) = true) → ∃ M' k', F_m_stepOn_0 k M = F_m_stepOn_0 (k' + 1) M' ∧ Fr [1004] [] [] [] [] M M' ∧ gi M' 1004 = nI b := by
  intro j
  induction j with
  | zero =>
    intro k p M hp hk hT h4 hB
    obtain ⟨k, rfl⟩ : ∃ q, k = q + 1 := ⟨k - 1, by omega⟩
    have : p = b := by omega
    subst this
    exact ⟨M, k, rfl, Fr.rfl, h4⟩
  | succ j ih =>
    intro k p M hp hk hT h4 hB
    obtain ⟨k, rfl⟩ : ∃ q, k = q + 1 := ⟨k - 1, by omega⟩
    have f1 : Fr [1004] [] [] [] [] M (si M 1004 (nI (p + 1))) := Fr.rfl.si (by decide)
    obtain ⟨U, k', u1, u2, u3⟩ := ih k (p + 1) _ (by omega) (by omega) (hT.fr f1 (by decide) (by decide)) rfl (fun i i1 i2 => hB i (by omega) i2)
    refine ⟨U, k', ?_, f1.trans u2, u3⟩
    have e26 : F_m_stepOn_26 (F_m_stepOn_0 k) M = F_m_stepOn_0 k (si M 1004 (nI (p + 1))) := by
      unfold F_m_stepOn_26
      rw [h4, show nI p + (1 : Int32) = nI (p + 1) from nI_add p 1]
    rw [F_m_stepOn_0, h4, byM hT (by omega), b1_s, e26]
    rcases mBt _ (hT.2.2.1 p (by omega)).2 (hB p (Nat.le_refl _) (by omega)) with q | q
    · rw [q, if_pos rfl]; exact u1
    · rw [q, if_neg (by decide), b1_s, if_pos rfl]; exact u1
theorem t212 (M : Sto) : F_m_stepOn_212 M = some ((), si M 1009 (gi M 1004)) := rfl
theorem wdM {a : Nat} (ha : a ≤ n) (hae : a = n ∨ isLt (y a) = false) : ∀ (j k p : Nat) (M : Sto), p + j = a → j < k → LxM y n M → gi M 1004 = nI p → (∀ i, p ≤ i → i < a → isLt (y i) = true) → ∃ M', F_m_stepOn_76 k M = some ((), M') ∧ Fr [1004, 1006, 1009] [] [] [] [] M M' ∧ gi M' 1004 = nI a ∧ gi M' 1009 = nI a ∧ gi M' 1006 = 1 := by
  intro j
  induction j with
  | zero =>
    intro k p M hp hk hT h4 hB
    obtain ⟨k, rfl⟩ : ∃ q, k = q + 1 := ⟨k - 1, by omega⟩
    have : p = a := by omega
    subst this
    refine ⟨si (si M 1006 1) 1009 (gi M 1004), ?_, (Fr.rfl.si (by decide)).si (by decide), h4, h4, rfl⟩
    have e0 : some ((), si (si M 1006 1) 1009 (gi M 1004)) = F_m_stepOn_212 (si M 1006 1) := rfl
    rw [e0, F_m_stepOn_76, h4]
    by_cases w : p = n
    · rw [w, byMe hT, b1_s, m1Lt, b1_s, if_pos (show bI false = 0 from rfl)]
    · rcases hae with q | q
      · exact absurd q w
      · rw [byM hT (by omega), b1_s, mLt _ (hT.2.2.1 p (by omega)).2, b1_s, if_pos (bF q)]
  | succ j ih =>
    intro k p M hp hk hT h4 hB
    obtain ⟨k, rfl⟩ : ∃ q, k = q + 1 := ⟨k - 1, by omega⟩
    have f1 : Fr [1004, 1006, 1009] [] [] [] [] M (si M 1004 (nI (p + 1))) := Fr.rfl.si (by decide)
    obtain ⟨U, u1, u2, u3⟩ := ih k (p + 1) _ (by omega) (by omega) (hT.fr f1 (by decide) (by decide)) rfl (fun i i1 i2 => hB i (by omega) i2)
    refine ⟨U, ?_, f1.trans u2, u3⟩
    rw [F_m_stepOn_76, h4, byM hT (by omega), b1_s, mLt _ (hT.2.2.1 p (by omega)).2, b1_s, if_neg (bT (hB p (Nat.le_refl _) (by omega))), show nI p + (1 : Int32) = nI (p + 1) from nI_add p 1]
    exact u1
theorem nmM {b a : Nat} (ha : a ≤ n) (hae : a = n ∨ isDg (y a) = false) (hD : ∀ i, b ≤ i → i < a → isDg (y i) = true) : ∀ (j k p : Nat) (M : Sto), p + j = a → j < k → LxM y n M → gi M 1004 = nI p → b ≤ p → (p - b ≤ 4 → gi M 1007 = nI (nv y b (p - b))) → ∃ M', F_m_stepOn_123 k M = some ((), M') ∧ Fr [1004, 1006, 1007, 1009] [] [] [] [] M M' ∧ gi M' 1004 = nI a ∧ gi M' 1009 = nI a ∧ gi M' 1006 = 2 ∧ (a - b ≤ 4 → gi M' 1007 = nI (nv y b (a - b))) := by
  intro j
  induction j with
  | zero =>
    intro k p M hp hk hT h4 hbp h7
    obtain ⟨k, rfl⟩ : ∃ q, k = q + 1 := ⟨k - 1, by omega⟩
    have : p = a := by omega
    subst this
    refine ⟨si (si M 1006 2) 1009 (gi M 1004), ?_, (Fr.rfl.si (by decide)).si (by decide), h4, h4, rfl, h7⟩
    have e0 : some ((), si (si M 1006 2) 1009 (gi M 1004)) = F_m_stepOn_212 (si M 1006 2) := rfl
    rw [e0, F_m_stepOn_123, h4]
    by_cases w : p = n
    · rw [w, byMe hT, b1_s, m1Dg, b1_s, if_pos (show bI false = 0 from rfl)]
    · rcases hae with q | q
      · exact absurd q w
      · rw [byM hT (by omega), b1_s, mDg _ (hT.2.2.1 p (by omega)).2, b1_s, if_pos (bF q)]
  | succ j ih =>
    intro k p M hp hk hT h4 hbp h7
    obtain ⟨k, rfl⟩ : ∃ q, k = q + 1 := ⟨k - 1, by omega⟩
    have hd := hD p hbp (by omega)
    have hd2 := dgt_at hd
    generalize hx : mnI (100000 : Int32) ((((10 : Int32) * (gi M 1007)) + nI (y p)) - (48 : Int32)) = x
    have f1 : Fr [1004, 1006, 1007, 1009] [] [] [] [] M (si (si M 1007 x) 1004 (nI (p + 1))) := (Fr.rfl.si (by decide)).si (by decide)
    have hx2 : p + 1 - b ≤ 4 → x = nI (nv y b (p + 1 - b)) := by
      intro w
      have h10 := nv_4 (y := y) (b := b) (j := p + 1 - b) w (fun i hi => hD (b + i) (by omega) (by omega))
      have e : nv y b (p + 1 - b) = nv y b (p - b) * 10 + (y p - 48) := by
        rw [show p + 1 - b = (p - b) + 1 by omega, nv, show b + (p - b) = p by omega]
      rw [← hx, h7 (by omega), dgI2 hd2.1, ← e, show (100000 : Int32) = nI 100000 from rfl, mniN (by decide) (by omega)]
      exact congrArg nI (by omega)
    obtain ⟨U, u1, u2, u3⟩ := ih k (p + 1) _ (by omega) (by omega) (hT.fr f1 (by decide) (by decide)) rfl (by omega) hx2
    refine ⟨U, ?_, f1.trans u2, u3⟩
    have e4 : gi (si M 1007 x) 1004 = nI p := h4
    rw [F_m_stepOn_123, h4, byM hT (by omega), b1_s, mDg _ (hT.2.2.1 p (by omega)).2, b1_s, if_neg (bT hd), b1_s, hx, e4, show nI p + (1 : Int32) = nI (p + 1) from nI_add p 1]
    exact u1
/-- the token that lies from b on to a: 0 the end, 1 a word, 2 a number, 3 a sign -/
def Tk (y : Nat → Nat) (n b a k : Nat) (S M : Sto) : Prop := LxC y n S ∧ LxM y n M ∧ gi S 9 = 0 ∧ gi M 1010 = 0 ∧ gi S 11 = nI a ∧ gi M 1004 = nI a ∧ gi M 1009 = nI a ∧ gi S 13 = nI b ∧ gi M 1008 = nI b ∧ gi S 12 = nI k ∧ b ≤ n ∧ a ≤ n ∧
  ((k = 0 ∧ gi M 1006 = 0 ∧ b = n ∧ a = n) ∨ (k = 1 ∧ gi M 1006 = 1 ∧ b < a) ∨ (k = 2 ∧ gi M 1006 = 2 ∧ b < a ∧ gi S 16 = nI (a - b) ∧ (a - b ≤ 4 → ∃ v, v ≤ 9999 ∧ gi S 15 = nI v ∧ gi M 1007 = nI v)) ∨
    (k = 3 ∧ a = b + 1 ∧ gi S 14 = nI (y b) ∧ gi M 1006 = if isMk (y b) = true then 3 else 4))
abbrev tE (S : Sto) (b : Nat) (r : Int32) : Sto := si (si (si (si S 13 (nI b)) 14 r) 15 0) 16 0
theorem t38 {b : Nat} {r : Int32} (h11 : gi S 11 = nI b) (hr : F_Rd_byteAt (nI b) (si S 13 (nI b)) = some r) : F_Rd_nextToken_38 S = if nI b < gi S 10 then b1 (F_Rd_isLetter r) (fun r3 => if r3 = 0 then b1 (F_Rd_isDigit r) (fun r5 => if r5 = 0 then some ((), si (si (tE S b r) 12 3) 11 (nI b + 1)) else F_Rd_nextToken_155 FU (si (tE S b r) 12 2)) else F_Rd_nextToken_102 FU (si (tE S b r) 12 1)) else some ((), si (tE S b r) 12 0) := by
  unfold F_Rd_nextToken_38
  have e0 : gi (si S 13 (nI b)) 11 = nI b := h11
  have e1 : gi (tE S b r) 11 = nI b := h11
  have e2 : gi (si (tE S b r) 12 3) 11 = nI b := h11
  rw [h11, e0, hr, b1_s, e1, e2]
  rfl
theorem step_ok (hC : LxC y n S) (hM : LxM y n M) {p : Nat} (hp : p ≤ n) (s9 : gi S 9 = 0) (m10 : gi M 1010 = 0) (s11 : gi S 11 = nI p) (m4 : gi M 1004 = nI p) : ∃ b a k S' M', F_Rd_nextToken S = some ((), S') ∧ F_m_stepOn M = some ((), M') ∧ lC S S' ∧ lM M M' ∧ p ≤ b ∧ Tk y n b a k S' M' := by
  have h5 := hC.1
  have hFU : FU = 1099511627775 + 1 := rfl
  obtain ⟨b, b1', b2', b3', b4'⟩ := run_ex (fun i => isBl (y i)) n (n - p) p (by omega)
  obtain ⟨S1, c1, c2, c3⟩ := skC b2' b4' (b - p) FU p S (by omega) (by rw [FU_v]; omega) hC s11 b3'
  obtain ⟨M1, k', d1, d2, d3⟩ := skM b2' (b - p) FU p M (by omega) (by rw [FU_v]; omega) hM m4 b3'
  have hC1 := hC.fr c2 (by decide) (by decide)
  have hM1 := hM.fr d2 (by decide) (by decide)
  have n9 : gi S1 9 = 0 := (c2.gi 9 (by decide)).trans s9
  have n10 : gi M1 1010 = 0 := (d2.gi 1010 (by decide)).trans m10
  have eM : gi (si M1 1008 (nI b)) 1004 = nI b := d3
  have cE : ∀ r k2, lC S (si (tE S1 b r) 12 k2) := fun r k2 => (c2.mono (by decide) (by decide) (by decide) (by decide) (by decide)).trans (((((Fr.rfl.si (by decide)).si (by decide)).si (by decide)).si (by decide)).si (by decide))
  have dE : lM M (si M1 1008 (nI b)) := (d2.mono (by decide) (by decide) (by decide) (by decide) (by decide)).trans (Fr.rfl.si (by decide))
  unfold F_Rd_nextToken F_m_stepOn
  rw [c1, d1]
  rcases Nat.eq_or_lt_of_le b2' with q | q
  · subst q
    have hby : F_Rd_byteAt (nI b) (si S1 13 (nI b)) = some (-1) := by
      unfold F_Rd_byteAt
      rw [if_neg (nI_pos (by omega)), show gi (si S1 13 (nI b)) 10 = nI b from hC1.2.1, if_pos (nI_le (Nat.le_refl _) (by omega))]
    rw [t38 c3 hby, hC1.2.1, if_neg (fun w => by rw [lt_nI (by omega) (by omega)] at w; omega)]
    have hm2 : F_m_byteAt (nI b) (si M1 1008 (nI b)) = some (-1) := byMe (hM1.s (by decide))
    refine ⟨b, b, 0, _, si (si (si M1 1008 (nI b)) 1006 0) 1009 (nI b), rfl, ?_, cE _ _, dE.trans ((Fr.rfl.si (by decide)).si (by decide)), b1', hC.fr (cE (-1) 0) (by decide) (by decide), hM.fr (dE.trans ((Fr.rfl.si (j := 1006) (v := 0) (by decide)).si (j := 1009) (v := nI b) (by decide))) (by decide) (by decide), n9, n10, c3, d3, rfl, rfl, rfl, rfl, Nat.le_refl _, Nat.le_refl _, Or.inl ⟨rfl, rfl, rfl, rfl⟩⟩
    rw [F_m_stepOn_0, d3, byMe hM1, b1_s, if_neg (by decide), b1_s, if_neg (by decide), eM, hm2, b1_s, if_pos rfl, t212]
    exact congrArg (fun q => some ((), si (si (si M1 1008 (nI b)) 1006 0) 1009 q)) d3
  · have hyb := (hC1.2.2.1 b q).2
    have hbl : isBl (y b) = false := by
      rcases b4' with w | w
      · omega
      · exact w
    obtain ⟨z1, z2, z3⟩ := mBl _ hyb hbl
    have hby : F_Rd_byteAt (nI b) (si S1 13 (nI b)) = some (nI (y b)) := byC (hC1.s (by decide)) q
    have hm2 : F_m_byteAt (nI b) (si M1 1008 (nI b)) = some (nI (y b)) := byM (hM1.s (by decide)) q
    rw [t38 c3 hby, hC1.2.1, if_pos (nI_lt q (by omega)), cLt _ hyb, b1_s, cDg _ hyb, b1_s, F_m_stepOn_0, d3, byM hM1 q, b1_s, if_neg z1, b1_s, if_neg z2, eM, hm2, b1_s, if_neg z3, mLt _ hyb, b1_s, mDg _ hyb, b1_s, mMk _ hyb, b1_s]
    cases l : isLt (y b)
    · rw [if_pos (show bI false = 0 from rfl), if_pos (show bI false = 0 from rfl)]
      cases g : isDg (y b)
      · rw [if_pos (show bI false = 0 from rfl), if_pos (show bI false = 0 from rfl), show nI b + (1 : Int32) = nI (b + 1) from nI_add b 1]
        have key : ∀ (v : Int32), v = (if isMk (y b) = true then 3 else 4) → ∃ b' a k S' M', some ((), si (si (tE S1 b (nI (y b))) 12 3) 11 (nI (b + 1))) = some ((), S') ∧ F_m_stepOn_209 v (si (si M1 1008 (nI b)) 1004 (nI (b + 1))) = some ((), M') ∧ lC S S' ∧ lM M M' ∧ p ≤ b' ∧ Tk y n b' a k S' M' := by
          intro v hv
          have fC : lC S (si (si (tE S1 b (nI (y b))) 12 3) 11 (nI (b + 1))) := (cE _ _).si (by decide)
          have fM : lM M (si (si (si (si M1 1008 (nI b)) 1004 (nI (b + 1))) 1006 v) 1009 (nI (b + 1))) := ((dE.si (by decide)).si (by decide)).si (by decide)
          exact ⟨b, b + 1, 3, _, _, rfl, rfl, fC, fM, b1', hC.fr fC (by decide) (by decide), hM.fr fM (by decide) (by decide), n9, n10, rfl, rfl, rfl, rfl, rfl, rfl, b2', q, Or.inr (Or.inr (Or.inr ⟨rfl, rfl, rfl, hv⟩))⟩
        cases m : isMk (y b)
        · rw [if_pos (show bI false = 0 from rfl)]
          exact key 4 (by rw [m]; rfl)
        · rw [if_neg (show ¬ bI true = 0 by decide)]
          exact key 3 (by rw [m]; rfl)
      · rw [if_neg (show ¬ bI true = 0 by decide), if_neg (show ¬ bI true = 0 by decide)]
        obtain ⟨a, a1, a2, a3, a4⟩ := run_ex (fun i => isDg (y i)) n (n - b) b (by omega)
        have hba : b < a := by
          rcases Nat.eq_or_lt_of_le a1 with w | w
          · subst w
            rcases a4 with w | w
            · omega
            · rw [g] at w; cases w
          · exact w
        have fS := cE (nI (y b)) 2
        obtain ⟨S2, p1, p2, p3, p4, p5⟩ := nmC (b := b) a2 a4 a3 (a - b) FU b (si (tE S1 b (nI (y b))) 12 2) (by omega) (by rw [FU_v]; omega) (hC.fr fS (by decide) (by decide)) c3 (Nat.le_refl _) (show nI 0 = nI (b - b) by rw [Nat.sub_self]) (show nI 0 = nI (nv y b (min 4 (b - b))) by rw [Nat.sub_self]; rfl)
        have fM : lM M (si (si M1 1008 (nI b)) 1007 0) := dE.si (by decide)
        obtain ⟨M2, r1, r2, r3, r4, r5, r6⟩ := nmM (b := b) a2 a4 a3 (a - b) FU b (si (si M1 1008 (nI b)) 1007 0) (by omega) (by rw [FU_v]; omega) (hM.fr fM (by decide) (by decide)) d3 (Nat.le_refl _) (fun _ => show nI 0 = nI (nv y b (b - b)) by rw [Nat.sub_self]; rfl)
        have gC : lC S S2 := fS.trans (p2.mono (by decide) (by decide) (by decide) (by decide) (by decide))
        have gM : lM M M2 := fM.trans (r2.mono (by decide) (by decide) (by decide) (by decide) (by decide))
        refine ⟨b, a, 2, S2, M2, p1, r1, gC, gM, b1', hC.fr gC (by decide) (by decide), hM.fr gM (by decide) (by decide), (gC.gi 9 (by decide)).trans s9, (gM.gi 1010 (by decide)).trans m10, p3, r3, r4, ?_, ?_, ?_, b2', a2, Or.inr (Or.inr (Or.inl ⟨rfl, r5, hba, p4, fun w => ⟨nv y b (a - b), nv_4 w (fun i hi => a3 (b + i) (by omega) (by omega)), ?_, r6 w⟩⟩))⟩
        · exact (p2.gi 13 (by decide)).trans rfl
        · exact (r2.gi 1008 (by decide)).trans rfl
        · exact (p2.gi 12 (by decide)).trans rfl
        · rw [p5, show min 4 (a - b) = a - b by omega]
    · rw [if_neg (show ¬ bI true = 0 by decide), if_neg (show ¬ bI true = 0 by decide)]
      obtain ⟨a, a1, a2, a3, a4⟩ := run_ex (fun i => isLt (y i)) n (n - b) b (by omega)
      have hba : b < a := by
        rcases Nat.eq_or_lt_of_le a1 with w | w
        · subst w
          rcases a4 with w | w
          · omega
          · rw [l] at w; cases w
        · exact w
      have fS := cE (nI (y b)) 1
      obtain ⟨S2, p1, p2, p3⟩ := wdC a2 a4 (a - b) FU b (si (tE S1 b (nI (y b))) 12 1) (by omega) (by rw [FU_v]; omega) (hC.fr fS (by decide) (by decide)) c3 a3
      obtain ⟨M2, r1, r2, r3, r4, r5⟩ := wdM a2 a4 (a - b) FU b (si M1 1008 (nI b)) (by omega) (by rw [FU_v]; omega) (hM.fr dE (by decide) (by decide)) d3 a3
      have gC : lC S S2 := fS.trans (p2.mono (by decide) (by decide) (by decide) (by decide) (by decide))
      have gM : lM M M2 := dE.trans (r2.mono (by decide) (by decide) (by decide) (by decide) (by decide))
      refine ⟨b, a, 1, S2, M2, p1, r1, gC, gM, b1', hC.fr gC (by decide) (by decide), hM.fr gM (by decide) (by decide), (gC.gi 9 (by decide)).trans s9, (gM.gi 1010 (by decide)).trans m10, p3, r3, r4, ?_, ?_, ?_, b2', a2, Or.inr (Or.inl ⟨rfl, r5, hba⟩)⟩
      · exact (p2.gi 13 (by decide)).trans rfl
      · exact (r2.gi 1008 (by decide)).trans rfl
      · exact (p2.gi 12 (by decide)).trans rfl
end
