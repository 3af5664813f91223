/-! ===== the model: telling apart ===== -/
def cgt (Z : Zt) (n k : Nat) : Nat := nb (fun b => catB Z k (b + 1)) n
theorem cgt_s (Z : Zt) (n k : Nat) : cgt Z (n + 1) k = cgt Z n k ||| (if catB Z k (n + 1) then 2 ^ n else 0) := rfl
theorem cgt_lt (Z : Zt) {n : Nat} (hn : n ≤ 60) (k : Nat) : cgt Z n k < 2 ^ 60 := Nat.lt_of_lt_of_le (nb_lt _ n) (Nat.pow_le_pow_right (by decide) hn)
def CgM (C : Nat → Nat) (N : Nat) (M : Sto) : Prop := ai M 1003 0 = nI N ∧ ∀ k, k < N → al M 1019 k = lN (C k)
def tF (C : Nat → Nat) (N h X k : Nat) : Bool := spl C X k && (tT C N h (X &&& C k) && tT C N h (ou X (C k)))
def fiN (p : Nat → Bool) : Nat → Nat → Int32
  | _, 0 => -1
  | i, j + 1 => if p i then nI i else fiN p (i + 1) j
theorem fiN_cong {p q : Nat → Bool} : ∀ (j i : Nat), (∀ k, i ≤ k → k < i + j → p k = q k) → fiN p i j = fiN q i j := by
  intro j
  induction j with
  | zero => intro i _; rfl
  | succ j ih =>
    intro i h
    rw [fiN, fiN, h i (Nat.le_refl _) (by omega), ih (i + 1) (fun k h1 h2 => h k (by omega) (by omega))]
section
variable {C : Nat → Nat} {N : Nat} {M : Sto}
theorem isF_ok (hC : ∀ k, C k < 2 ^ 60) (hN : N ≤ 8) (hc : CgM C N M) {rc : Int64 → Int32 → Sto → Option Int32} {h : Nat} (H : ∀ X, X < 2 ^ 60 → rc (lN X) (nI h) M = some (bI (tT C N h X))) {X k : Nat} (hX : X < 2 ^ 60) (hk : k < N) : F_m_isFirst rc (lN X) (nI k) (nI (h + 1)) M = some (bI (tF C N h X k)) := by
  have hCk := hC k
  have hin : X &&& C k < 2 ^ 60 := in_lt _ hX
  have hou : ou X (C k) < 2 ^ 60 := ou_lt _ hX
  unfold F_m_isFirst tF
  rw [ck_t (ib_nI (by omega) (by decide)), nI_clamp (by omega), hc.2 k hk, wb_and (by omega) (by omega)]
  by_cases s1 : X &&& C k = 0
  · rw [if_pos (by rw [s1]; rfl)]
    have : spl C X k = false := by unfold spl; rw [decide_eq_false (fun w => w s1)]; rfl
    rw [this]; rfl
  · rw [if_neg (by rw [(show (0 : Int64) = lN 0 from rfl), eq_lN (by omega) (by decide)]; exact s1)]
    by_cases s2 : X &&& C k = X
    · rw [if_pos (by rw [s2])]
      have : spl C X k = false := by unfold spl; rw [decide_eq_false (p := ¬ ou X (C k) = 0) (fun w => w (ou_z.mpr s2)), Bool.and_false]
      rw [this]; rfl
    · have : spl C X k = true := spl_iff.mpr ⟨s1, fun w => s2 (ou_z.mp w)⟩
      have n1 : nI (h + 1) - (1 : Int32) = nI h := (sub_nI (b := 1) (by omega)).trans (congrArg nI (by omega))
      rw [if_neg (by rw [eq_lN (by omega) (by omega)]; exact s2), n1, H _ hin, b1_s, ou_L, ou_in, this, Bool.true_and]
      cases tT C N h (X &&& C k)
      · rw [if_pos (by decide)]; rfl
      · rw [if_neg (by decide), H _ hou, b1_s, Bool.true_and]
        cases tT C N h (ou X (C k))
        · rw [if_pos (by decide)]; rfl
        · rw [if_neg (by decide)]; rfl
theorem ct_lp (hC : ∀ k, C k < 2 ^ 60) (hN : N ≤ 8) (hc : CgM C N M) {rc : Int64 → Int32 → Sto → Option Int32} {h : Nat} (hh : h ≤ 20) (H : ∀ X, X < 2 ^ 60 → rc (lN X) (nI h) M = some (bI (tT C N h X))) {X : Nat} (hX : X < 2 ^ 60) : ∀ (j n i : Nat), i + j = N → j < n → F_m_canTellb_33 rc n (lN X) (nI (h + 1)) (nI i) M = some (bI (anF (tF C N h X) i j)) := by
  intro j
  induction j with
  | zero =>
    intro n i hi hn
    obtain ⟨n, rfl⟩ : ∃ q, n = q + 1 := ⟨n - 1, by omega⟩
    rw [F_m_canTellb_33, show ai M 1003 (Int32.toNatClampNeg 0) = nI N from hc.1, if_pos (nI_le (by omega) (by omega))]
    rfl
  | succ j ih =>
    intro n i hi hn
    obtain ⟨n, rfl⟩ : ∃ q, n = q + 1 := ⟨n - 1, by omega⟩
    rw [F_m_canTellb_33, show ai M 1003 (Int32.toNatClampNeg 0) = nI N from hc.1, if_neg (nI_ge (by omega) (by omega)), if_neg (by rw [show (0 : Int32) = nI 0 from rfl, le_nI (by omega) (by decide)]; omega), isF_ok hC hN hc H hX (by omega), b1_s, anF]
    cases tF C N h X i
    · rw [if_pos (by decide), Bool.false_or, show nI i + (1 : Int32) = nI (i + 1) from nI_add i 1]
      exact ih n (i + 1) (by omega) (by omega)
    · rw [if_neg (by decide)]; rfl
theorem ct_ok (hC : ∀ k, C k < 2 ^ 60) (hN : N ≤ 8) (hc : CgM C N M) : ∀ (n h : Nat), h < n → h ≤ 20 → ∀ X, X < 2 ^ 60 → F_m_canTell n (lN X) (nI h) M = some (bI (tT C N h X)) := by
  intro n
  induction n with
  | zero => intro h hn; exact absurd hn (Nat.not_lt_zero _)
  | succ n ih =>
    intro h hn hh X hX
    have hp : pc X ≤ 60 := pc_lt hX (by decide)
    rw [F_m_canTell]
    unfold F_m_canTellb
    rw [bitsOf_ok (by omega), b1_s]
    by_cases w : pc X < 2
    · rw [if_neg (by rw [show (2 : Int32) = nI 2 from rfl, le_nI (by decide) (by omega)]; omega), tT_few w]; rfl
    · have body : F_m_canTellb_30 (F_m_canTell n) (lN X) (nI h) M = some (bI (tT C N h X)) := by
        unfold F_m_canTellb_30
        cases h with
        | zero =>
          rw [show F_m_canTellb_33 (F_m_canTell n) FU = F_m_canTellb_33 (F_m_canTell n) (1099511627775 + 1) from rfl, F_m_canTellb_33, tT, decide_eq_false w]
          by_cases q : ai M 1003 (Int32.toNatClampNeg 0) ≤ 0
          · rw [if_pos q]; rfl
          · rw [if_neg q, if_pos (show nI 0 ≤ 0 by decide)]; rfl
        | succ h =>
          have e := ct_lp hC hN hc (by omega) (fun X hX => ih h (by omega) (by omega) X hX) hX N FU 0 (Nat.zero_add _) (by rw [FU_v]; omega)
          rw [tT, decide_eq_false w, Bool.false_or]
          exact e
      rw [if_pos (by rw [show (2 : Int32) = nI 2 from rfl, le_nI (by decide) (by omega)]; omega), show (6 : Int32) = nI 6 from rfl]
      by_cases q : 6 ≤ h
      · rw [if_pos (nI_le q (by omega))]
        exact body
      · have p2 : 2 ^ h ≤ 32 := Nat.le_trans (Nat.pow_le_pow_right (by decide) (show h ≤ 5 by omega)) (by decide)
        rw [if_neg (by rw [le_nI (by decide) (by omega)]; exact q), sh1 (by omega)]
        by_cases u : pc X ≤ 2 ^ h
        · rw [if_pos (nI_le u (by omega))]
          exact body
        · rw [if_neg (by rw [le_nI (by omega) (by omega)]; exact u)]
          cases v : tT C N h X
          · rfl
          · exact absurd (tT_pc h X v) u
theorem m187 (hC : ∀ k, C k < 2 ^ 60) (hN : N ≤ 8) (hc : CgM C N M) {h : Nat} (hh : h ≤ 9) {X : Nat} (hX : X < 2 ^ 60) : ∀ (j n i : Nat), i + j = N → j < n → F_m_find_187 n (lN X) (nI (h + 1)) (nI i) M = some (fiN (tF C N h X) i j, M) := by
  intro j
  induction j with
  | zero =>
    intro n i hi hn
    obtain ⟨n, rfl⟩ : ∃ q, n = q + 1 := ⟨n - 1, by omega⟩
    rw [F_m_find_187, show ai M 1003 (Int32.toNatClampNeg 0) = nI N from hc.1, if_pos (nI_le (by omega) (by omega))]
    rfl
  | succ j ih =>
    intro n i hi hn
    obtain ⟨n, rfl⟩ : ∃ q, n = q + 1 := ⟨n - 1, by omega⟩
    rw [F_m_find_187, show ai M 1003 (Int32.toNatClampNeg 0) = nI N from hc.1, if_neg (nI_ge (by omega) (by omega)), if_neg (by rw [show (0 : Int32) = nI 0 from rfl, le_nI (by omega) (by decide)]; omega), isF_ok hC hN hc (ct_ok hC hN hc 12 h (by omega) (by omega)) hX (by omega), b1_s, fiN]
    cases tF C N h X i
    · rw [if_pos (by decide), if_neg (by decide), show nI i + (1 : Int32) = nI (i + 1) from nI_add i 1]
      exact ih n (i + 1) (by omega) (by omega)
    · rw [if_neg (by decide), if_pos rfl]
theorem m161 (hC : ∀ k, C k < 2 ^ 60) (hN : N ≤ 8) (hc : CgM C N M) {h0 : Nat} (hh : h0 ≤ 9) {X : Nat} (hX : X < 2 ^ 60) (ht : tT C N h0 X = true) (hf : ∀ h, h < h0 → ¬ tT C N h X = true) (x2 : Int32) : ∀ (j n h : Nat), h + j = h0 → j < n → F_m_find_161 n x2 (lN X) (nI h) M = if x2 = 0 then some (nI h0, M) else F_m_find_187 FU (lN X) (nI h0) 0 M := by
  intro j
  induction j with
  | zero =>
    intro n h hj hn
    obtain ⟨n, rfl⟩ : ∃ q, n = q + 1 := ⟨n - 1, by omega⟩
    have : h = h0 := by omega
    subst this
    rw [F_m_find_161, ct_ok hC hN hc 12 h (by omega) (by omega) X hX, b1_s, ht, if_neg (by decide)]
  | succ j ih =>
    intro n h hj hn
    obtain ⟨n, rfl⟩ : ∃ q, n = q + 1 := ⟨n - 1, by omega⟩
    have e : tT C N h X = false := by
      cases v : tT C N h X
      · rfl
      · exact absurd v (hf h (by omega))
    rw [F_m_find_161, ct_ok hC hN hc 12 h (by omega) (by omega) X hX, b1_s, e, if_pos (by decide), show nI h + (1 : Int32) = nI (h + 1) from nI_add h 1]
    exact ih n (h + 1) (by omega) (by omega)
end
/-! the nets are asked -/
section
variable {Z : Zt} {n : Nat}
abbrev fdF (S T : Sto) : Prop := Fr [] [] [] [1019] [] S T
theorem mfi_lp (hz : ZOk Z) {k : Nat} (hk : k < zN Z) (hn : n ≤ 60) (k40 : Int32 → Int32 → Int32 → Sto → Option (Int32 × Sto)) (x2 : Int32) : ∀ (j n' w : Nat) (M : Sto), w + j = n → j < n' → ZM Z M → al M 1019 k = lN (cgt Z w k) → ∃ M', F_m_find_60 k40 n' (nI n) x2 (nI k) (nI (w + 1)) M = k40 (nI n) x2 (nI (k + 1)) M' ∧ fdF M M' ∧ (∀ i, ¬ i = k → al M' 1019 i = al M 1019 i) ∧ al M' 1019 k = lN (cgt Z n k) := by
  have h8 := hz.1
  intro j
  induction j with
  | zero =>
    intro n' w M hw hn' hZ h
    obtain ⟨n', rfl⟩ : ∃ q, n' = q + 1 := ⟨n' - 1, by omega⟩
    have : w = n := by omega
    subst this
    refine ⟨M, ?_, Fr.rfl, fun _ _ => rfl, h⟩
    rw [F_m_find_60, if_pos (nI_lt (by omega) (by omega)), show nI k + (1 : Int32) = nI (k + 1) from nI_add k 1]
  | succ j ih =>
    intro n' w M hw hn' hZ h
    obtain ⟨n', rfl⟩ : ∃ q, n' = q + 1 := ⟨n' - 1, by omega⟩
    have n1 : nI (w + 1) + (1 : Int32) = nI (w + 1 + 1) := nI_add (w + 1) 1
    have n2 : nI (w + 1) - (1 : Int32) = nI w := (sub_nI (b := 1) (by omega)).trans (congrArg nI (by omega))
    rw [F_m_find_60, if_neg (by rw [lt_nI (by omega) (by omega)]; omega), i2l_nI (by omega), mcat_ok hz hZ (by omega) hk, b1_s]
    cases c : catB Z k (w + 1)
    · obtain ⟨U, u1, u2, u3, u4⟩ := ih n' (w + 1) M (by omega) (by omega) hZ (by rw [h, cgt_s, c, if_neg (by decide), Nat.or_zero])
      refine ⟨U, ?_, u2, u3, u4⟩
      rw [if_pos (by decide)]
      unfold F_m_find_92
      rw [n1]
      exact u1
    · have hlt := cgt_lt Z (show w ≤ 60 by omega) k
      have p2 : 2 ^ w < 2 ^ 60 := Nat.pow_lt_pow_right (by decide) (by omega)
      have f1 : fdF M (ul M 1019 (vp_updL (al M 1019) k (lN (cgt Z (w + 1) k)))) := Fr.rfl.ul (by decide)
      obtain ⟨U, u1, u2, u3, u4⟩ := ih n' (w + 1) _ (by omega) (by omega) (ZM_fr hZ f1 (by decide) (by decide)) (by
        show vp_updL (al M 1019) k (lN (cgt Z (w + 1) k)) k = _
        rw [updL_at, if_pos rfl])
      refine ⟨U, ?_, f1.trans u2, fun i hi => ?_, u4⟩
      · rw [if_neg (by decide), ck_t (ib_nI (by omega) (by decide)), ck_t (ib_nI (by omega) (by decide)), nI_clamp (by omega), h, n2, (show (1 : Int64) = lN 1 from rfl), wb_shl 1 (by omega), Nat.one_mul, wb_or (by omega) (by omega)]
        unfold F_m_find_92
        rw [n1]
        rw [cgt_s, c, if_pos rfl] at u1
        exact u1
      · rw [u3 i hi]
        show vp_updL (al M 1019) k _ i = _
        rw [updL_at, if_neg hi]
theorem mfo_lp (hz : ZOk Z) (hn : n ≤ 60) (x2 : Int32) : ∀ (j n' k : Nat) (M : Sto), k + j = zN Z → j < n' → ZM Z M → (∀ i, i < k → al M 1019 i = lN (cgt Z n i)) → ∃ M', F_m_find_40 n' (nI n) x2 (nI k) M = F_m_find_106 FU (nI n) x2 1 M' ∧ fdF M M' ∧ ∀ i, i < zN Z → al M' 1019 i = lN (cgt Z n i) := by
  have h8 := hz.1
  intro j
  induction j with
  | zero =>
    intro n' k M hk hn' hZ h
    obtain ⟨n', rfl⟩ : ∃ q, n' = q + 1 := ⟨n' - 1, by omega⟩
    refine ⟨M, ?_, Fr.rfl, fun i hi => h i (by omega)⟩
    rw [F_m_find_40, show ai M 1003 (Int32.toNatClampNeg 0) = nI (zN Z) from hZ.1, if_pos (nI_le (by omega) (by omega))]
  | succ j ih =>
    intro n' k M hk hn' hZ h
    obtain ⟨n', rfl⟩ : ∃ q, n' = q + 1 := ⟨n' - 1, by omega⟩
    have f1 : fdF M (ul M 1019 (vp_updL (al M 1019) k 0)) := Fr.rfl.ul (by decide)
    obtain ⟨T, t1, t2, t3, t4⟩ := mfi_lp hz (show k < zN Z by omega) hn (F_m_find_40 n') x2 n FU 0 _ (Nat.zero_add _) (by rw [FU_v]; omega) (ZM_fr hZ f1 (by decide) (by decide)) (by
      show vp_updL (al M 1019) k 0 k = _
      rw [updL_at, if_pos rfl]; rfl)
    have f2 : fdF M T := f1.trans t2
    obtain ⟨U, u1, u2, u3⟩ := ih n' (k + 1) T (by omega) (by omega) (ZM_fr hZ f2 (by decide) (by decide)) (fun i hi => by
      by_cases q : i = k
      · rw [q]; exact t4
      · rw [t3 i q]
        show vp_updL (al M 1019) k 0 i = _
        rw [updL_at, if_neg q]
        exact h i (by omega))
    refine ⟨U, ?_, f2.trans u2, u3⟩
    rw [F_m_find_40, show ai M 1003 (Int32.toNatClampNeg 0) = nI (zN Z) from hZ.1, if_neg (nI_ge (by omega) (by omega)), ck_t (ib_nI (by omega) (by decide)), nI_clamp (by omega)]
    exact t1.trans u1
def eqb (Z : Zt) (a : Nat) : Nat → Nat → Bool
  | _, 0 => false
  | b, j + 1 => decide (cbN Z a = cbN Z b) || eqb Z a (b + 1) j
def eqo (Z : Zt) (n : Nat) : Nat → Nat → Bool
  | _, 0 => false
  | a, j + 1 => eqb Z a (a + 1) (n - a) || eqo Z n (a + 1) j
theorem eqb_iff (Z : Zt) (a : Nat) : ∀ j b, eqb Z a b j = true ↔ ∃ k, b ≤ k ∧ k < b + j ∧ cbN Z a = cbN Z k := by
  intro j
  induction j with
  | zero => intro b; exact ⟨fun h => (by cases h), fun ⟨k, h1, h2, _⟩ => (by omega)⟩
  | succ j ih =>
    intro b
    rw [eqb, Bool.or_eq_true, decide_eq_true_iff, ih]
    constructor
    · rintro (h | ⟨k, h1, h2, h3⟩)
      · exact ⟨b, Nat.le_refl _, by omega, h⟩
      · exact ⟨k, by omega, by omega, h3⟩
    · rintro ⟨k, h1, h2, h3⟩
      by_cases q : k = b
      · subst q; exact Or.inl h3
      · exact Or.inr ⟨k, by omega, by omega, h3⟩
theorem eqo_iff (Z : Zt) (n : Nat) : ∀ j a, a + j = n + 1 → (eqo Z n a j = true ↔ ∃ x y, a ≤ x ∧ x < y ∧ y ≤ n ∧ cbN Z x = cbN Z y) := by
  intro j
  induction j with
  | zero => intro a _; exact ⟨fun h => (by cases h), fun ⟨x, y, h1, h2, h3, _⟩ => (by omega)⟩
  | succ j ih =>
    intro a ha
    rw [eqo, Bool.or_eq_true, eqb_iff, ih (a + 1) (by omega)]
    constructor
    · rintro (⟨k, h1, h2, h3⟩ | ⟨x, y, h1, h2, h3, h4⟩)
      · exact ⟨a, k, Nat.le_refl _, by omega, by omega, h3⟩
      · exact ⟨x, y, by omega, h2, h3, h4⟩
    · rintro ⟨x, y, h1, h2, h3, h4⟩
      by_cases q : x = a
      · subst q; exact Or.inl ⟨y, by omega, by omega, h4⟩
      · exact Or.inr ⟨x, y, by omega, h2, h3, h4⟩
theorem mp_in (hz : ZOk Z) {M : Sto} (hZ : ZM Z M) (hn : n ≤ 60) (k106 : Int32 → Int32 → Int32 → Sto → Option (Int32 × Sto)) (x2 : Int32) {a : Nat} (ha : a ≤ 60) : ∀ (j n' b : Nat), b + j = n + 1 → j < n' → F_m_find_116 k106 n' (nI n) x2 (nI a) (nI b) M = if eqb Z a b j = true then some (-1, M) else k106 (nI n) x2 (nI (a + 1)) M := by
  intro j
  induction j with
  | zero =>
    intro n' b hb hn'
    obtain ⟨n', rfl⟩ : ∃ q, n' = q + 1 := ⟨n' - 1, by omega⟩
    rw [F_m_find_116, if_pos (nI_lt (by omega) (by omega)), show nI a + (1 : Int32) = nI (a + 1) from nI_add a 1]
    rfl
  | succ j ih =>
    intro n' b hb hn'
    obtain ⟨n', rfl⟩ : ∃ q, n' = q + 1 := ⟨n' - 1, by omega⟩
    have c1 := cbN_lt hz a
    have c2 := cbN_lt hz b
    rw [F_m_find_116, if_neg (by rw [lt_nI (by omega) (by omega)]; omega), i2l_nI (by omega), i2l_nI (by omega), mnets_ok hz hZ (by omega), b1_s, mnets_ok hz hZ (by omega), b1_s, show nI b + (1 : Int32) = nI (b + 1) from nI_add b 1, eqb]
    by_cases q : cbN Z a = cbN Z b
    · rw [if_pos (by rw [q]), decide_eq_true q, Bool.true_or, if_pos rfl]
    · rw [if_neg (by rw [eq_nI (by omega) (by omega)]; exact q), decide_eq_false q, Bool.false_or]
      exact ih n' (b + 1) (by omega) (by omega)
theorem mp_out (hz : ZOk Z) {M : Sto} (hZ : ZM Z M) (hn : n ≤ 60) (x2 : Int32) : ∀ (j n' a : Nat), a + j = n + 1 → j < n' → F_m_find_106 n' (nI n) x2 (nI a) M = if eqo Z n a j = true then some (-1, M) else F_m_find_161 FU x2 (lN (2 ^ n - 1)) 0 M := by
  intro j
  induction j with
  | zero =>
    intro n' a ha hn'
    obtain ⟨n', rfl⟩ : ∃ q, n' = q + 1 := ⟨n' - 1, by omega⟩
    rw [F_m_find_106, if_pos (nI_lt (by omega) (by omega)), (show (1 : Int64) = lN 1 from rfl), wb_shl 1 (by omega), Nat.one_mul, lN_sub (Nat.pow_pos (by decide)), show eqo Z n a 0 = false from rfl, if_neg (show ¬ false = true by decide)]
  | succ j ih =>
    intro n' a ha hn'
    obtain ⟨n', rfl⟩ : ∃ q, n' = q + 1 := ⟨n' - 1, by omega⟩
    have e := mp_in hz hZ hn (F_m_find_106 n') x2 (show a ≤ 60 by omega) (n - a) FU (a + 1) (by omega) (by rw [FU_v]; omega)
    rw [F_m_find_106, if_neg (by rw [lt_nI (by omega) (by omega)]; omega), show nI a + (1 : Int32) = nI (a + 1) from nI_add a 1, e, ih n' (a + 1) (by omega) (by omega), eqo]
    cases eqb Z a (a + 1) (n - a)
    · rw [if_neg (by decide), Bool.false_or]
    · rw [if_pos rfl, Bool.true_or, if_pos rfl]
end
