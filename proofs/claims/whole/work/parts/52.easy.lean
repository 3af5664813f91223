/-! ===== feed ===== -/
def by4 (x : Int32) (j : Nat) : Nat := x.toBitVec.toNat / 2 ^ (24 - 8 * j) % 256
theorem by4_lt (x : Int32) (j : Nat) : by4 x j < 256 := Nat.mod_lt _ (by decide)
theorem by4_c {x : Int32} {j k : Nat} (hk : k = 24 - 8 * j) (h : ((((nI k).toUInt32 &&& Int32.toUInt32 31)).toBitVec % 32).toNat = k) : ((x.toUInt32 >>> ((nI k).toUInt32 &&& Int32.toUInt32 31)).toInt32) &&& nI 255 = nI (by4 x j) := by
  rw [pk_and _ 8 (by decide), pk_ushr x (nI k) k h, hk]
  rfl
theorem by4_s {x : Int32} {s : Int32} {j k : Nat} (hk : k = 24 - 8 * j) (h : (s.toBitVec.smod 32).toNat = k) : (x >>> s) &&& nI 255 = nI (by4 x j) := by
  have h1 := pk_shr x s k h
  have h2 : (x >>> s).toBitVec.toNat % 2 ^ 8 = by4 x j := by
    have e1 : ((x >>> s).toBitVec.toNat : Int) % 256 = (x >>> s).toInt % 256 := by
      have h3 : (x >>> s).toInt = if 2 * (x >>> s).toBitVec.toNat < 2 ^ 32 then ((x >>> s).toBitVec.toNat : Int) else ((x >>> s).toBitVec.toNat : Int) - 4294967296 := BitVec.toInt_eq_toNat_cond (x >>> s).toBitVec
      rw [h3]
      generalize (x >>> s).toBitVec.toNat = y
      split <;> omega
    have e2 : x.toInt = if 2 * x.toBitVec.toNat < 2 ^ 32 then (x.toBitVec.toNat : Int) else (x.toBitVec.toNat : Int) - 4294967296 := BitVec.toInt_eq_toNat_cond x.toBitVec
    have e3 := x.toBitVec.isLt
    rw [h1, Int.shiftRight_eq_div_pow] at e1
    unfold by4
    rw [← hk]
    have hk2 : k = 24 ∨ k = 16 ∨ k = 8 ∨ k = 0 := by
      have : j = 0 ∨ j = 1 ∨ j = 2 ∨ 3 ≤ j := by omega
      omega
    generalize (x >>> s).toBitVec.toNat = y at e1 ⊢
    generalize x.toBitVec.toNat = n at e2 e3 ⊢
    rw [e2] at e1
    rcases hk2 with q | q | q | q <;> subst q <;> split at e1 <;> simp only [Nat.reducePow, Int.reducePow, Int.natCast_pow, Int.cast_ofNat_Int] at e1 e3 ⊢ <;> omega
  rw [pk_and _ 8 (by decide), h2]
theorem fu5 : FU = 1099511627771 + 5 := rfl
theorem take_ok {x : Int32} {L : Nat} {S : Sto} (hL : gi S 7 = nI L) (h : L + 4 ≤ 500) : ∃ S', F_Rd_take x S = some ((), S') ∧ Fr [7] [] [2] [] [] S S' ∧ gi S' 7 = nI (L + 4) ∧ ∀ i, ai S' 2 i = if L ≤ i ∧ i < L + 4 then nI (by4 x (i - L)) else ai S 2 i := by
  have st : ∀ (n j k : Nat) (S : Sto) (L : Nat), k = 24 - 8 * j → j < 4 → gi S 7 = nI L → L < 500 → F_Rd_take_3 (n + 1) x (nI k) S = F_Rd_take_3 n x (nI k + -8) (si (ui S 2 (upd (ai S 2) L (nI (by4 x j)))) 7 (nI (L + 1))) := by
    intro n j k S L hk hj hL hl
    rw [F_Rd_take_3]
    unfold F_Rd_take_50
    rw [hL]
    rw [if_neg (nI_pos (by omega)), if_neg (nI_pos (by omega)), if_neg (show ¬ (500 : Int32) ≤ nI L from nI_ge hl (by decide)), ck_t (ib_nI hl (by omega)), gi_ui, hL, nI_clamp (by omega)]
    rw [litI 255, by4_c hk (s_u k (by omega)), litI 1, nI_add]
  unfold F_Rd_take
  rw [fu5]
  refine ⟨si (ui (si (ui (si (ui (si (ui S 2 (upd (ai S 2) L (nI (by4 x 0)))) 7 (nI (L + 1))) 2 (upd (upd (ai S 2) L (nI (by4 x 0))) (L + 1) (nI (by4 x 1)))) 7 (nI (L + 1 + 1))) 2 (upd (upd (upd (ai S 2) L (nI (by4 x 0))) (L + 1) (nI (by4 x 1))) (L + 1 + 1) (nI (by4 x 2)))) 7 (nI (L + 1 + 1 + 1))) 2 (upd (upd (upd (upd (ai S 2) L (nI (by4 x 0))) (L + 1) (nI (by4 x 1))) (L + 1 + 1) (nI (by4 x 2))) (L + 1 + 1 + 1) (nI (by4 x 3)))) 7 (nI (L + 1 + 1 + 1 + 1)), ?_, ?_, ?_, ?_⟩
  · rw [litI 24, st _ 0 24 S L rfl (by decide) hL (by omega)]
    rw [show nI 24 + -8 = nI 16 from by decide, st _ 1 16 _ (L + 1) rfl (by decide) rfl (by omega)]
    rw [show nI 16 + -8 = nI 8 from by decide, st _ 2 8 _ (L + 1 + 1) rfl (by decide) rfl (by omega)]
    rw [show nI 8 + -8 = nI 0 from by decide, st _ 3 0 _ (L + 1 + 1 + 1) rfl (by decide) rfl (by omega)]
    unfold F_Rd_take_3
    rw [if_pos (by decide)]
    rfl
  · exact ((((((((Fr.rfl.ui (by decide)).si (by decide)).ui (by decide)).si (by decide)).ui (by decide)).si (by decide)).ui (by decide)).si (by decide))
  · rfl
  · intro i
    show upd (upd (upd (upd (ai S 2) L (nI (by4 x 0))) (L + 1) (nI (by4 x 1))) (L + 1 + 1) (nI (by4 x 2))) (L + 1 + 1 + 1) (nI (by4 x 3)) i = _
    simp only [upd_at]
    by_cases h3 : i = L + 1 + 1 + 1
    · rw [if_pos h3, if_pos (by omega), h3, show L + 1 + 1 + 1 - L = 3 by omega]
    rw [if_neg h3]
    by_cases h2 : i = L + 1 + 1
    · rw [if_pos h2, if_pos (by omega), h2, show L + 1 + 1 - L = 2 by omega]
    rw [if_neg h2]
    by_cases h1 : i = L + 1
    · rw [if_pos h1, if_pos (by omega), h1, show L + 1 - L = 1 by omega]
    rw [if_neg h1]
    by_cases h0 : i = L
    · rw [if_pos h0, if_pos (by omega), h0, Nat.sub_self]
    rw [if_neg h0, if_neg (by omega)]
def sel5 (a b c d e : Int32) (k : Nat) : Int32 := if k < 4 then a else if k < 8 then b else if k < 12 then c else if k < 16 then d else e
def fdb (a b c d e : Int32) (k : Nat) : Nat := by4 (sel5 a b c d e k) (k % 4)
theorem fdb_lt (a b c d e : Int32) (k : Nat) : fdb a b c d e k < 256 := by4_lt _ _
theorem fd_sh : ∀ k, k < 20 → ((((nI 24) - ((nI 8) * (nI (k % 4)))) &&& nI 31).toBitVec.smod 32).toNat = 24 - 8 * (k % 4) := by decide +kernel
theorem m_feed_lp (a b c d e : Int32) (L : Nat) (hL : L + 20 ≤ 500) : ∀ (j n k : Nat) (M : Sto), k + j = 20 → j < n → gi M 1003 = nI (L + k) → (∀ i, i < k → ai M 1011 (L + i) = nI (fdb a b c d e i)) → ∃ M', F_m_feed_23 n a b c d e (nI k) M = some (nI (L + 20), M') ∧ Fr [1003] [] [1011] [] [] M M' ∧ gi M' 1003 = nI (L + 20) ∧ (∀ i, i < 20 → ai M' 1011 (L + i) = nI (fdb a b c d e i)) ∧ (∀ i, i < L → ai M' 1011 i = ai M 1011 i) := by
  intro j
  induction j with
  | zero =>
    intro n k M hk hn hl hi
    obtain ⟨n, rfl⟩ : ∃ q, n = q + 1 := ⟨n - 1, by omega⟩
    have hk : k = 20 := by omega
    subst hk
    refine ⟨M, ?_, Fr.rfl, hl, hi, fun _ _ => rfl⟩
    unfold F_m_feed_23
    rw [if_pos (by decide), hl]
  | succ j ih =>
    intro n k M hk hn hl hi
    obtain ⟨n, rfl⟩ : ∃ q, n = q + 1 := ⟨n - 1, by omega⟩
    have key : F_m_feed_23 (n + 1) a b c d e (nI k) M = F_m_feed_76 (F_m_feed_23 n) a b c d e (nI k) (sel5 a b c d e k) M := by
      conv => lhs; unfold F_m_feed_23
      simp (disch := omega) only [litI, le_nI]
      unfold sel5
      rw [if_neg (by omega)]
      by_cases h4 : k < 4
      · rw [if_neg (by omega), if_pos h4]
      rw [if_pos (by omega), if_neg h4]
      by_cases h8 : k < 8
      · rw [if_neg (by omega), if_pos h8]
      rw [if_pos (by omega), if_neg h8]
      by_cases h12 : k < 12
      · rw [if_neg (by omega), if_pos h12]
      rw [if_pos (by omega), if_neg h12]
      by_cases h16 : k < 16
      · rw [if_neg (by omega), if_pos h16]
      rw [if_pos (by omega), if_neg h16]
    rw [key]
    unfold F_m_feed_76
    have e1 : ((sel5 a b c d e k >>> ((24 - (8 * (nI k - nI k / 4 * 4))) &&& 31)) &&& 255) = nI (fdb a b c d e k) := by
      simp only [litI]
      rw [rem_nI (by omega) (by omega) (by omega)]
      exact by4_s rfl (fd_sh k (by omega))
    rw [e1, hl, ck_t (ib_nI (by omega) (by omega)), gi_ui, hl, litI 1, nI_add, nI_add, nI_clamp (by omega)]
    obtain ⟨M', f1, f2, f3, f4, f5⟩ := ih n (k + 1) (si (ui M 1011 (upd (ai M 1011) (L + k) (nI (fdb a b c d e k)))) 1003 (nI (L + k + 1))) (by omega) (by omega) rfl (by
      intro i hi2
      show upd (ai M 1011) (L + k) (nI (fdb a b c d e k)) (L + i) = _
      rw [upd_at]
      by_cases q : L + i = L + k
      · rw [if_pos q, show i = k by omega]
      · rw [if_neg q]; exact hi i (by omega))
    refine ⟨M', f1, ((Fr.rfl.ui (by decide)).si (by decide)).trans f2, f3, f4, fun i hi2 => ?_⟩
    rw [f5 i hi2]
    show upd (ai M 1011) (L + k) (nI (fdb a b c d e k)) i = _
    rw [upd_at, if_neg (by omega)]
def tpF (t : Tp) (a b c d e : Int32) : Tp := (t.1 + 20, fun i => if i < t.1 then t.2 i else fdb a b c d e (i - t.1))
theorem w_feed_ok {t : Tp} {a b c d e : Int32} {S : Sto} (h : TpC t S) (h2 : t.1 + 20 ≤ 500) : ∃ S', F_w_feed a b c d e S = some (nI (t.1 + 20), S') ∧ Fr [7] [] [2] [] [] S S' ∧ TpC (tpF t a b c d e) S' := by
  obtain ⟨L, tb⟩ := t
  obtain ⟨h0, _, h1⟩ := h
  dsimp only at h0 h1 h2
  unfold F_w_feed
  rw [h0, litI 20, litI 500, nI_add, if_pos (nI_le h2 (by omega))]
  obtain ⟨S1, a1, a2, a3, a4⟩ := take_ok (x := a) h0 (by omega)
  obtain ⟨S2, b1, b2, b3, b4⟩ := take_ok (x := b) a3 (by omega)
  obtain ⟨S3, c1, c2, c3, c4⟩ := take_ok (x := c) b3 (by omega)
  obtain ⟨S4, d1, d2, d3, d4⟩ := take_ok (x := d) c3 (by omega)
  obtain ⟨S5, e1, e2, e3, e4⟩ := take_ok (x := e) d3 (by omega)
  rw [a1, b2_s, b1, b2_s, c1, b2_s, d1, b2_s, e1, b2_s, e3]
  refine ⟨S5, rfl, (((a2.trans b2).trans c2).trans d2).trans e2, e3, h2, fun i hi => ?_⟩
  unfold tpF at hi ⊢
  dsimp only at hi ⊢
  rw [e4, d4, c4, b4, a4]
  by_cases q : i < L
  · rw [if_neg (by omega), if_neg (by omega), if_neg (by omega), if_neg (by omega), if_neg (by omega), if_pos q]
    exact h1 i q
  · rw [if_neg q]
    refine ⟨?_, fdb_lt _ _ _ _ _ _⟩
    unfold fdb sel5
    by_cases q1 : i < L + 4
    · rw [if_neg (by omega), if_neg (by omega), if_neg (by omega), if_neg (by omega), if_pos (by omega), if_pos (by omega), Nat.mod_eq_of_lt (by omega)]
    by_cases q2 : i < L + 8
    · rw [if_neg (by omega), if_neg (by omega), if_neg (by omega), if_pos (by omega), if_neg (by omega), if_pos (by omega), show (i - L) % 4 = i - (L + 4) by omega]
    by_cases q3 : i < L + 12
    · rw [if_neg (by omega), if_neg (by omega), if_pos (by omega), if_neg (by omega), if_neg (by omega), if_pos (by omega), show (i - L) % 4 = i - (L + 4 + 4) by omega]
    by_cases q4 : i < L + 16
    · rw [if_neg (by omega), if_pos (by omega), if_neg (by omega), if_neg (by omega), if_neg (by omega), if_pos (by omega), show (i - L) % 4 = i - (L + 4 + 4 + 4) by omega]
    · rw [if_pos (by omega), if_neg (by omega), if_neg (by omega), if_neg (by omega), if_neg (by omega), show (i - L) % 4 = i - (L + 4 + 4 + 4 + 4) by omega]
theorem m_feed_ok {t : Tp} {a b c d e : Int32} {M : Sto} (h : TpM t M) (h2 : t.1 + 20 ≤ 500) : ∃ M', F_m_feed a b c d e M = some (nI (t.1 + 20), M') ∧ Fr [1001, 1003] [] [1011] [] [] M M' ∧ TpM (tpF t a b c d e) M' := by
  obtain ⟨L, tb⟩ := t
  obtain ⟨h0, h1⟩ := h
  dsimp only at h0 h1 h2
  unfold F_m_feed
  have e0 : gi (si M 1001 0) 1003 = nI L := h0
  rw [e0, litI 20, litI 500, nI_add, if_pos (nI_le h2 (by omega))]
  obtain ⟨M', f1, f2, f3, f4, f5⟩ := m_feed_lp a b c d e L h2 20 FU 0 (si M 1001 0) rfl (by rw [FU_v]; decide) h0 (fun i hi => absurd hi (Nat.not_lt_zero i))
  refine ⟨M', f1, (Fr.rfl.si (by decide)).trans (f2.mono (by decide) (by decide) (by decide) (by decide) (by decide)), f3, fun i hi => ?_⟩
  unfold tpF at hi ⊢
  dsimp only at hi ⊢
  by_cases q : i < L
  · rw [if_pos q, f5 i q]; exact h1 i q
  · rw [if_neg q]
    have := f4 (i - L) (by omega)
    rw [show L + (i - L) = i by omega] at this
    exact this
