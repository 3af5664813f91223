/-! ===== days ===== -/
def h15 (x : Int32) : Nat := x.toBitVec.toNat / 65536 % 32768
theorem h15_lt (x : Int32) : h15 x < 32768 := Nat.mod_lt _ (by decide)
theorem h15_c (x : Int32) : ((x.toUInt32 >>> (Int32.toUInt32 16 &&& Int32.toUInt32 31)).toInt32) &&& (32767 : Int32) = nI (h15 x) := by
  rw [pk_and _ 15 (by decide), pk_ushr x 16 16 (by decide)]
  rfl
theorem h15_s (x : Int32) : (x >>> ((16 : Int32) &&& 31)) &&& (32767 : Int32) = nI (h15 x) := by
  have h1 := pk_shr x ((16 : Int32) &&& 31) 16 (by decide)
  rw [pk_and _ 15 (by decide)]
  refine congrArg nI ?_
  have h3 : (x >>> ((16 : Int32) &&& 31)).toInt = if 2 * (x >>> ((16 : Int32) &&& 31)).toBitVec.toNat < 2 ^ 32 then ((x >>> ((16 : Int32) &&& 31)).toBitVec.toNat : Int) else ((x >>> ((16 : Int32) &&& 31)).toBitVec.toNat : Int) - 4294967296 := BitVec.toInt_eq_toNat_cond _
  have e2 : x.toInt = if 2 * x.toBitVec.toNat < 2 ^ 32 then (x.toBitVec.toNat : Int) else (x.toBitVec.toNat : Int) - 4294967296 := BitVec.toInt_eq_toNat_cond x.toBitVec
  have e3 := x.toBitVec.isLt
  rw [h1, Int.shiftRight_eq_div_pow, e2] at h3
  unfold h15
  generalize (x >>> ((16 : Int32) &&& 31)).toBitVec.toNat = y at h3 ⊢
  generalize x.toBitVec.toNat = n at h3 e3 ⊢
  clear h1 e2
  simp only [Nat.reducePow, Int.reducePow] at h3 e3 ⊢
  split at h3 <;> split at h3 <;> omega
theorem mn_a {a b : Nat} (ha : a < 9223372036854775808) (hb : b < 9223372036854775808) : mnL (lN a) (lN b) = lN (if a ≤ b then a else b) := by
  unfold mnL
  by_cases h : b < a
  · rw [if_pos (by rw [lt_lN hb ha]; exact h), if_neg (by omega)]
  · rw [if_neg (by rw [lt_lN hb ha]; exact h), if_pos (by omega)]
theorem mx_a {a b : Nat} (ha : a < 9223372036854775808) (hb : b < 9223372036854775808) : mxL (lN a) (lN b) = lN (if a ≤ b then b else a) := by
  unfold mxL
  by_cases h : b < a
  · rw [if_pos (by rw [lt_lN hb ha]; exact h), if_neg (by omega)]
  · rw [if_neg (by rw [lt_lN hb ha]; exact h)]
    by_cases h2 : a ≤ b
    · rw [if_pos h2]
    · omega
theorem cb_bit {Z : Zt} {v k : Nat} (hk : k < zN Z) : cbN Z v / 2 ^ k % 2 = if catB Z k v then 1 else 0 := by
  have h := nb_bit (fun i => catB Z i v) k (zN Z)
  rw [decide_eq_true hk, Bool.true_and, Nat.testBit_eq_decide_div_mod_eq] at h
  have h2 : cbN Z v / 2 ^ k % 2 < 2 := Nat.mod_lt _ (by decide)
  cases hc : catB Z k v
  · rw [hc] at h
    have := of_decide_eq_false h
    rw [if_neg (by decide)]
    unfold cbN at h2 ⊢
    omega
  · rw [hc] at h
    have := of_decide_eq_true h
    rw [if_pos rfl]
    exact this
theorem cb_0 {Z : Zt} {v : Nat} : True := trivial
theorem days_lp {Z : Zt} {c : Scn} {S M : Sto} {d dy : Nat} {net : Int32} (hz : ZOk Z) (hc : ScOk Z c) (hZ : ZC Z S) (hS : Sc0 c S) (hZM : ZM Z M) (hM : ScM c M) (h1 : 1 ≤ d) (h2 : d ≤ 32768) (hd : sLo c + d ≤ sHi c + 1) (hdy : dy ≤ 300) (hn : net = -1 ∨ ∃ k, k < zN Z ∧ net = nI k) : ∀ (j n n' k q : Nat) (sd : Int32), k + j = dy → j < n → j < n' →
    ∃ r, F_w_days_78 n (nI dy) net (nI d) sd (nI q) (nI k) S = some (.inl r) ∧ F_m_days_78 n' (nI dy) net (nI d) sd (nI q) (nI k) M = some (r, M) := by
  have h8 := hz.1
  obtain ⟨g1, g2, g3, g4, g5⟩ := hc.1
  have g3' : sHi c ≤ 1000000000000 := g3
  have cl : gl S 26 = lN (sLo c) := hS.1
  have ml : gl M 1013 = lN (sLo c) := hM.1
  intro j
  induction j with
  | zero =>
    intro n n' k q sd hk hn hn'
    obtain ⟨n, rfl⟩ : ∃ q, n = q + 1 := ⟨n - 1, by omega⟩
    obtain ⟨n', rfl⟩ : ∃ q, n' = q + 1 := ⟨n' - 1, by omega⟩
    refine ⟨nI q, ?_, ?_⟩
    · rw [F_w_days_78, if_pos (nI_le (by omega) (by omega))]
    · rw [F_m_days_78, if_pos (nI_le (by omega) (by omega))]
  | succ j ih =>
    intro n n' k q sd hk hn2 hn'
    obtain ⟨n, rfl⟩ : ∃ q, n = q + 1 := ⟨n - 1, by omega⟩
    obtain ⟨n', rfl⟩ : ∃ q, n' = q + 1 := ⟨n' - 1, by omega⟩
    generalize hs : (sd * 1103515245) + 12345 = s'
    have hh := h15_lt s'
    have hm : h15 s' % d < d := Nat.mod_lt _ (by omega)
    have hv : sLo c + h15 s' % d < 9223372036854775808 := by omega
    rw [F_w_days_78, F_m_days_78, hs, if_neg (nI_ge (by omega) (by omega)), if_neg (nI_ge (by omega) (by omega)), h15_c, h15_s, cl, i2l_nI (by omega), i2l_nI (by omega), remW (by omega) (by omega) (by omega), b1_s, lN_add, cat_ok hz hZ hv, b1_s, ck_t (nzI_nI (by omega) (by omega)), rem_nI (by omega) (by omega) (by omega), i2l_nI (show h15 s' % d < 2147483648 by omega), ml, lN_add]
    unfold nm F_w_days_153 F_w_days_156 F_m_days_143 F_m_days_146
    rw [show nI k + (1 : Int32) = nI (k + 1) from nI_add k 1, show nI q + (1 : Int32) = nI (q + 1) from nI_add q 1]
    generalize sLo c + h15 s' % d = v at hv
    dsimp only
    obtain ⟨r1, a1, a2⟩ := ih n n' (k + 1) q s' (by omega) (by omega) (by omega)
    obtain ⟨r2, b1, b2⟩ := ih n n' (k + 1) (q + 1) s' (by omega) (by omega) (by omega)
    by_cases w : net = -1
    · rw [if_pos w, if_pos w, mnets_ok hz hZM hv, b1_s]
      by_cases u : nI (cbN Z v) = 0
      · rw [if_pos u, if_pos u]; exact ⟨r2, b1, b2⟩
      · rw [if_neg u, if_neg u]; exact ⟨r1, a1, a2⟩
    · rw [if_neg w, if_neg w]
      rcases hn with hn | ⟨e, e1, e2⟩
      · exact absurd hn w
      · have hcb := cbN_lt hz v
        have cb := cb_bit (v := v) e1
        subst e2
        rw [mcat_ok hz hZM hv e1, b1_s, i2l_nI (by omega), bitC_ok (by omega) (by omega), b1_s, cb]
        cases hcc : catB Z e v
        · rw [if_neg (show ¬ false = true by decide), if_neg (by decide), if_pos (show bI false = 0 from rfl)]
          exact ⟨r1, a1, a2⟩
        · rw [if_pos rfl, if_pos (show nI 1 = (1 : Int32) from rfl), if_neg (show ¬ bI true = 0 by decide)]
          exact ⟨r2, b1, b2⟩
theorem dnet_y {N : Nat} (h8 : N ≤ 8) {net : Int32} (h : net = -1 ∨ ∃ k, k < N ∧ net = nI k) : F_m_isIn net.toInt64 (-1) (nI N - 1).toInt64 = some 1 := by
  have e : (nI N - 1).toInt64 = zL ((N : Int) - 1) := by
    rw [(show (1 : Int32) = nI 1 from rfl), nI_z, nI_z, sub_zI, i2l_zI (by omega) (by omega)]
    rfl
  rw [e]
  unfold F_m_isIn
  rcases h with rfl | ⟨k, hk, rfl⟩
  · have e2 : (-1 : Int32).toInt64 = zL (-1) := by decide
    rw [e2, show (-1 : Int64) = zL (-1) from rfl, if_neg (by rw [lt_zL (by decide) (by decide) (by decide) (by decide)]; omega), if_neg (by rw [lt_zL (by omega) (by omega) (by decide) (by decide)]; omega)]
  · have e2 : (nI k).toInt64 = zL (k : Int) := by rw [i2l_nI (by omega), lN_z]
    rw [e2, show (-1 : Int64) = zL (-1) from rfl, if_neg (by rw [lt_zL (by omega) (by omega) (by decide) (by decide)]; omega), if_neg (by rw [lt_zL (by omega) (by omega) (by omega) (by omega)]; omega)]
theorem dnet_n {N : Nat} (h8 : N ≤ 8) {net : Int32} (h : ¬ (net = -1 ∨ ∃ k, k < N ∧ net = nI k)) : F_m_isIn net.toInt64 (-1) (nI N - 1).toInt64 = some 0 := by
  have e : (nI N - 1).toInt64 = zL ((N : Int) - 1) := by
    rw [(show (1 : Int32) = nI 1 from rfl), nI_z, nI_z, sub_zI, i2l_zI (by omega) (by omega)]
    rfl
  have t1 := Int32.toInt_lt net
  have t2 := Int32.le_toInt net
  have e2 : net.toInt64 = zL net.toInt := by
    conv => lhs; rw [zI_of net]
    exact i2l_zI (by omega) (by omega)
  rw [e, e2]
  unfold F_m_isIn
  by_cases w : net.toInt < -1
  · rw [show (-1 : Int64) = zL (-1) from rfl, if_pos (by rw [lt_zL (by omega) (by omega) (by decide) (by decide)]; exact w)]
  · rw [show (-1 : Int64) = zL (-1) from rfl, if_neg (by rw [lt_zL (by omega) (by omega) (by decide) (by decide)]; exact w), if_pos]
    rw [lt_zL (by omega) (by omega) (by omega) (by omega)]
    refine Int.not_le.mp (fun q => h ?_)
    by_cases u : net.toInt = -1
    · refine Or.inl ?_
      rw [zI_of net, u]; rfl
    · refine Or.inr ⟨net.toInt.toNat, by omega, ?_⟩
      rw [nI_z, Int.toNat_of_nonneg (by omega)]
      exact zI_of net
theorem days_ok {S M O : Sto} (h : Rl S M) (sd dy net : Int32) : ∃ k O' b M', F_l_days sd dy net S O = some (k, O') ∧ F_m_days sd dy net M = some (b, M') ∧ gi M' 1001 = k ∧ (k = 0 → al O' 2000 (Int32.toNatClampNeg 0) = b.toInt64) ∧ Rl S M' := by
  obtain ⟨t, f, Z, c, i, h1, h2, h3, hC, hM⟩ := h
  have h8 := h1.1
  obtain ⟨g1, g2, g3, g4, g5⟩ := id h2.1
  have g1' : 1 ≤ sLo c := g1
  have g2' : sLo c ≤ sHi c := g2
  have g3' : sHi c ≤ 1000000000000 := g3
  obtain ⟨c1, c2, _⟩ := hC.sc
  obtain ⟨n1, n2, _⟩ := (hM.cd 0).sc
  have e3 : ai (si M 1001 0) 1003 (Int32.toNatClampNeg 0) = nI (zN Z) := (hM.cd 0).z.1
  by_cases hn : net = -1 ∨ ∃ k, k < zN Z ∧ net = nI k
  · have w1 : F_w_days sd dy net S = F_w_days_24 sd dy net S := by
      unfold F_w_days
      by_cases w : net = -1
      · rw [if_pos w]
      · rw [if_neg w]
        rcases hn with q | ⟨k, k1, rfl⟩
        · exact absurd q w
        · rw [has_y hC.z.1 h8 k1, b1_s, if_neg I1_0]
    by_cases hd : ∃ k, 0 ≤ k ∧ k ≤ 300 ∧ dy = nI k
    · obtain ⟨k, _, k2, rfl⟩ := hd
      have hD : ∃ d, 1 ≤ d ∧ d ≤ 32768 ∧ sLo c + d ≤ sHi c + 1 ∧ (mnL ((gl S 27 - gl S 26) + 1) 32768).toInt32 = nI d ∧ (mnL 32768 ((gl (si M 1001 0) 1014 - gl (si M 1001 0) 1013) + 1)).toInt32 = nI d := by
        refine ⟨if sHi c - sLo c + 1 ≤ 32768 then sHi c - sLo c + 1 else 32768, by split <;> omega, by split <;> omega, by split <;> omega, ?_, ?_⟩
        · rw [c1, c2, sub_lN g2', (show (1 : Int64) = lN 1 from rfl), lN_add, (show (32768 : Int64) = lN 32768 from rfl), mn_a (by omega) (by decide), l2i_lN]
        · rw [n1, n2, sub_lN g2', (show (1 : Int64) = lN 1 from rfl), lN_add, (show (32768 : Int64) = lN 32768 from rfl), mn_a (by decide) (by omega), l2i_lN]
          refine congrArg nI ?_
          split <;> split <;> omega
      obtain ⟨d, d1, d2, d3, d4, d5⟩ := hD
      obtain ⟨r, r1, r2⟩ := days_lp h1 h2 hC.z hC.sc (hM.cd 0).z (hM.cd 0).sc d1 d2 d3 k2 hn k FU FU 0 0 sd (Nat.zero_add _) (by rw [FU_v]; omega) (by rw [FU_v]; omega)
      refine ⟨0, oW O r.toInt64, r, si M 1001 0, ?_, ?_, rfl, fun _ => rfl, t, f, Z, c, i, h1, h2, h3, hC, hM.cd 0⟩
      · unfold F_l_days
        have eC : F_w_days_24 sd (nI k) net S = some (.inl r) := by
          unfold F_w_days_24
          rw [if_neg (nI_pos (by omega)), show (300 : Int32) = nI 300 from rfl, if_pos (nI_le k2 (by decide))]
          exact (nm_q d4).trans r1
        rw [w1, eC, b1_s, su_l]
      · unfold F_m_days
        rw [e3, dnet_y h8 hn, b1_s, if_neg I1_0, i2l_nI (by omega), (show (0 : Int64) = lN 0 from rfl), (show (300 : Int64) = lN 300 from rfl), isIn_y (Nat.zero_le _) k2 (by decide), b1_s, if_neg I1_0]
        exact (nm_q d5).trans r2
    · have eC : F_w_days_24 sd dy net S = some (.inr 0) := by
        unfold F_w_days_24 F_w_days_35
        by_cases q : dy < 0
        · rw [if_pos q]
        · rw [if_neg q, if_neg]
          obtain ⟨k, hk, rfl⟩ := nI_of q
          rw [show (300 : Int32) = nI 300 from rfl, le_nI hk (by decide)]
          exact fun r => hd ⟨k, Nat.zero_le _, r, rfl⟩
      refine ⟨2, O, 0, si (si M 1001 0) 1001 2, ?_, ?_, rfl, fun e => absurd e (by decide), t, f, Z, c, i, h1, h2, h3, hC, (hM.cd 0).cd 2⟩
      · unfold F_l_days
        rw [w1, eC, b1_s, su_r]
        rfl
      · unfold F_m_days
        rw [e3, dnet_y h8 hn, b1_s, if_neg I1_0, (show (0 : Int64) = lN 0 from rfl), (show (300 : Int64) = lN 300 from rfl), isIn_n (by decide) (by decide), b1_s, if_pos rfl]
        · rfl
        · rintro ⟨k, k1, k2, k3⟩
          rw [in_wide (by omega)] at k3
          exact hd ⟨k, k1, k2, k3⟩
  · refine ⟨1, O, 0, si (si M 1001 0) 1001 1, ?_, ?_, rfl, fun e => absurd e (by decide), t, f, Z, c, i, h1, h2, h3, hC, (hM.cd 0).cd 1⟩
    · unfold F_l_days F_w_days
      rw [if_neg (fun q => hn (Or.inl q)), has_n hC.z.1 h8 (fun q => hn (Or.inr q)), b1_s, if_pos rfl, b1_s, su_r]
      rfl
    · unfold F_m_days
      rw [e3, dnet_n h8 hn, b1_s, if_pos rfl]
      rfl
