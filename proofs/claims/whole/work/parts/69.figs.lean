/-! ===== licences by figures ===== -/
def bgt (n f e : Nat) : Nat := if f * 10 ^ e ≤ n then (if n ≤ f * 10 ^ e + 10 ^ e - 1 then n else f * 10 ^ e + 10 ^ e - 1) - f * 10 ^ e + 1 else 0
theorem p10 {e : Nat} (h : e ≤ 16) : 1 ≤ 10 ^ e ∧ 10 ^ e ≤ 10000000000000000 := ⟨Nat.pos_of_ne_zero (by have := Nat.pow_pos (n := e) (show 0 < 10 by decide); omega), Nat.le_trans (Nat.pow_le_pow_right (by decide) h) (by decide)⟩
theorem bgC_lp {n f : Nat} (hn : n ≤ 1000000000000000) (h1 : 1 ≤ f) (h9 : f ≤ 9) : ∀ (e k acc : Nat), e ≤ 15 → e + 2 ≤ k → F_Li_beginning_7 k (lN n) (nI f) (lN acc) (lN (10 ^ e)) = some (lN (acc + fb_sm (bgt n f) (e + 1))) := by
  have step : ∀ (e k acc : Nat), e ≤ 15 → F_Li_beginning_7 (k + 1) (lN n) (nI f) (lN acc) (lN (10 ^ e)) = F_Li_beginning_7 k (lN n) (nI f) (lN (acc + bgt n f e)) (lN (10 ^ e / 10)) := by
    intro e k acc he
    obtain ⟨p1, p2⟩ := p10 (show e ≤ 16 by omega)
    have hf1 : f * 10 ^ e ≤ 9 * 10 ^ e := Nat.mul_le_mul_right _ h9
    have hf0 : 10 ^ e ≤ f * 10 ^ e := Nat.le_mul_of_pos_left _ h1
    unfold bgt
    generalize 10 ^ e = u at p1 p2 hf1 hf0 ⊢
    rw [F_Li_beginning_7, (show (0 : Int64) = lN 0 from rfl), if_neg (by rw [le_lN (by omega) (by decide)]; omega), if_neg (nI_nle (by omega) (by omega)), i2l_nI (by omega), lN_mul]
    unfold F_Li_beginning_51
    rw [(show (10 : Int64) = lN 10 from rfl), div_lN (by omega) (by decide) (by decide)]
    by_cases q : f * u ≤ n
    · rw [if_neg (by rw [lt_lN (by omega) (by omega)]; omega), if_pos q]
      refine (nm_q (e' := lN (acc + ((if n ≤ f * u + u - 1 then n else f * u + u - 1) - f * u + 1))) ?_)
      have hm : f * u ≤ (if n ≤ f * u + u - 1 then n else f * u + u - 1) := by split <;> omega
      rw [lN_add, (show (1 : Int64) = lN 1 from rfl), lN_sub (by omega), mn_a (by omega) (by omega), lN_sub hm, lN_add, lN_add]
    · rw [if_pos (by rw [lt_lN (by omega) (by omega)]; omega), if_neg q]
      rfl
  intro e
  induction e with
  | zero =>
    intro k acc he hk
    obtain ⟨k, rfl⟩ : ∃ q, k = q + 1 + 1 := ⟨k - 2, by omega⟩
    rw [step 0 (k + 1) acc (by decide), F_Li_beginning_7, if_pos (by decide), fb_sm_succ]
    rw [show fb_sm (bgt n f) 0 = 0 from rfl, Nat.zero_add]
  | succ e ih =>
    intro k acc he hk
    obtain ⟨k, rfl⟩ : ∃ q, k = q + 1 := ⟨k - 1, by omega⟩
    rw [step (e + 1) k acc he, Nat.pow_succ, Nat.mul_div_cancel _ (by decide), ih k _ (by omega) (by omega), fb_sm_succ (bgt n f) (e + 1)]
    refine congrArg (fun q => some (lN q)) ?_
    omega
theorem bgM_lp {n f : Nat} (hn : n ≤ 1000000000000000) (h1 : 1 ≤ f) (h9 : f ≤ 9) : ∀ (j e k : Nat), e + j = 16 → j < k → F_m_firstBy_5 k (lN n) (nI f) (lN (fb_sm (bgt n f) e)) (lN (10 ^ e)) = some (lN (fb_sm (bgt n f) 16)) := by
  have zr : ∀ (j e : Nat), e + j = 16 → n < 10 ^ e → fb_sm (bgt n f) e = fb_sm (bgt n f) 16 := by
    intro j
    induction j with
    | zero => intro e he _; rw [show e = 16 by omega]
    | succ j ih =>
      intro e he hn2
      have hf0 : 10 ^ e ≤ f * 10 ^ e := Nat.le_mul_of_pos_left _ h1
      have hp : 10 ^ e ≤ 10 ^ (e + 1) := Nat.pow_le_pow_right (by decide) (by omega)
      rw [← ih (e + 1) (by omega) (by omega), fb_sm_succ]
      unfold bgt
      rw [if_neg (by omega)]
      rfl
  intro j
  induction j with
  | zero =>
    intro e k he hk
    obtain ⟨k, rfl⟩ : ∃ q, k = q + 1 := ⟨k - 1, by omega⟩
    have : e = 16 := by omega
    subst this
    rw [F_m_firstBy_5, if_pos (by rw [lt_lN (by omega) (by decide)]; omega)]
  | succ j ih =>
    intro e k he hk
    obtain ⟨k, rfl⟩ : ∃ q, k = q + 1 := ⟨k - 1, by omega⟩
    obtain ⟨p1, p2⟩ := p10 (show e ≤ 16 by omega)
    have hf1 : f * 10 ^ e ≤ 9 * 10 ^ e := Nat.mul_le_mul_right _ h9
    have hf0 : 10 ^ e ≤ f * 10 ^ e := Nat.le_mul_of_pos_left _ h1
    by_cases q : n < 10 ^ e
    · rw [F_m_firstBy_5, if_pos (by rw [lt_lN (by omega) (by omega)]; exact q), zr (j + 1) e he q]
    · have e2 := ih (e + 1) k (by omega) (by omega)
      rw [fb_sm_succ, Nat.pow_succ] at e2
      have hb : bgt n f e = if f * 10 ^ e ≤ n then (if n ≤ f * 10 ^ e + 10 ^ e - 1 then n else f * 10 ^ e + 10 ^ e - 1) - f * 10 ^ e + 1 else 0 := rfl
      generalize 10 ^ e = u at p1 p2 hf1 hf0 q e2 hb ⊢
      rw [F_m_firstBy_5, if_neg (by rw [lt_lN (by omega) (by omega)]; exact q)]
      refine (nm_q (e' := lN (fb_sm (bgt n f) e + bgt n f e)) ?_).trans (by rw [(show (10 : Int64) = lN 10 from rfl), lN_mul]; exact e2)
      have e3 : ((f + 1) * u) = f * u + u := Nat.succ_mul f u
      rw [show nI f + (1 : Int32) = nI (f + 1) from nI_add f 1, i2l_nI (by omega), i2l_nI (by omega), lN_mul, lN_mul, e3, (show (1 : Int64) = lN 1 from rfl), lN_sub (by omega), mn_a (by omega) (by omega), hb, ← lN_add]
      refine congrArg (fun q => lN (fb_sm (bgt n f) e) + q) ?_
      by_cases w : f * u ≤ n
      · have hm : f * u ≤ (if n ≤ f * u + u - 1 then n else f * u + u - 1) := by split <;> omega
        rw [if_pos w, lN_sub hm, lN_add, (show (0 : Int64) = lN 0 from rfl), mx_a (by decide) (by split <;> omega), if_pos (Nat.zero_le _)]
      · rw [if_neg w, if_pos (by omega), lN_z, lN_z, lN_z, sub_zL, add_zL]
        unfold mxL
        rw [show (0 : Int64) = zL 0 from rfl]
        by_cases v : (n : Int) - (f * u : Nat) + (1 : Nat) < 0
        · rw [if_pos (by rw [lt_zL (by omega) (by omega) (by decide) (by decide)]; exact v)]; rfl
        · rw [if_neg (by rw [lt_zL (by omega) (by omega) (by decide) (by decide)]; exact v), show (n : Int) - (f * u : Nat) + (1 : Nat) = ((0 : Nat) : Int) by omega]; rfl
theorem bg_eq {n f : Nat} (hn : n ≤ 1000000000000000) (h1 : 1 ≤ f) (h9 : f ≤ 9) : ∃ v : Nat, F_Li_beginning (lN n) (nI f) = some (lN v) ∧ F_m_firstBy (lN n) (nI f) = some (lN v) := by
  refine ⟨fb_sm (bgt n f) 16, ?_, ?_⟩
  · unfold F_Li_beginning
    have := bgC_lp hn h1 h9 15 FU 0 (by decide) (by rw [FU_v]; decide)
    rw [Nat.zero_add] at this
    exact this
  · unfold F_m_firstBy
    exact bgM_lp hn h1 h9 16 0 FU rfl (by rw [FU_v]; decide)
/-! split -/
theorem sp_lp {Z : Zt} {c : Scn} {S M : Sto} {k i : Nat} (hc : ScOk Z c) (hS : Sc0 c S) (hM : ScM c M) (hk : 1 ≤ k) (hk9 : k ≤ 9) (hi : i < k) : ∀ (j n n' f : Nat) (v : Int64), f + j = 10 → j < n → j < n' → 1 ≤ f → ∃ r, F_w_split_41 n (nI k) (nI i) v (nI f) S = some (.inl r) ∧ F_m_split_49 n' (nI k) (nI i) v (nI f) M = some (r, M) := by
  obtain ⟨g1, g2, g3, _⟩ := hc.1
  have g1' : 1 ≤ sLo c := g1
  have g2' : sLo c ≤ sHi c := g2
  have g3' : sHi c ≤ 1000000000000 := g3
  have c1 : gl S 26 = lN (sLo c) := hS.1
  have c2 : gl S 27 = lN (sHi c) := hS.2.1
  have m1 : gl M 1013 = lN (sLo c) := hM.1
  have m2 : gl M 1014 = lN (sHi c) := hM.2.1
  intro j
  induction j with
  | zero =>
    intro n n' f v hf hn hn' h1
    obtain ⟨n, rfl⟩ : ∃ q, n = q + 1 := ⟨n - 1, by omega⟩
    obtain ⟨n', rfl⟩ : ∃ q, n' = q + 1 := ⟨n' - 1, by omega⟩
    have : f = 10 := by omega
    subst this
    refine ⟨v, ?_, ?_⟩
    · rw [F_w_split_41, if_pos (by decide)]
    · rw [F_m_split_49, if_pos (by decide)]
  | succ j ih =>
    intro n n' f v hf hn hn' h1
    obtain ⟨n, rfl⟩ : ∃ q, n = q + 1 := ⟨n - 1, by omega⟩
    obtain ⟨n', rfl⟩ : ∃ q, n' = q + 1 := ⟨n' - 1, by omega⟩
    obtain ⟨a, a1, a2⟩ := bg_eq (n := sHi c) (f := f) (by omega) h1 (by omega)
    obtain ⟨b, b1, b2⟩ := bg_eq (n := sLo c - 1) (f := f) (by omega) h1 (by omega)
    rw [F_w_split_41, F_m_split_49, show (9 : Int32) = nI 9 from rfl, if_neg (by rw [lt_nI (by decide) (by omega)]; omega), (show (10 : Int32) = nI 10 from rfl), if_neg (nI_ge (by omega) (by decide)), ck_t (nzI_nI hk (by omega)), ck_t (nzI_nI hk (by omega)), c1, c2, m1, m2, (show (1 : Int64) = lN 1 from rfl), lN_sub g1', a1, a2, b1, b2, b1_s, b1_s, b1_s, b1_s]
    unfold F_w_split_88 F_m_split_90
    rw [show nI f + (1 : Int32) = nI (f + 1) from nI_add f 1]
    by_cases w : (nI f - 1) - (nI f - 1) / nI k * nI k = nI i
    · rw [if_pos w, if_pos w]
      exact ih n n' (f + 1) _ (by omega) (by omega) (by omega) (by omega)
    · rw [if_neg w, if_neg w]
      exact ih n n' (f + 1) _ (by omega) (by omega) (by omega) (by omega)
theorem split_ok {S M O : Sto} (h : Rl S M) (x y : Int32) : ∃ k O' b M', F_l_split x y S O = some (k, O') ∧ F_m_split x y M = some (b, M') ∧ gi M' 1001 = k ∧ (k = 0 → al O' 2000 (Int32.toNatClampNeg 0) = b) ∧ Rl S M' := by
  obtain ⟨t, f, Z, c, i, h1, h2, h3, hC, hM⟩ := h
  by_cases hx : ∃ k, 1 ≤ k ∧ k ≤ 9 ∧ x = nI k
  · obtain ⟨k, k1, k2, rfl⟩ := hx
    by_cases hy : ∃ i, i < k ∧ y = nI i
    · obtain ⟨e, e1, rfl⟩ := hy
      obtain ⟨r, r1, r2⟩ := sp_lp h2 hC.sc (hM.cd 0).sc k1 k2 e1 9 FU FU 1 0 rfl (by rw [FU_v]; decide) (by rw [FU_v]; decide) (by decide)
      refine ⟨0, oW O r, r, si M 1001 0, ?_, ?_, rfl, fun _ => rfl, t, f, Z, c, i, h1, h2, h3, hC, hM.cd 0⟩
      · unfold F_l_split F_w_split
        rw [(show (1 : Int32) = nI 1 from rfl), if_neg (by rw [lt_nI (by omega) (by decide)]; omega), show (9 : Int32) = nI 9 from rfl, if_pos (nI_le k2 (by decide)), if_neg (nI_pos (by omega)), if_pos (nI_lt e1 (by omega)), r1, b1_s, su_l]
      · unfold F_m_split
        rw [show (Int32.toInt64 (nI k)) = lN k from i2l_nI (by omega), (show (1 : Int64) = lN 1 from rfl), (show (9 : Int64) = lN 9 from rfl), isIn_y k1 k2 (by decide), b1_s, if_neg I1_0, isNet_y e1 (by omega), b1_s, if_neg I1_0]
        exact r2
    · refine ⟨1, O, 0, si (si M 1001 0) 1001 1, ?_, ?_, rfl, fun e => absurd e (by decide), t, f, Z, c, i, h1, h2, h3, hC, (hM.cd 0).cd 1⟩
      · have eC : F_w_split (nI k) y S = some (.inr 1) := by
          unfold F_w_split F_w_split_28
          rw [(show (1 : Int32) = nI 1 from rfl), if_neg (by rw [lt_nI (by omega) (by decide)]; omega), show (9 : Int32) = nI 9 from rfl, if_pos (nI_le k2 (by decide))]
          by_cases q : y < 0
          · rw [if_pos q]
          · rw [if_neg q, if_neg]
            obtain ⟨e, he, rfl⟩ := nI_of q
            rw [lt_nI he (by omega)]
            exact fun r => hy ⟨e, r, rfl⟩
        unfold F_l_split
        rw [eC, b1_s, su_r]
        rfl
      · unfold F_m_split
        rw [show (Int32.toInt64 (nI k)) = lN k from i2l_nI (by omega), (show (1 : Int64) = lN 1 from rfl), (show (9 : Int64) = lN 9 from rfl), isIn_y k1 k2 (by decide), b1_s, if_neg I1_0, isNet_n (by omega) hy, b1_s, if_pos rfl]
        rfl
  · refine ⟨2, O, 0, si (si M 1001 0) 1001 2, ?_, ?_, rfl, fun e => absurd e (by decide), t, f, Z, c, i, h1, h2, h3, hC, (hM.cd 0).cd 2⟩
    · have eC : F_w_split x y S = some (.inr 0) := by
        unfold F_w_split F_w_split_11
        rcases I_cases x with q | ⟨k, hk, rfl⟩
        · rw [if_pos (by rw [(show (1 : Int32) = nI 1 from rfl), neg_lt q (by decide)]; trivial)]
        · by_cases w : k < 1
          · rw [if_pos (by rw [(show (1 : Int32) = nI 1 from rfl), lt_nI hk (by decide)]; exact w)]
          · rw [if_neg (by rw [(show (1 : Int32) = nI 1 from rfl), lt_nI hk (by decide)]; exact w), if_neg]
            rw [show (9 : Int32) = nI 9 from rfl, le_nI hk (by decide)]
            exact fun r => hx ⟨k, by omega, r, rfl⟩
      unfold F_l_split
      rw [eC, b1_s, su_r]
      rfl
    · unfold F_m_split
      rw [(show (1 : Int64) = lN 1 from rfl), (show (9 : Int64) = lN 9 from rfl), isIn_n (by decide) (by decide), b1_s, if_pos rfl]
      · rfl
      · rintro ⟨k, k1, k2, k3⟩
        rw [in_wide (by omega)] at k3
        exact hx ⟨k, k1, k2, k3⟩
/-! figures of a number -/
def dg (n k : Nat) : Nat := n / 10 ^ k % 10
theorem dg_lt (n k : Nat) : dg n k < 10 := Nat.mod_lt _ (by decide)
theorem tf_lp {n : Nat} (hn : n ≤ 1000000000000000) : ∀ (j k f : Nat) (M : Sto), k + j = 16 → j < f → gi M 1028 = nI k → (∀ i, i < k → ai M 1024 i = nI (dg n i)) → (0 < k → 10 ^ (k - 1) ≤ n) →
    ∃ D M', F_m_tellFigures_7 f (lN (n / 10 ^ k)) M = some ((), M') ∧ Fr [1028] [] [1024] [] [] M M' ∧ gi M' 1028 = nI D ∧ (∀ i, i < D → ai M' 1024 i = nI (dg n i)) ∧ D ≤ 16 ∧ n < 10 ^ D ∧ (0 < D → 10 ^ (D - 1) ≤ n) := by
  intro j
  induction j with
  | zero =>
    intro k f M hk hf hg hd hl
    obtain ⟨f, rfl⟩ : ∃ q, f = q + 1 := ⟨f - 1, by omega⟩
    have : k = 16 := by omega
    subst this
    refine ⟨16, M, ?_, Fr.rfl, hg, hd, by decide, by omega, hl⟩
    rw [Nat.div_eq_of_lt (by omega), F_m_tellFigures_7, if_pos (by decide)]
  | succ j ih =>
    intro k f M hk hf hg hd hl
    obtain ⟨f, rfl⟩ : ∃ q, f = q + 1 := ⟨f - 1, by omega⟩
    obtain ⟨p1, p2⟩ := p10 (show k ≤ 16 by omega)
    have hq : n / 10 ^ k ≤ n := Nat.div_le_self _ _
    by_cases q : n < 10 ^ k
    · refine ⟨k, M, ?_, Fr.rfl, hg, hd, by omega, q, hl⟩
      rw [Nat.div_eq_of_lt q, F_m_tellFigures_7, if_pos (by decide)]
    · have hpos : 0 < n / 10 ^ k := Nat.div_pos (by omega) (by omega)
      rw [F_m_tellFigures_7, (show (0 : Int64) = lN 0 from rfl), if_neg (by rw [le_lN (by omega) (by decide)]; omega), hg, ck_t (ib_nI (by omega) (by decide)), nI_clamp (by omega), (show (10 : Int64) = lN 10 from rfl), rem_lN (by omega) (by decide) (by decide), div_lN (by omega) (by decide) (by decide), l2i_lN, gi_ui, hg, (show (1 : Int32) = nI 1 from rfl), nI_add, Nat.div_div_eq_div_mul, ← Nat.pow_succ]
      obtain ⟨D, M', a1, a2, a3⟩ := ih (k + 1) f (si (ui M 1024 (upd (ai M 1024) k (nI (n / 10 ^ k % 10)))) 1028 (nI (k + 1))) (by omega) (by omega) rfl (fun i hi => by
        show upd (ai M 1024) k (nI (n / 10 ^ k % 10)) i = _
        rw [upd_at]
        by_cases w : i = k
        · rw [if_pos w, w]; rfl
        · rw [if_neg w]; exact hd i (by omega)) (fun _ => by rw [Nat.add_sub_cancel]; omega)
      exact ⟨D, M', a1, Fr.trans ((Fr.rfl.ui (by decide)).si (by decide)) a2, a3⟩
theorem tf_ok {n : Nat} (hn : n ≤ 1000000000000000) (M : Sto) : ∃ D M', F_m_tellFigures (lN n) M = some ((), M') ∧ Fr [1028] [] [1024] [] [] M M' ∧ gi M' 1028 = nI D ∧ (∀ i, i < D → ai M' 1024 i = nI (dg n i)) ∧ D ≤ 16 ∧ n < 10 ^ D ∧ (0 < D → 10 ^ (D - 1) ≤ n) := by
  obtain ⟨D, M', a1, a2, a3⟩ := tf_lp hn 16 0 FU (si M 1028 0) rfl (by rw [FU_v]; decide) rfl (fun i hi => absurd hi (Nat.not_lt_zero i)) (fun h => absurd h (Nat.not_lt_zero 0))
  rw [Nat.pow_zero, Nat.div_one] at a1
  exact ⟨D, M', a1, Fr.trans (Fr.rfl.si (by decide)) a2, a3⟩
/-! numbers without a figure -/
def cx (f x d : Nat) : Nat := d - x - (if x ≤ f ∧ f < d then 1 else 0)
def gA (f : Nat) : Nat := if f = 0 then 9 else 8
def gG (k : Nat) : Nat := fb_sm (fun j => 9 ^ j) k
theorem gG_s (k : Nat) : gG (k + 1) = gG k + 9 ^ k := rfl
def mS (n f : Nat) : Nat → Nat
  | 0 => 1
  | k + 1 => cx f 0 (dg n k) * 9 ^ k + (if dg n k = f then 0 else mS n f k)
theorem wo_117 {k13 : Int64 → Int32 → Int64 → Int32 → Int32 → Int64 → Option Int64} {x0 : Int64} {f d : Nat} {L x7 : Int64} {a b : Bool} (hf : f ≤ 9) (hd : d < 10) : F_Li_without_117 k13 x0 (nI f) L (bI b) (bI a) x7 (nI d) = k13 x0 (nI f) L (bI (b || decide (0 < d))) (bI (a && !((b || decide (0 < d)) && decide (d = f)))) (x7 / 10) := by
  unfold F_Li_without_117 F_Li_without_127 F_Li_without_132 F_Li_without_154 F_Li_without_150 F_Li_without_155
  have h1 : (nI d = nI f) = (d = f) := eq_nI (by omega) (by omega)
  have h0 : (nI d ≤ 0) = (d ≤ 0) := by rw [(show (0 : Int32) = nI 0 from rfl), le_nI (by omega) (by decide)]
  cases b
  · rw [if_pos (show bI false = 0 from rfl)]
    by_cases q : 0 < d
    · rw [if_neg (by rw [h0]; omega), decide_eq_true q, Bool.or_true]
      cases a
      · rw [if_pos (show bI false = 0 from rfl)]; rfl
      · rw [if_neg (show ¬ bI true = 0 by decide), if_neg (show ¬ (1 : Int32) = 0 by decide)]
        by_cases w : d = f
        · rw [if_pos (by rw [h1]; exact w), decide_eq_true w]; rfl
        · rw [if_neg (by rw [h1]; exact w), decide_eq_false w]; rfl
    · rw [if_pos (by rw [h0]; omega), decide_eq_false q, Bool.or_false, Bool.false_and]
      cases a
      · rw [if_pos (show bI false = 0 from rfl)]; rfl
      · rw [if_neg (show ¬ bI true = 0 by decide), if_pos (show (0 : Int32) = 0 from rfl)]; rfl
  · rw [if_neg (show ¬ bI true = 0 by decide), Bool.true_or]
    cases a
    · rw [if_pos (show bI false = 0 from rfl)]; rfl
    · rw [if_neg (show ¬ bI true = 0 by decide), if_neg (show ¬ (1 : Int32) = 0 by decide)]
      by_cases w : d = f
      · rw [if_pos (by rw [h1]; exact w), decide_eq_true w]; rfl
      · rw [if_neg (by rw [h1]; exact w), decide_eq_false w]; rfl
theorem dgL {n e : Nat} (hn : n ≤ 1000000000000000) (he : e ≤ 16) : Int64.toInt32 ((lN n / lN (10 ^ e)) - (lN n / lN (10 ^ e)) / 10 * 10) = nI (dg n e) := by
  obtain ⟨p1, p2⟩ := p10 he
  have hq : n / 10 ^ e ≤ n := Nat.div_le_self _ _
  rw [div_lN (by omega) (by omega) (by omega), show (10 : Int64) = lN 10 from rfl, rem_lN (by omega) (by decide) (by decide), l2i_lN]
  rfl
/-- the class behind the first figure: e + 1 figures are left -/
theorem woC2 {n f : Nat} (hn : n ≤ 1000000000000000) (hf : f ≤ 9) : ∀ (e k L : Nat) (a : Bool), e ≤ 15 → e + 2 ≤ k → F_Li_without_13 k (lN n) (nI f) (lN L) (bI true) (bI a) (lN (10 ^ e)) = some (lN (L * 9 ^ (e + 1) + gA f * gG (e + 1) + (if a then mS n f (e + 1) else 0))) := by
  have step : ∀ (e k L : Nat) (a : Bool), e ≤ 15 → F_Li_without_13 (k + 1) (lN n) (nI f) (lN L) (bI true) (bI a) (lN (10 ^ e)) = F_Li_without_13 k (lN n) (nI f) (lN (L * 9 + gA f + (if a then cx f 0 (dg n e) else 0))) (bI true) (bI (a && !decide (dg n e = f))) (lN (10 ^ e / 10)) := by
    intro e k L a he
    obtain ⟨p1, p2⟩ := p10 (show e ≤ 16 by omega)
    have hd := dg_lt n e
    rw [F_Li_without_13, dgL hn (by omega), (show (0 : Int64) = lN 0 from rfl), if_neg (by rw [le_lN (by omega) (by decide)]; omega), ck_t (nzL_lN (by omega) (by omega)), if_neg (show ¬ bI true = 0 by decide), (show (9 : Int64) = lN 9 from rfl), lN_mul]
    have e56 : ∀ s : Nat, F_Li_without_56 (F_Li_without_13 k) (lN n) (nI f) (bI true) (bI a) (lN (10 ^ e)) (nI (dg n e)) (lN (L * 9)) (lN s) = F_Li_without_13 k (lN n) (nI f) (lN (L * 9 + s + (if a then cx f 0 (dg n e) else 0))) (bI true) (bI (a && !decide (dg n e = f))) (lN (10 ^ e / 10)) := by
      intro s
      unfold F_Li_without_56 F_Li_without_77 F_Li_without_83
      have e117 : ∀ v, F_Li_without_117 (F_Li_without_13 k) (lN n) (nI f) v (bI true) (bI a) (lN (10 ^ e)) (nI (dg n e)) = F_Li_without_13 k (lN n) (nI f) v (bI true) (bI (a && !decide (dg n e = f))) (lN (10 ^ e / 10)) := by
        intro v
        rw [wo_117 hf hd, show (10 : Int64) = lN 10 from rfl, div_lN (by omega) (by decide) (by decide), Bool.true_or, Bool.true_and]
      rw [e117, e117, e117, lN_add, (show (0 : Int32) = nI 0 from rfl), (show (1 : Int32) = nI 1 from rfl), (show (0 : Int64) = lN 0 from rfl)]
      cases a
      · rw [if_pos (show bI false = nI 0 from rfl), lN_add, if_neg (by decide)]
      · rw [if_neg (show ¬ bI true = nI 0 by decide), if_pos rfl]
        unfold cx
        by_cases w : dg n e ≤ f
        · rw [if_pos (nI_le w (by omega)), sub_nI (Nat.zero_le _), i2l_nI (by omega), lN_add, if_neg (by omega)]; rfl
        · rw [if_neg (nI_ge (by omega) (by omega)), sub_nI (by omega), i2l_nI (by omega), lN_add, if_pos ⟨Nat.zero_le _, by omega⟩]
          rfl
    unfold gA
    by_cases w : f = 0
    · rw [if_pos (by rw [w]; rfl), if_pos w, e56]
    · rw [if_neg (nI_ne0 (by omega) (by omega)), if_neg w, (show (8 : Int64) = lN 8 from rfl), e56]
  intro e
  induction e with
  | zero =>
    intro k L a he hk
    obtain ⟨k, rfl⟩ : ∃ q, k = q + 1 + 1 := ⟨k - 2, by omega⟩
    have hm : mS n f 1 = cx f 0 (dg n 0) * 1 + (if dg n 0 = f then 0 else 1) := rfl
    rw [step 0 (k + 1) L a (by decide), F_Li_without_13, if_pos (by decide), if_neg (show ¬ bI true = 0 by decide), show gG (0 + 1) = 1 from rfl, Nat.zero_add, hm]
    cases a
    · rw [Bool.false_and, if_pos (show bI false = 0 from rfl), if_neg (by decide), if_neg (by decide)]
      refine congrArg (fun q => some (lN q)) ?_
      omega
    · rw [Bool.true_and, if_pos rfl, if_pos rfl]
      by_cases w : dg n 0 = f
      · rw [decide_eq_true w, if_pos (show bI (!true) = 0 from rfl), if_pos w]
        refine congrArg (fun q => some (lN q)) ?_
        omega
      · rw [decide_eq_false w, if_neg (show ¬ bI (!false) = 0 by decide), if_neg w, (show (1 : Int64) = lN 1 from rfl), lN_add]
        refine congrArg (fun q => some (lN q)) ?_
        omega
  | succ e ih =>
    intro k L a he hk
    obtain ⟨k, rfl⟩ : ∃ q, k = q + 1 := ⟨k - 1, by omega⟩
    have hm : mS n f (e + 1 + 1) = cx f 0 (dg n (e + 1)) * 9 ^ (e + 1) + (if dg n (e + 1) = f then 0 else mS n f (e + 1)) := rfl
    rw [step (e + 1) k L a he, show 10 ^ (e + 1) / 10 = 10 ^ e by rw [Nat.pow_succ, Nat.mul_div_cancel _ (by decide)], ih k _ _ (by omega) (by omega), gG_s (e + 1), hm, Nat.pow_succ 9 (e + 1)]
    refine congrArg (fun q => some (lN q)) ?_
    generalize 9 ^ (e + 1) = P
    have d1 : (L * 9 + gA f + (if a = true then cx f 0 (dg n (e + 1)) else 0)) * P = L * (P * 9) + gA f * P + (if a = true then cx f 0 (dg n (e + 1)) * P else 0) := by
      rw [Nat.add_mul, Nat.add_mul, Nat.mul_assoc L 9 P, Nat.mul_comm 9 P]
      congr 1
      cases a
      · rw [if_neg (by decide), if_neg (by decide), Nat.zero_mul]
      · rw [if_pos rfl, if_pos rfl]
    rw [d1, Nat.mul_add]
    cases a
    · rw [Bool.false_and, if_neg (by decide), if_neg (by decide), if_neg (by decide)]
      omega
    · rw [Bool.true_and, if_pos rfl, if_pos rfl]
      by_cases w : dg n (e + 1) = f
      · rw [decide_eq_true w, if_pos w, if_neg (by decide)]; omega
      · rw [decide_eq_false w, if_neg w, if_pos (by decide)]; omega
/-- what both tell of a number of D figures -/
def woV (n f D : Nat) : Nat := gA f * gG (D - 1) + cx f 1 (dg n (D - 1)) * 9 ^ (D - 1) + (if dg n (D - 1) = f then 0 else mS n f (D - 1))
theorem woC1 {n f D : Nat} (hn : n ≤ 1000000000000000) (hf : f ≤ 9) (hD : 0 < D) (hl : 10 ^ (D - 1) ≤ n) (hu : n < 10 ^ D) : ∀ (j e k : Nat), e = D - 1 + j → e ≤ 15 → e + 2 ≤ k → F_Li_without_13 k (lN n) (nI f) (lN 0) (bI false) (bI true) (lN (10 ^ e)) = some (lN (woV n f D)) := by
  intro j
  induction j with
  | zero =>
    intro e k he he15 hk
    obtain ⟨k, rfl⟩ : ∃ q, k = q + 1 := ⟨k - 1, by omega⟩
    have he' : e = D - 1 := by omega
    subst he'
    obtain ⟨p1, p2⟩ := p10 (show D - 1 ≤ 16 by omega)
    have hd := dg_lt n (D - 1)
    have hq : n / 10 ^ (D - 1) < 10 := by
      rw [Nat.div_lt_iff_lt_mul (by omega)]
      rw [show D = D - 1 + 1 by omega, Nat.pow_succ, Nat.mul_comm] at hu
      exact hu
    have hdv : dg n (D - 1) = n / 10 ^ (D - 1) := Nat.mod_eq_of_lt hq
    have hpos : 0 < dg n (D - 1) := by rw [hdv]; exact Nat.div_pos hl (by omega)
    rw [F_Li_without_13, dgL hn (by omega), (show (0 : Int64) = lN 0 from rfl), if_neg (by rw [le_lN (by omega) (by decide)]; omega), ck_t (nzL_lN (by omega) (by omega)), if_pos (show bI false = 0 from rfl), if_neg (show ¬ nI (dg n (D - 1)) ≤ 0 by rw [(show (0 : Int32) = nI 0 from rfl), le_nI (by omega) (by decide)]; omega), (show (9 : Int64) = lN 9 from rfl), lN_mul, Nat.zero_mul]
    unfold F_Li_without_112 F_Li_without_113
    have e117 : ∀ v, F_Li_without_117 (F_Li_without_13 k) (lN n) (nI f) v (bI false) (bI true) (lN (10 ^ (D - 1))) (nI (dg n (D - 1))) = F_Li_without_13 k (lN n) (nI f) v (bI true) (bI (!decide (dg n (D - 1) = f))) (lN (10 ^ (D - 1) / 10)) := by
      intro v
      rw [wo_117 hf hd, show (10 : Int64) = lN 10 from rfl, div_lN (by omega) (by decide) (by decide), decide_eq_true hpos, Bool.false_or, Bool.true_and, Bool.true_and]
    rw [e117, e117, (show (1 : Int32) = nI 1 from rfl), (show (0 : Int32) = nI 0 from rfl), sub_nI (by omega), sub_nI (Nat.zero_le _), i2l_nI (by omega), lN_add, Nat.zero_add, Nat.sub_zero]
    have key : ∀ v, v = cx f 1 (dg n (D - 1)) → F_Li_without_13 k (lN n) (nI f) (lN v) (bI true) (bI (!decide (dg n (D - 1) = f))) (lN (10 ^ (D - 1) / 10)) = some (lN (woV n f D)) := by
      intro v hv
      unfold woV
      by_cases w : D - 1 = 0
      · obtain ⟨k, rfl⟩ : ∃ q, k = q + 1 := ⟨k - 1, by omega⟩
        rw [w] at hv ⊢
        have e0 : gA f * gG 0 = 0 := rfl
        rw [F_Li_without_13, if_pos (by decide), if_neg (show ¬ bI true = 0 by decide), Nat.pow_zero, Nat.mul_one, e0, ← hv]
        by_cases u : dg n 0 = f
        · rw [decide_eq_true u, if_pos (show bI (!true) = 0 from rfl), if_pos u, Nat.zero_add, Nat.add_zero]
        · rw [decide_eq_false u, if_neg (show ¬ bI (!false) = 0 by decide), if_neg u, (show (1 : Int64) = lN 1 from rfl), lN_add, Nat.zero_add]
          rfl
      · obtain ⟨q, hq2⟩ : ∃ q, D - 1 = q + 1 := ⟨D - 2, by omega⟩
        rw [hq2] at hv ⊢
        rw [Nat.pow_succ 10, Nat.mul_div_cancel _ (by decide), woC2 hn hf q k v _ (by omega) (by omega), ← hv]
        refine congrArg (fun q => some (lN q)) ?_
        by_cases u : dg n (q + 1) = f
        · rw [decide_eq_true u, if_pos u, if_neg (by decide)]; omega
        · rw [decide_eq_false u, if_neg u, if_pos (by decide)]; omega
    by_cases q1 : f = 0
    · rw [if_pos (by rw [q1]; decide)]
      exact key _ (by unfold cx; rw [if_neg (by omega)]; rfl)
    · rw [if_neg (by rw [le_nI (by omega) (by decide)]; omega)]
      by_cases q2 : dg n (D - 1) ≤ f
      · rw [if_pos (nI_le q2 (by omega))]
        exact key _ (by unfold cx; rw [if_neg (by omega)]; rfl)
      · rw [if_neg (nI_ge (by omega) (by omega)), sub_nI (by omega), i2l_nI (by omega)]
        have hz : ∀ v, lN 0 + lN v = lN v := fun v => by rw [lN_add, Nat.zero_add]
        rw [hz]
        exact key _ (by unfold cx; rw [if_pos ⟨by omega, by omega⟩])
  | succ j ih =>
    intro e k he he15 hk
    obtain ⟨k, rfl⟩ : ∃ q, k = q + 1 := ⟨k - 1, by omega⟩
    obtain ⟨p1, p2⟩ := p10 (show e ≤ 16 by omega)
    have hlt : n < 10 ^ e := Nat.lt_of_lt_of_le hu (Nat.pow_le_pow_right (by decide) (by omega))
    have h0 : dg n e = 0 := by unfold dg; rw [Nat.div_eq_of_lt hlt]
    rw [F_Li_without_13, dgL hn (by omega), (show (0 : Int64) = lN 0 from rfl), if_neg (by rw [le_lN (by omega) (by decide)]; omega), ck_t (nzL_lN (by omega) (by omega)), if_pos (show bI false = 0 from rfl), h0, if_pos (by decide), (show (9 : Int64) = lN 9 from rfl), lN_mul, Nat.zero_mul, wo_117 hf (by decide), show (10 : Int64) = lN 10 from rfl, div_lN (by omega) (by decide) (by decide), decide_eq_false (by decide), Bool.or_false, Bool.false_and]
    obtain ⟨q, rfl⟩ : ∃ q, e = q + 1 := ⟨e - 1, by omega⟩
    rw [Nat.pow_succ 10, Nat.mul_div_cancel _ (by decide)]
    exact ih q k (by omega) (by omega) (by omega)
/-! the model's -/
theorem wm_92 {n f D : Nat} {M : Sto} {k65 : Int32 → Int64 → Int64 → Int32 → Sto → Option (Int64 × Sto)} (hf : f ≤ 9) {k : Nat} (hk : k < 17) (hd : ai M 1024 k = nI (dg n k)) (hr : 9 ^ k < 9223372036854775808) : ∀ (j m x : Nat) (v : Nat), x + j = dg n k → j < m → F_m_without_92 k65 m (nI f) (lN v) (lN (9 ^ k)) (nI k) (nI x) M = if dg n k = f then some (lN (v + cx f x (dg n k) * 9 ^ k), M) else k65 (nI f) (lN (v + cx f x (dg n k) * 9 ^ k)) (lN (9 ^ k / 9)) (nI k + -1) M := by
  have hdl := dg_lt n k
  intro j
  induction j with
  | zero =>
    intro m x v hx hm
    obtain ⟨m, rfl⟩ : ∃ q, m = q + 1 := ⟨m - 1, by omega⟩
    have hx : x = dg n k := by omega
    have hc : cx f x (dg n k) = 0 := by unfold cx; rw [hx]; split <;> omega
    rw [F_m_without_92, ck_t (ib_nI hk (by decide)), nI_clamp (by omega), hd, if_pos (nI_le (by omega) (by omega)), ck_t (ib_nI hk (by decide)), hc, Nat.zero_mul, Nat.add_zero, show (9 : Int64) = lN 9 from rfl, div_lN hr (by decide) (by decide)]
    by_cases w : dg n k = f
    · rw [if_pos (by rw [w]), if_pos w]
    · rw [if_neg (by rw [eq_nI (by omega) (by omega)]; exact w), if_neg w]
  | succ j ih =>
    intro m x v hx hm
    obtain ⟨m, rfl⟩ : ∃ q, m = q + 1 := ⟨m - 1, by omega⟩
    rw [F_m_without_92, ck_t (ib_nI hk (by decide)), nI_clamp (by omega), hd, if_neg (nI_ge (by omega) (by omega))]
    unfold F_m_without_118
    rw [(show (0 : Int64) = lN 0 from rfl), lN_add, lN_add, show nI x + (1 : Int32) = nI (x + 1) from nI_add x 1]
    by_cases w : x = f
    · have hc : cx f x (dg n k) = cx f (x + 1) (dg n k) := by
        unfold cx
        rw [if_pos ⟨by omega, by omega⟩, if_neg (by omega)]
        omega
      rw [if_pos (by rw [w]), ih m (x + 1) _ (by omega) (by omega), hc, Nat.add_zero]
    · have hc : cx f x (dg n k) = cx f (x + 1) (dg n k) + 1 := by
        unfold cx
        by_cases u : x ≤ f ∧ f < dg n k
        · rw [if_pos u, if_pos ⟨by omega, u.2⟩]; omega
        · rw [if_neg u, if_neg (by omega)]; omega
      rw [if_neg (by rw [eq_nI (by omega) (by omega)]; exact w), ih m (x + 1) _ (by omega) (by omega), hc, Nat.add_mul, Nat.one_mul, show v + 9 ^ k + cx f (x + 1) (dg n k) * 9 ^ k = v + (cx f (x + 1) (dg n k) * 9 ^ k + 9 ^ k) by omega]
theorem p9 {e : Nat} (h : e ≤ 16) : 1 ≤ 9 ^ e ∧ 9 ^ e ≤ 1853020188851841 := ⟨Nat.pow_pos (by decide), Nat.le_trans (Nat.pow_le_pow_right (by decide) h) (by decide)⟩
theorem wm_65 {n f D : Nat} {M : Sto} (hf : f ≤ 9) (hD : D ≤ 16) (hg : gi M 1028 = nI D) (hd : ∀ i, i < D → ai M 1024 i = nI (dg n i)) : ∀ (k m v : Nat), k < D → k < m → F_m_without_65 m (nI f) (lN v) (lN (9 ^ k / 9)) (nI k + -1) M = some (lN (v + mS n f k), M) := by
  intro k
  induction k with
  | zero =>
    intro m v hk hm
    obtain ⟨m, rfl⟩ : ∃ q, m = q + 1 := ⟨m - 1, by omega⟩
    rw [F_m_without_65, if_pos (by decide), (show (1 : Int64) = lN 1 from rfl), lN_add]
    rfl
  | succ k ih =>
    intro m v hk hm
    obtain ⟨m, rfl⟩ : ∃ q, m = q + 1 := ⟨m - 1, by omega⟩
    obtain ⟨p1, p2⟩ := p9 (show k ≤ 16 by omega)
    have hm2 : mS n f (k + 1) = cx f 0 (dg n k) * 9 ^ k + (if dg n k = f then 0 else mS n f k) := rfl
    have hdl := dg_lt n k
    rw [F_m_without_65, pk_m1, if_neg (nI_pos (by omega)), hg, show nI D - (1 : Int32) = nI (D - 1) from sub_nI (show 1 ≤ D by omega), if_neg (by rw [eq_nI (by omega) (by omega)]; omega), Nat.pow_succ 9, Nat.mul_div_cancel _ (by decide)]
    unfold F_m_without_86
    rw [(show (0 : Int32) = nI 0 from rfl), wm_92 (D := D) hf (by omega) (hd k (by omega)) (by omega) (dg n k) FU 0 v (Nat.zero_add _) (by rw [FU_v]; omega), hm2]
    by_cases w : dg n k = f
    · rw [if_pos w, if_pos w, Nat.add_zero]
    · rw [if_neg w, if_neg w, ih m _ (by omega) (by omega), Nat.add_assoc]
theorem wm_14 {n f D : Nat} {M : Sto} (hf : f ≤ 9) (hz : 1 ≤ dg n (D - 1)) (hD0 : 0 < D) (hD : D ≤ 16) (hg : gi M 1028 = nI D) (hd : ∀ i, i < D → ai M 1024 i = nI (dg n i)) : ∀ (j k m : Nat), k + j = D → j < m → 1 ≤ k → F_m_without_14 m (nI f) (lN (gA f * gG (k - 1))) (lN (9 ^ (k - 1))) (nI k) M = some (lN (woV n f D), M) := by
  intro j
  induction j with
  | zero =>
    intro k m hk hm h1
    obtain ⟨m, rfl⟩ : ∃ q, m = q + 1 := ⟨m - 1, by omega⟩
    have : k = D := by omega
    subst this
    have hr : FU = 1099511627775 + 1 := rfl
    obtain ⟨p1, p2⟩ := p9 (show k - 1 ≤ 16 by omega)
    have hdl := dg_lt n (k - 1)
    rw [F_m_without_14, hg, if_pos (nI_le (by omega) (by omega)), show nI k - (1 : Int32) = nI (k - 1) from sub_nI h1, show F_m_without_65 FU = F_m_without_65 (1099511627775 + 1) from rfl, F_m_without_65, if_neg (nI_pos (by omega)), hg, show nI k - (1 : Int32) = nI (k - 1) from sub_nI h1, if_pos rfl]
    unfold F_m_without_86 woV
    have hpos : cx f 1 (dg n (k - 1)) = cx f 1 (dg n (k - 1)) := rfl
    by_cases z : 1 ≤ dg n (k - 1)
    · rw [(show (1 : Int32) = nI 1 from rfl), wm_92 (D := k) hf (by omega) (hd (k - 1) (by omega)) (by omega) (dg n (k - 1) - 1) FU 1 _ (by omega) (by rw [FU_v]; omega)]
      by_cases w : dg n (k - 1) = f
      · rw [if_pos w, if_pos w, Nat.add_zero]
      · rw [if_neg w, if_neg w, wm_65 hf hD hg hd (k - 1) 1099511627775 _ (by omega) (by omega)]
    · exact absurd hz z
  | succ j ih =>
    intro k m hk hm h1
    obtain ⟨m, rfl⟩ : ∃ q, m = q + 1 := ⟨m - 1, by omega⟩
    have e := ih (k + 1) m (by omega) (by omega) (by omega)
    rw [Nat.add_sub_cancel] at e
    obtain ⟨k0, rfl⟩ : ∃ q, k = q + 1 := ⟨k - 1, by omega⟩
    rw [Nat.add_sub_cancel]
    rw [gG_s, Nat.mul_add, Nat.pow_succ] at e
    rw [F_m_without_14, hg, if_neg (nI_ge (by omega) (by omega))]
    unfold F_m_without_38
    rw [show nI (k0 + 1) + (1 : Int32) = nI (k0 + 1 + 1) from nI_add _ 1, (show (9 : Int64) = lN 9 from rfl), lN_mul]
    by_cases w : f = 0
    · have ga : gA f = 9 := by unfold gA; rw [if_pos w]
      rw [ga] at e ⊢
      rw [if_pos (by rw [w]; rfl), show (Int32.toInt64 9) = lN 9 from by decide, lN_mul, lN_add, Nat.mul_comm (9 ^ k0) 9]
      rw [Nat.mul_comm (9 ^ k0) 9] at e
      exact e
    · have ga : gA f = 8 := by unfold gA; rw [if_neg w]
      rw [ga] at e ⊢
      rw [if_neg (nI_ne0 (by omega) (by omega)), show (Int32.toInt64 8) = lN 8 from by decide, lN_mul, lN_add, Nat.mul_comm (9 ^ k0) 8]
      exact e
theorem top_pos {n D : Nat} (hD : 0 < D) (hl : 10 ^ (D - 1) ≤ n) (hu : n < 10 ^ D) : 1 ≤ dg n (D - 1) := by
  have hp : 0 < 10 ^ (D - 1) := Nat.pow_pos (by decide)
  have hq : n / 10 ^ (D - 1) < 10 := by
    rw [Nat.div_lt_iff_lt_mul hp]
    rw [show D = D - 1 + 1 by omega, Nat.pow_succ, Nat.mul_comm] at hu
    exact hu
  have hdv : dg n (D - 1) = n / 10 ^ (D - 1) := Nat.mod_eq_of_lt hq
  rw [hdv]
  exact Nat.div_pos hl hp
theorem wlic_y {k : Nat} (h : k ≤ 1000000000000000) : F_w_isLicence (lN k) = some 1 := by
  unfold F_w_isLicence
  rw [(show (0 : Int64) = lN 0 from rfl), if_neg (by rw [lt_lN (by omega) (by decide)]; omega), (show (1000000000000000 : Int64) = lN 1000000000000000 from rfl), if_neg (by rw [lt_lN (by omega) (by omega)]; omega)]
def isLi (x : Int64) : Prop := ∃ k, 0 ≤ k ∧ k ≤ 1000000000000000 ∧ x = lN k
theorem wlic_n {x : Int64} (h : ¬ isLi x) : F_w_isLicence x = some 0 := isIn_n (x := x) (a := 0) (b := 1000000000000000) (by decide) (by decide) h
theorem mlic_y {k : Nat} (h : k ≤ 1000000000000000) : F_m_isLicence (lN k) = some 1 := by
  unfold F_m_isLicence
  rw [(show (0 : Int64) = lN 0 from rfl), (show (1000000000000000 : Int64) = lN 1000000000000000 from rfl), isIn_y (Nat.zero_le _) h (by decide), b1_s, ck_t (by decide)]
theorem mlic_n {x : Int64} (h : ¬ isLi x) : F_m_isLicence x = some 0 := by
  unfold F_m_isLicence
  rw [(show (0 : Int64) = lN 0 from rfl), (show (1000000000000000 : Int64) = lN 1000000000000000 from rfl), isIn_n (by decide) (by decide) h, b1_s, ck_t (by decide)]
theorem wo_eq {n f : Nat} (h0 : 0 < n) (hn : n ≤ 1000000000000000) (hf : f ≤ 9) (M : Sto) : ∃ v M', F_Li_without (lN n) (nI f) = some v ∧ F_m_without (lN n) (nI f) M = some (v, M') ∧ Fr [1028] [] [1024] [] [] M M' := by
  obtain ⟨D, M', a1, a2, a3, a4, a5, a6, a7⟩ := tf_ok hn M
  have hD : 0 < D := by
    refine Nat.pos_of_ne_zero (fun r => ?_)
    subst r
    rw [Nat.pow_zero] at a6
    omega
  refine ⟨lN (woV n f D), M', ?_, ?_, a2⟩
  · unfold F_Li_without
    exact woC1 hn hf hD (a7 hD) a6 (16 - D) 15 FU (by omega) (by decide) (by rw [FU_v]; decide)
  · unfold F_m_without
    rw [a1, b2_s]
    exact wm_14 hf (top_pos hD (a7 hD) a6) hD a5 a3 a4 (D - 1) 1 FU (by omega) (by rw [FU_v]; omega) (by decide)
theorem figures_ok {S M O : Sto} (h : Rl S M) (x : Int64) (y : Int32) (w : Bool) : ∃ k O' b M', F_l_figures x y (bI w) O = some (k, O') ∧ F_m_figures x y (bI w) M = some (b, M') ∧ gi M' 1001 = k ∧ (k = 0 → al O' 2000 (Int32.toNatClampNeg 0) = b) ∧ Rl S M' := by
  obtain ⟨t, f, Z, c, i, h1, h2, h3, hC, hM⟩ := h
  by_cases hy : ∃ k, 0 ≤ k ∧ k ≤ 9 ∧ y = nI k
  · obtain ⟨e, _, e9, rfl⟩ := hy
    have w1 : F_w_figures x (nI e) (bI w) = b1 (F_w_isLicence x) (fun r1 => if r1 = 0 then some (.inr 0) else if bI w = 0 then b1 (F_Li_beginning x (nI e)) (fun r3 => some (.inl r3)) else b1 (F_Li_without x (nI e)) (fun r5 => some (.inl (x - r5)))) := by
      unfold F_w_figures
      rw [if_neg (nI_pos (by omega)), show (9 : Int32) = nI 9 from rfl, if_pos (nI_le e9 (by decide))]
    have m1 : F_m_figures x (nI e) (bI w) M = b1 (F_m_isLicence x) (fun r3 => if r3 = 0 then b2 (F_m_fail 2 (si M 1001 0)) (fun r10 M12 => some ((Int32.toInt64 r10) , M12)) else if x = 0 then some (0, (si M 1001 0)) else if bI w = 0 then if nI e = 0 then some (0, (si M 1001 0)) else b1 (F_m_firstBy x (nI e)) (fun r5 => some (r5, (si M 1001 0))) else b2 (F_m_without x (nI e) (si M 1001 0)) (fun r7 M9 => some ((x - r7) , M9))) := by
      unfold F_m_figures
      rw [i2l_nI (by omega), (show (0 : Int64) = lN 0 from rfl), (show (9 : Int64) = lN 9 from rfl), isIn_y (Nat.zero_le _) e9 (by decide), b1_s, if_neg I1_0]
    by_cases hx : isLi x
    · obtain ⟨n, _, n2, rfl⟩ := hx
      rw [wlic_y n2, b1_s, if_neg I1_0] at w1
      rw [mlic_y n2, b1_s, if_neg I1_0] at m1
      have fin : ∀ r M', F_w_figures (lN n) (nI e) (bI w) = some (.inl r) → F_m_figures (lN n) (nI e) (bI w) M = some (r, M') → Fr [1028] [] [1024] [] [] (si M 1001 0) M' → ∃ k O' b M', F_l_figures (lN n) (nI e) (bI w) O = some (k, O') ∧ F_m_figures (lN n) (nI e) (bI w) M = some (b, M') ∧ gi M' 1001 = k ∧ (k = 0 → al O' 2000 (Int32.toNatClampNeg 0) = b) ∧ Rl S M' := by
        intro r M' r1 r2 r3
        refine ⟨0, oW O r, r, M', ?_, r2, ?_, fun _ => rfl, t, f, Z, c, i, h1, h2, h3, hC, RM_fq (hM.cd 0) r3 (by decide) (by decide) (by decide) (by decide)⟩
        · unfold F_l_figures
          rw [r1, b1_s, su_l]
        · rw [r3.gi _ (by decide)]; rfl
      by_cases z : n = 0
      · subst z
        rw [if_pos (show lN 0 = (0 : Int64) from rfl)] at m1
        refine fin 0 _ ?_ m1 Fr.rfl
        rw [w1]
        cases w
        · rw [if_pos (show bI false = 0 from rfl)]
          by_cases q : e = 0
          · subst q
            unfold F_Li_beginning
            rw [show FU = 1099511627775 + 1 from rfl, F_Li_beginning_7, if_neg (by decide), if_pos (by decide), b1_s]
          · have hb := bgC_lp (n := 0) (f := e) (by decide) (by omega) e9 15 FU 0 (by decide) (by rw [FU_v]; decide)
            have hz : fb_sm (bgt 0 e) 16 = 0 := by
              have hz2 : ∀ j, fb_sm (bgt 0 e) j = 0 := by
                intro j
                induction j with
                | zero => rfl
                | succ j ih =>
                  rw [fb_sm_succ, ih]
                  unfold bgt
                  have hf0 : 10 ^ j ≤ e * 10 ^ j := Nat.le_mul_of_pos_left _ (by omega)
                  have hp : 0 < 10 ^ j := Nat.pow_pos (by decide)
                  rw [if_neg (by omega)]
              exact hz2 16
            rw [Nat.zero_add, hz] at hb
            have hb' : F_Li_beginning (lN 0) (nI e) = some (lN 0) := hb
            rw [hb', b1_s]
            rfl
        · rw [if_neg (show ¬ bI true = 0 by decide)]
          have hz : F_Li_without (lN 0) (nI e) = some (lN 0) := by
            unfold F_Li_without
            have lead : ∀ (q k : Nat), q ≤ 15 → q + 2 ≤ k → F_Li_without_13 k (lN 0) (nI e) (lN 0) (bI false) (bI true) (lN (10 ^ q)) = some (lN 0) := by
              have st : ∀ (q k : Nat), q ≤ 15 → F_Li_without_13 (k + 1) (lN 0) (nI e) (lN 0) (bI false) (bI true) (lN (10 ^ q)) = F_Li_without_13 k (lN 0) (nI e) (lN 0) (bI false) (bI true) (lN (10 ^ q / 10)) := by
                intro q k hq
                obtain ⟨p1, p2⟩ := p10 (show q ≤ 16 by omega)
                have h0 : dg 0 q = 0 := by unfold dg; rw [Nat.zero_div]
                rw [F_Li_without_13, dgL (by decide) (by omega), show (if lN (10 ^ q) ≤ 0 then _ else _ : Option Int64) = _ from if_neg (by rw [(show (0 : Int64) = lN 0 from rfl), le_lN (by omega) (by decide)]; omega), ck_t (nzL_lN (by omega) (by omega)), if_pos (show bI false = 0 from rfl), h0, if_pos (by decide), (show (9 : Int64) = lN 9 from rfl), lN_mul, Nat.zero_mul, wo_117 e9 (by decide), show (10 : Int64) = lN 10 from rfl, div_lN (by omega) (by decide) (by decide), decide_eq_false (by decide), Bool.or_false, Bool.false_and]
                rfl
              intro q
              induction q with
              | zero =>
                intro k hq hk
                obtain ⟨k, rfl⟩ : ∃ q, k = q + 1 + 1 := ⟨k - 2, by omega⟩
                rw [st 0 (k + 1) (by decide), F_Li_without_13, if_pos (by decide), if_pos (show bI false = 0 from rfl)]
              | succ q ih =>
                intro k hq hk
                obtain ⟨k, rfl⟩ : ∃ q, k = q + 1 := ⟨k - 1, by omega⟩
                rw [st (q + 1) k hq, Nat.pow_succ, Nat.mul_div_cancel _ (by decide)]
                exact ih k (by omega) (by omega)
            exact lead 15 FU (by decide) (by rw [FU_v]; decide)
          rw [hz, b1_s]
          rfl
      · rw [if_neg (by rw [(show (0 : Int64) = lN 0 from rfl), eq_lN (by omega) (by decide)]; exact z)] at m1
        cases w
        · rw [if_pos (show bI false = 0 from rfl)] at w1 m1
          by_cases q : e = 0
          · subst q
            rw [if_pos (show nI 0 = 0 from rfl)] at m1
            refine fin 0 _ ?_ m1 Fr.rfl
            rw [w1]
            unfold F_Li_beginning
            rw [show FU = 1099511627775 + 1 from rfl, F_Li_beginning_7, if_neg (by decide), if_pos (by decide), b1_s]
          · rw [if_neg (nI_ne0 (by omega) (by omega))] at m1
            obtain ⟨v, v1, v2⟩ := bg_eq (n := n) (f := e) n2 (by omega) e9
            rw [v1, b1_s] at w1
            rw [v2, b1_s] at m1
            exact fin _ _ w1 m1 Fr.rfl
        · rw [if_neg (show ¬ bI true = 0 by decide)] at w1 m1
          obtain ⟨v, M', v1, v2, v3⟩ := wo_eq (n := n) (f := e) (by omega) n2 e9 (si M 1001 0)
          rw [v1, b1_s] at w1
          rw [v2, b2_s] at m1
          exact fin _ _ w1 m1 v3
    · refine ⟨2, O, 0, si (si M 1001 0) 1001 2, ?_, ?_, rfl, fun e => absurd e (by decide), t, f, Z, c, i, h1, h2, h3, hC, (hM.cd 0).cd 2⟩
      · unfold F_l_figures
        rw [w1, wlic_n hx, b1_s, if_pos rfl, b1_s, su_r]
        rfl
      · rw [m1, mlic_n hx, b1_s, if_pos rfl]
        rfl
  · have eC : F_w_figures x y (bI w) = some (.inr 1) := by
      unfold F_w_figures F_w_figures_10
      by_cases q : y < 0
      · rw [if_pos q]
      · rw [if_neg q, if_neg]
        obtain ⟨k, hk, rfl⟩ := nI_of q
        rw [show (9 : Int32) = nI 9 from rfl, le_nI hk (by decide)]
        exact fun r => hy ⟨k, Nat.zero_le _, r, rfl⟩
    refine ⟨1, O, 0, si (si M 1001 0) 1001 1, ?_, ?_, rfl, fun e => absurd e (by decide), t, f, Z, c, i, h1, h2, h3, hC, (hM.cd 0).cd 1⟩
    · unfold F_l_figures
      rw [eC, b1_s, su_r]
      rfl
    · unfold F_m_figures
      rw [(show (0 : Int64) = lN 0 from rfl), (show (9 : Int64) = lN 9 from rfl), isIn_n (by decide) (by decide), b1_s, if_pos rfl]
      · rfl
      · rintro ⟨k, k1, k2, k3⟩
        rw [in_wide (by omega)] at k3
        exact hy ⟨k, k1, k2, k3⟩
