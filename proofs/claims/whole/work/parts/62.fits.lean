/-! ===== the fewest nets, fits ===== -/
theorem andn_0 (x y : Int32) : (x &&& (y ^^^ -1) = 0) ↔ (x &&& y = x) := by
  constructor
  · intro h
    refine b_ext (fun i hi => ?_)
    have h2 : bt (x &&& (y ^^^ -1)) i = bt 0 i := by rw [h]
    rw [b_and, b_xor, b_m1 i hi, b_0] at h2
    rw [b_and]
    revert h2
    cases bt x i <;> cases bt y i <;> decide
  · intro h
    refine b_ext (fun i hi => ?_)
    have h2 : bt (x &&& y) i = bt x i := by rw [h]
    rw [b_and] at h2
    rw [b_and, b_xor, b_m1 i hi, b_0]
    revert h2
    cases bt x i <;> cases bt y i <;> decide
theorem cbN_lt {Z : Zt} (hz : ZOk Z) (v : Nat) : cbN Z v < 256 := Nat.lt_of_lt_of_le (nb_lt _ _) (Nat.le_trans (Nat.pow_le_pow_right (by decide) hz.1) (by decide))
theorem p2N {Z : Zt} (hz : ZOk Z) : 2 ^ zN Z ≤ 256 := Nat.le_trans (Nat.pow_le_pow_right (by decide) hz.1) (by decide)
theorem pc256 {b : Nat} (h : b < 256) : pc b ≤ 8 := pc_lt (k := 8) h (by decide)
theorem sets_m {Z : Zt} {M : Sto} (hz : ZOk Z) (h : ZM Z M) : (1 : Int32) <<< ((ai M 1003 (Int32.toNatClampNeg 0)) &&& 31) = nI (2 ^ zN Z) := by
  rw [show ai M 1003 (Int32.toNatClampNeg 0) = nI (zN Z) from h.1]
  exact sh1 (by have := hz.1; omega)
theorem mark31_lp {Z : Zt} {W : Nat} {v : Nat → Nat} (hz : ZOk Z) (hW : W ≤ 12) (hv : ∀ i, i < W → v i ≤ 1000000000000) : ∀ (j n k : Nat) (S : Sto), k + j = W → j < n → ZC Z S → (∀ i, i < W → al S 31 i = lN (v i)) → (∀ i, i < k → ai S 56 i = nI (cbN Z (v i))) →
    ∃ S', F_w_markCatchers_0_31_2 n (nI W) (nI k) S = some ((), S') ∧ Fr [] [] [56] [] [] S S' ∧ ∀ i, i < W → ai S' 56 i = nI (cbN Z (v i)) := by
  intro j
  induction j with
  | zero =>
    intro n k S hk hn hZ hs h
    obtain ⟨n, rfl⟩ : ∃ q, n = q + 1 := ⟨n - 1, by omega⟩
    refine ⟨S, ?_, Fr.rfl, fun i hi => h i (by omega)⟩
    rw [F_w_markCatchers_0_31_2, if_pos (nI_le (by omega) (by omega))]
  | succ j ih =>
    intro n k S hk hn hZ hs h
    obtain ⟨n, rfl⟩ : ∃ q, n = q + 1 := ⟨n - 1, by omega⟩
    have hvk := hv k (by omega)
    have q : Fr [] [] [56] [] [] S (ui S 56 (upd (ai S 56) k (nI (cbN Z (v k))))) := Fr.rfl.ui (by decide)
    obtain ⟨S', s1, s2, s3⟩ := ih n (k + 1) (ui S 56 (upd (ai S 56) k (nI (cbN Z (v k))))) (by omega) (by omega) (ZC_fr hZ q (by decide) (by decide) (by decide)) hs (fun i hi => by
      show upd (ai S 56) k (nI (cbN Z (v k))) i = _
      rw [upd_at]
      by_cases w : i = k
      · rw [if_pos w, w]
      · rw [if_neg w]; exact h i (by omega))
    refine ⟨S', ?_, q.trans s2, s3⟩
    rw [← s1, F_w_markCatchers_0_31_2, if_neg (nI_ge (by omega) (by omega)), if_neg (nI_ge (by omega) (by omega)), if_neg (nI_ge (by omega) (by omega)), ck_t (ib_nI (by omega) (by decide)), nI_clamp (by omega), hs k (by omega), cat_ok hz hZ (by omega), b1_s, ck_t (ib_nI (by omega) (by decide)), (show (1 : Int32) = nI 1 from rfl), nI_add]
theorem mark31_ok {Z : Zt} {W : Nat} {v : Nat → Nat} {S : Sto} (hz : ZOk Z) (hW : W ≤ 12) (hv : ∀ i, i < W → v i ≤ 1000000000000) (hZ : ZC Z S) (hs : ∀ i, i < W → al S 31 i = lN (v i)) :
    ∃ S', F_w_markCatchers_0_31 (nI W) S = some ((), S') ∧ Fr [] [] [56] [] [] S S' ∧ ∀ i, i < W → ai S' 56 i = nI (cbN Z (v i)) := by
  unfold F_w_markCatchers_0_31
  exact mark31_lp hz hW hv W FU 0 S (Nat.zero_add _) (by rw [FU_v]; omega) hZ hs (fun i hi => absurd hi (Nat.not_lt_zero i))
theorem mark33_lp {Z : Zt} {W : Nat} {v : Nat → Nat} (hz : ZOk Z) (hW : W ≤ 12) (hv : ∀ i, i < W → v i ≤ 1000000000000) : ∀ (j n k : Nat) (S : Sto), k + j = W → j < n → ZC Z S → (∀ i, i < W → al S 33 i = lN (v i)) → (∀ i, i < k → ai S 56 i = nI (cbN Z (v i))) →
    ∃ S', F_w_markCatchers_0_33_2 n (nI W) (nI k) S = some ((), S') ∧ Fr [] [] [56] [] [] S S' ∧ ∀ i, i < W → ai S' 56 i = nI (cbN Z (v i)) := by
  intro j
  induction j with
  | zero =>
    intro n k S hk hn hZ hs h
    obtain ⟨n, rfl⟩ : ∃ q, n = q + 1 := ⟨n - 1, by omega⟩
    refine ⟨S, ?_, Fr.rfl, fun i hi => h i (by omega)⟩
    rw [F_w_markCatchers_0_33_2, if_pos (nI_le (by omega) (by omega))]
  | succ j ih =>
    intro n k S hk hn hZ hs h
    obtain ⟨n, rfl⟩ : ∃ q, n = q + 1 := ⟨n - 1, by omega⟩
    have hvk := hv k (by omega)
    have q : Fr [] [] [56] [] [] S (ui S 56 (upd (ai S 56) k (nI (cbN Z (v k))))) := Fr.rfl.ui (by decide)
    obtain ⟨S', s1, s2, s3⟩ := ih n (k + 1) (ui S 56 (upd (ai S 56) k (nI (cbN Z (v k))))) (by omega) (by omega) (ZC_fr hZ q (by decide) (by decide) (by decide)) hs (fun i hi => by
      show upd (ai S 56) k (nI (cbN Z (v k))) i = _
      rw [upd_at]
      by_cases w : i = k
      · rw [if_pos w, w]
      · rw [if_neg w]; exact h i (by omega))
    refine ⟨S', ?_, q.trans s2, s3⟩
    rw [← s1, F_w_markCatchers_0_33_2, if_neg (nI_ge (by omega) (by omega)), if_neg (nI_ge (by omega) (by omega)), if_neg (nI_ge (by omega) (by omega)), ck_t (ib_nI (by omega) (by decide)), nI_clamp (by omega), hs k (by omega), cat_ok hz hZ (by omega), b1_s, ck_t (ib_nI (by omega) (by decide)), (show (1 : Int32) = nI 1 from rfl), nI_add]
theorem mark33_ok {Z : Zt} {W : Nat} {v : Nat → Nat} {S : Sto} (hz : ZOk Z) (hW : W ≤ 12) (hv : ∀ i, i < W → v i ≤ 1000000000000) (hZ : ZC Z S) (hs : ∀ i, i < W → al S 33 i = lN (v i)) :
    ∃ S', F_w_markCatchers_0_33 (nI W) S = some ((), S') ∧ Fr [] [] [56] [] [] S S' ∧ ∀ i, i < W → ai S' 56 i = nI (cbN Z (v i)) := by
  unfold F_w_markCatchers_0_33
  exact mark33_lp hz hW hv W FU 0 S (Nat.zero_add _) (by rw [FU_v]; omega) hZ hs (fun i hi => absurd hi (Nat.not_lt_zero i))
/-! fewest -/
def asW (Z : Zt) (c : Scn) (s i : Nat) : Prop := (¬ cbN Z (sWn c i) &&& s = 0) ↔ sWb c i = true
theorem andz {a b : Nat} (ha : a < 256) : (nI a &&& nI b = 0) = (a &&& b = 0) := by
  rw [fa_and, show (0 : Int32) = nI 0 from rfl, eq_nI (Nat.lt_of_le_of_lt Nat.and_le_left (by omega)) (by decide)]
theorem srv_lp {Z : Zt} {c : Scn} {S M : Sto} {s : Nat} (hz : ZOk Z) (hc : ScOk Z c) (hS : Sc0 c S) (h56 : ∀ i, i < sW c → ai S 56 i = nI (cbN Z (sWn c i))) (hZ : ZM Z M) (hM : ScM c M) : ∀ (j n n' k : Nat), k + j = sW c → j < n → j < n' →
    ∃ r, F_w_serves_2 n (nI s) (nI k) S = some r ∧ F_m_isAsWished_2 n' (nI s) (nI k) M = some r := by
  have hW : sW c ≤ 12 := hc.2.2.2.1
  have hv : ∀ i, i < sW c → sWn c i ≤ 1000000000000 := fun i hi => (hc.2.2.2.2.1 i hi).2
  obtain ⟨_, _, _, _, _, _, _, c8, c9, _⟩ := hS
  obtain ⟨_, _, _, _, _, _, m7, m8, _, _, d2, _, _⟩ := hM
  intro j
  induction j with
  | zero =>
    intro n n' k hk hn hn'
    obtain ⟨n, rfl⟩ : ∃ q, n = q + 1 := ⟨n - 1, by omega⟩
    obtain ⟨n', rfl⟩ : ∃ q, n' = q + 1 := ⟨n' - 1, by omega⟩
    refine ⟨1, ?_, ?_⟩
    · rw [F_w_serves_2, c8, if_pos (nI_le (by omega) (by omega))]
    · rw [F_m_isAsWished_2, m7, if_pos (nI_le (by omega) (by omega))]
  | succ j ih =>
    intro n n' k hk hn hn'
    obtain ⟨n, rfl⟩ : ∃ q, n = q + 1 := ⟨n - 1, by omega⟩
    obtain ⟨n', rfl⟩ : ∃ q, n' = q + 1 := ⟨n' - 1, by omega⟩
    obtain ⟨r, r1, r2⟩ := ih n n' (k + 1) (by omega) (by omega) (by omega)
    have hvk := hv k (by omega)
    have eW : F_Sc_isWished (nI k) S = some (bI (sWb c k)) := by
      unfold F_Sc_isWished
      rw [if_neg (nI_pos (by omega)), (show (12 : Int32) = nI 12 from rfl), if_neg (nI_ge (by omega) (by decide)), ck_t (ib_nI (by omega) (by decide)), nI_clamp (by omega), (c9 k (by omega)).2]
      cases sWb c k <;> rfl
    have eC : F_w_serves_2 (n + 1) (nI s) (nI k) S = if bI (decide (¬ cbN Z (sWn c k) &&& s = 0)) = bI (sWb c k) then F_w_serves_2 n (nI s) (nI (k + 1)) S else some 0 := by
      rw [F_w_serves_2, c8, if_neg (nI_ge (by omega) (by omega)), if_neg (nI_ge (by omega) (by omega)), ck_t (ib_nI (by omega) (by decide)), nI_clamp (by omega), h56 k (by omega)]
      unfold F_w_serves_38
      rw [eW, b1_s, b1_s, show nI k + (1 : Int32) = nI (k + 1) from nI_add k 1]
      by_cases w : cbN Z (sWn c k) &&& s = 0
      · rw [if_pos (by rw [andz (cbN_lt hz _)]; exact w), decide_eq_false (fun h => h w)]; rfl
      · rw [if_neg (by rw [andz (cbN_lt hz _)]; exact w), decide_eq_true w]; rfl
    have eM : F_m_isAsWished_2 (n' + 1) (nI s) (nI k) M = if bI (decide (¬ cbN Z (sWn c k) &&& s = 0)) = bI (sWb c k) then F_m_isAsWished_2 n' (nI s) (nI (k + 1)) M else some 0 := by
      rw [F_m_isAsWished_2, m7, if_neg (nI_ge (by omega) (by omega)), ck_t (ib_nI (by omega) (by decide)), nI_clamp (by omega), (d2 k (by omega)).1, mnets_ok hz hZ (by omega), b1_s]
      unfold F_m_isAsWished_30
      rw [nI_clamp (by omega), (d2 k (by omega)).2, show nI k + (1 : Int32) = nI (k + 1) from nI_add k 1, ck_t (ib_nI (by omega) (by decide)), ck_t (ib_nI (by omega) (by decide))]
      by_cases w : cbN Z (sWn c k) &&& s = 0
      · rw [if_pos (by rw [andz (cbN_lt hz _)]; exact w), decide_eq_false (fun h => h w)]; rfl
      · rw [if_neg (by rw [andz (cbN_lt hz _)]; exact w), decide_eq_true w]; rfl
    rw [eC, eM]
    by_cases w : bI (decide (¬ cbN Z (sWn c k) &&& s = 0)) = bI (sWb c k)
    · rw [if_pos w, if_pos w]; exact ⟨r, r1, r2⟩
    · rw [if_neg w, if_neg w]; exact ⟨0, rfl, rfl⟩
theorem fw_lp {Z : Zt} {c : Scn} {S M : Sto} (hz : ZOk Z) (hc : ScOk Z c) (hS : Sc0 c S) (h25 : gi S 25 = nI (2 ^ zN Z)) (h56 : ∀ i, i < sW c → ai S 56 i = nI (cbN Z (sWn c i))) (hZ : ZM Z M) (hM : ScM c M) : ∀ (j n n' s : Nat) (b : Int32), s + j = 2 ^ zN Z → j < n → j < n' → (b = -1 ∨ ∃ q, q < 256 ∧ b = nI q) →
    ∃ r, F_w_fewest_22 n b (nI s) S = some (r, S) ∧ F_m_fewest_9 n' b (nI s) M = some (r, M) := by
  have hp := p2N hz
  intro j
  induction j with
  | zero =>
    intro n n' s b hs hn hn' hb
    obtain ⟨n, rfl⟩ : ∃ q, n = q + 1 := ⟨n - 1, by omega⟩
    obtain ⟨n', rfl⟩ : ∃ q, n' = q + 1 := ⟨n' - 1, by omega⟩
    refine ⟨b, ?_, ?_⟩
    · rw [F_w_fewest_22, h25, if_pos (nI_le (by omega) (by omega))]
    · rw [F_m_fewest_9, sets_m hz hZ, if_pos (nI_le (by omega) (by omega))]
  | succ j ih =>
    intro n n' s b hs hn hn' hb
    obtain ⟨n, rfl⟩ : ∃ q, n = q + 1 := ⟨n - 1, by omega⟩
    obtain ⟨n', rfl⟩ : ∃ q, n' = q + 1 := ⟨n' - 1, by omega⟩
    obtain ⟨r1, a1, a2⟩ := ih n n' (s + 1) b (by omega) (by omega) (by omega) hb
    obtain ⟨r2, b1, b2⟩ := ih n n' (s + 1) (nI s) (by omega) (by omega) (by omega) (Or.inr ⟨s, by omega, rfl⟩)
    obtain ⟨v, v1, v2⟩ := srv_lp (s := s) hz hc hS h56 hZ hM (sW c) FU FU 0 (Nat.zero_add _) (by rw [FU_v]; have := hc.2.2.2.1; omega) (by rw [FU_v]; have := hc.2.2.2.1; omega)
    have v1' : F_w_serves (nI s) S = some v := v1
    have v2' : F_m_isAsWished (nI s) M = some v := v2
    have t : ∃ r, F_w_fewest_49 (F_w_fewest_22 n) b (nI s) S = some (r, S) ∧ F_m_fewest_39 (F_m_fewest_9 n') b (nI s) M = some (r, M) := by
      unfold F_w_fewest_49 F_m_fewest_39 F_w_fewest_59 F_m_fewest_49
      rw [v1', v2', b1_s, b1_s, show nI s + (1 : Int32) = nI (s + 1) from nI_add s 1]
      by_cases w : v = 0
      · rw [if_pos w, if_pos w]; exact ⟨r1, a1, a2⟩
      · rw [if_neg w, if_neg w]; exact ⟨r2, b1, b2⟩
    rw [F_w_fewest_22, F_m_fewest_9, h25, sets_m hz hZ, if_neg (nI_ge (by omega) (by omega)), if_neg (nI_ge (by omega) (by omega))]
    by_cases w : b = -1
    · rw [if_pos w, if_pos w]; exact t
    · rw [if_neg w, if_neg w]
      rcases hb with hb | ⟨q, q1, rfl⟩
      · exact absurd hb w
      · have p1 := pc256 q1
        have p2 := pc256 (show s < 256 by omega)
        rw [bitCountI_ok s (by omega), bitCountI_ok q q1, i2l_nI (by omega), i2l_nI (by omega), bitsOf_ok (by omega), bitsOf_ok (by omega), b1_s, b1_s, b1_s, b1_s]
        by_cases u : nI (pc q) ≤ nI (pc s)
        · rw [if_pos u, if_pos u]
          unfold F_w_fewest_59 F_m_fewest_49
          rw [show nI s + (1 : Int32) = nI (s + 1) from nI_add s 1]
          exact ⟨r1, a1, a2⟩
        · rw [if_neg u, if_neg u]; exact t
theorem fewest_ok {S M : Sto} (h : Rl S M) : ∃ r S' M', F_w_fewest S = some (r, S') ∧ F_m_fewest M = some (r, M') ∧ Rl S' M' := by
  obtain ⟨t, f, Z, c, i, h1, h2, h3, hC, hM⟩ := h
  have hW : sW c ≤ 12 := h2.2.2.2.1
  have hv : ∀ i, i < sW c → sWn c i ≤ 1000000000000 := fun i hi => (h2.2.2.2.2.1 i hi).2
  have c8 : gi S 32 = nI (sW c) := hC.sc.2.2.2.2.2.2.2.1
  have c9 := hC.sc.2.2.2.2.2.2.2.2.1
  obtain ⟨S1, s1, s2, s3⟩ := mark31_ok h1 hW hv hC.z (fun i hi => (c9 i hi).1)
  have hC1 := RC_fq hC s2 (by decide) (by decide) (by decide)
  obtain ⟨r, r1, r2⟩ := fw_lp h1 h2 hC1.sc hC1.z.2.2.2.2.2.2.2.1 s3 (hM.cd 0).z (hM.cd 0).sc (2 ^ zN Z) FU FU 0 (-1) (Nat.zero_add _) (by rw [FU_v]; have := p2N h1; omega) (by rw [FU_v]; have := p2N h1; omega) (Or.inl rfl)
  refine ⟨r, S1, si M 1001 0, ?_, ?_, t, f, Z, c, i, h1, h2, h3, hC1, hM.cd 0⟩
  · unfold F_w_fewest
    rw [c8, s1, b2_s]
    exact r1
  · unfold F_m_fewest
    exact r2
/-! fits -/
theorem ex_lp {Z : Zt} {c : Scn} {S M : Sto} {s : Nat} (hz : ZOk Z) (hc : ScOk Z c) (hs : s < 256) (h33 : gi S 33 = nI (sE c)) (h56 : ∀ i, i < sE c → ai S 56 i = nI (cbN Z (sEn c i))) (hZ : ZM Z M) (hM : ScM c M) : ∀ (j n n' k b : Nat), k + j = sE c → j < n → j < n' → b < 256 →
    ∃ r, F_w_explains_4 n (nI s) (nI b) (nI k) S = some r ∧ F_m_isFit_4 n' (nI s) (nI (b &&& s)) (nI k) M = some r := by
  have hE : sE c ≤ 12 := hc.2.2.2.2.2.1
  have hv : ∀ i, i < sE c → sEn c i ≤ 1000000000000 := fun i hi => (hc.2.2.2.2.2.2 i hi).2
  obtain ⟨_, _, _, _, _, _, _, _, m9, _, _, d3, _⟩ := hM
  intro j
  induction j with
  | zero =>
    intro n n' k b hk hn hn' hb
    obtain ⟨n, rfl⟩ : ∃ q, n = q + 1 := ⟨n - 1, by omega⟩
    obtain ⟨n', rfl⟩ : ∃ q, n' = q + 1 := ⟨n' - 1, by omega⟩
    rw [F_w_explains_4, F_m_isFit_4, h33, m9, if_pos (nI_le (by omega) (by omega)), if_pos (nI_le (by omega) (by omega))]
    unfold F_w_explains_52
    have hle : b &&& s ≤ s := Nat.and_le_right
    by_cases w : b &&& s = s
    · rw [if_pos (by rw [andn_0, fa_and, Nat.and_comm, w]), if_pos (by rw [w])]
      exact ⟨1, rfl, rfl⟩
    · rw [if_neg (by rw [andn_0, fa_and, Nat.and_comm, eq_nI (by omega) (by omega)]; exact w), if_neg (by rw [eq_nI (by omega) (by omega)]; exact w)]
      exact ⟨0, rfl, rfl⟩
  | succ j ih =>
    intro n n' k b hk hn hn' hb
    obtain ⟨n, rfl⟩ : ∃ q, n = q + 1 := ⟨n - 1, by omega⟩
    obtain ⟨n', rfl⟩ : ∃ q, n' = q + 1 := ⟨n' - 1, by omega⟩
    have hvk := hv k (by omega)
    have hcb := cbN_lt hz (sEn c k)
    have hor : b ||| cbN Z (sEn c k) < 2 ^ 8 := Nat.or_lt_two_pow hb hcb
    obtain ⟨r, r1, r2⟩ := ih n n' (k + 1) (b ||| cbN Z (sEn c k)) (by omega) (by omega) (by omega) hor
    rw [F_w_explains_4, F_m_isFit_4, h33, m9, if_neg (nI_ge (by omega) (by omega)), if_neg (nI_ge (by omega) (by omega)), if_neg (nI_ge (by omega) (by omega)), ck_t (ib_nI (by omega) (by decide)), ck_t (ib_nI (by omega) (by decide)), ck_t (ib_nI (by omega) (by decide)), nI_clamp (by omega), h56 k (by omega), d3 k (by omega), mnets_ok hz hZ (by omega), b1_s]
    by_cases w : nI (cbN Z (sEn c k)) &&& nI s = 0
    · rw [if_pos w, if_pos w]; exact ⟨0, rfl, rfl⟩
    · rw [if_neg w, if_neg w, fa_or, fa_and, fa_or, show nI k + (1 : Int32) = nI (k + 1) from nI_add k 1, ← Nat.and_or_distrib_right]
      exact ⟨r, r1, r2⟩
theorem po_lp {Z : Zt} {c : Scn} {S M : Sto} (hz : ZOk Z) (hc : ScOk Z c) (h33 : gi S 33 = nI (sE c)) (h56 : ∀ i, i < sE c → ai S 56 i = nI (cbN Z (sEn c i))) (hZ : ZM Z M) (hM : ScM c M) : ∀ (j n n' k q : Nat), k + j = sE c → j < n → j < n' →
    ∃ r, F_w_poached_4 n (nI q) (nI k) S = some r ∧ ∀ x a b, F_m_fits_79 n' x a b (nI q) (nI k) M = some (if x = 0 then a else if x = 1 then b else r, M) := by
  have hE : sE c ≤ 12 := hc.2.2.2.2.2.1
  have hv : ∀ i, i < sE c → sEn c i ≤ 1000000000000 := fun i hi => (hc.2.2.2.2.2.2 i hi).2
  obtain ⟨_, _, _, _, _, _, _, _, m9, _, _, d3, _⟩ := hM
  intro j
  induction j with
  | zero =>
    intro n n' k q hk hn hn'
    obtain ⟨n, rfl⟩ : ∃ q, n = q + 1 := ⟨n - 1, by omega⟩
    obtain ⟨n', rfl⟩ : ∃ q, n' = q + 1 := ⟨n' - 1, by omega⟩
    refine ⟨nI q, ?_, fun x a b => ?_⟩
    · rw [F_w_poached_4, h33, if_pos (nI_le (by omega) (by omega))]
    · rw [F_m_fits_79, m9, if_pos (nI_le (by omega) (by omega))]
      by_cases w : x = 0
      · rw [if_pos w, if_pos w]
      · rw [if_neg w, if_neg w]
        by_cases v : x = 1
        · rw [if_pos v, if_pos v]
        · rw [if_neg v, if_neg v]
  | succ j ih =>
    intro n n' k q hk hn hn'
    obtain ⟨n, rfl⟩ : ∃ q, n = q + 1 := ⟨n - 1, by omega⟩
    obtain ⟨n', rfl⟩ : ∃ q, n' = q + 1 := ⟨n' - 1, by omega⟩
    have hvk := hv k (by omega)
    have hcb := cbN_lt hz (sEn c k)
    have e1 : F_w_poached_4 (n + 1) (nI q) (nI k) S = F_w_poached_4 n (nI (q + if cbN Z (sEn c k) = 0 then 1 else 0)) (nI (k + 1)) S := by
      rw [F_w_poached_4, h33, if_neg (nI_ge (by omega) (by omega)), if_neg (nI_ge (by omega) (by omega)), ck_t (ib_nI (by omega) (by decide)), nI_clamp (by omega), h56 k (by omega)]
      unfold F_w_poached_36
      rw [(show (1 : Int32) = nI 1 from rfl), nI_add, nI_add]
      by_cases w : cbN Z (sEn c k) = 0
      · rw [if_pos (by rw [w]; rfl), if_pos w]
      · rw [if_neg (nI_ne0 (by omega) (by omega)), if_neg w]; rfl
    have e2 : ∀ x a b, F_m_fits_79 (n' + 1) x a b (nI q) (nI k) M = F_m_fits_79 n' x a b (nI (q + if cbN Z (sEn c k) = 0 then 1 else 0)) (nI (k + 1)) M := by
      intro x a b
      rw [F_m_fits_79, m9, if_neg (nI_ge (by omega) (by omega)), ck_t (ib_nI (by omega) (by decide)), nI_clamp (by omega), d3 k (by omega), mnets_ok hz hZ (by omega), b1_s]
      unfold F_m_fits_109
      rw [(show (1 : Int32) = nI 1 from rfl), (show (0 : Int32) = nI 0 from rfl), nI_add, nI_add, nI_add]
      by_cases w : cbN Z (sEn c k) = 0
      · rw [if_pos (by rw [w]), if_pos w]
      · rw [if_neg (by rw [eq_nI (by omega) (by decide)]; exact w), if_neg w]
    obtain ⟨r, r1, r2⟩ := ih n n' (k + 1) (q + if cbN Z (sEn c k) = 0 then 1 else 0) (by omega) (by omega) (by omega)
    exact ⟨r, e1.trans r1, fun x a b => (e2 x a b).trans (r2 x a b)⟩
theorem ft_lp {Z : Zt} {c : Scn} {S M : Sto} (hz : ZOk Z) (hc : ScOk Z c) (h25 : gi S 25 = nI (2 ^ zN Z)) (h33 : gi S 33 = nI (sE c)) (h56 : ∀ i, i < sE c → ai S 56 i = nI (cbN Z (sEn c i))) (hZ : ZM Z M) (hM : ScM c M) {x : Int32} : ∀ (j n n' s q : Nat) (l : Int32), s + j = 2 ^ zN Z → j < n → j < n' → q ≤ s → ((q = 0 ∧ l = -1) ∨ (q ≠ 0 ∧ l ≠ -1)) →
    ∃ q' l', F_w_fits_52 n x (nI q) l (nI s) S = some (.inl (if x = 0 then q' else l'), S) ∧ F_m_fits_27 n' x (nI q) l (nI s) M = F_m_fits_79 FU x q' l' 0 0 M := by
  have hp := p2N hz
  intro j
  induction j with
  | zero =>
    intro n n' s q l hs hn hn' hq hl
    obtain ⟨n, rfl⟩ : ∃ q, n = q + 1 := ⟨n - 1, by omega⟩
    obtain ⟨n', rfl⟩ : ∃ q, n' = q + 1 := ⟨n' - 1, by omega⟩
    refine ⟨nI q, l, ?_, ?_⟩
    · rw [F_w_fits_52, h25, if_pos (nI_le (by omega) (by omega))]
      by_cases w : x = 0
      · rw [if_pos w, if_pos w]
      · rw [if_neg w, if_neg w]
    · rw [F_m_fits_27, sets_m hz hZ, if_pos (nI_le (by omega) (by omega))]
  | succ j ih =>
    intro n n' s q l hs hn hn' hq hl
    obtain ⟨n, rfl⟩ : ∃ q, n = q + 1 := ⟨n - 1, by omega⟩
    obtain ⟨n', rfl⟩ : ∃ q, n' = q + 1 := ⟨n' - 1, by omega⟩
    obtain ⟨v, v1, v2⟩ := ex_lp (s := s) hz hc (by omega) h33 h56 hZ hM (sE c) FU FU 0 0 (Nat.zero_add _) (by rw [FU_v]; have := hc.2.2.2.2.2.1; omega) (by rw [FU_v]; have := hc.2.2.2.2.2.1; omega) (by decide)
    rw [Nat.zero_and] at v2
    have v1' : F_w_explains (nI s) S = some v := v1
    have v2' : F_m_isFit (nI s) M = some v := v2
    rw [F_w_fits_52, F_m_fits_27, h25, sets_m hz hZ, if_neg (nI_ge (by omega) (by omega)), if_neg (nI_ge (by omega) (by omega)), v1', v2', b1_s, b1_s]
    unfold F_w_fits_83 F_w_fits_87 F_m_fits_66 F_m_fits_67
    rw [show nI s + (1 : Int32) = nI (s + 1) from nI_add s 1, show nI q + (1 : Int32) = nI (q + 1) from nI_add q 1]
    by_cases w : v = 0
    · rw [if_pos w, if_pos w]
      exact ih n n' (s + 1) q l (by omega) (by omega) (by omega) (by omega) hl
    · rw [if_neg w, if_neg w]
      rcases hl with ⟨l1, l2⟩ | ⟨l1, l2⟩
      · rw [if_pos (by rw [l1]; rfl), if_pos l2]
        exact ih n n' (s + 1) (q + 1) (nI s) (by omega) (by omega) (by omega) (by omega) (Or.inr ⟨by omega, by rw [show (-1 : Int32) = zI (-1) from rfl, nI_z, Ne, eq_zI (by omega) (by omega) (by decide) (by decide)]; omega⟩)
      · rw [if_neg (nI_ne0 (by omega) (by omega)), if_neg l2]
        exact ih n n' (s + 1) (q + 1) l (by omega) (by omega) (by omega) (by omega) (Or.inr ⟨by omega, l2⟩)
theorem fits_ok {S M O : Sto} (h : Rl S M) (x : Int32) : ∃ k S' O' b M', F_l_fits x S O = some (k, S', O') ∧ F_m_fits x M = some (b, M') ∧ gi M' 1001 = k ∧ (k = 0 → al O' 2000 (Int32.toNatClampNeg 0) = b.toInt64) ∧ Rl S' M' := by
  obtain ⟨t, f, Z, c, i, h1, h2, h3, hC, hM⟩ := h
  by_cases hx : x = 0 ∨ x = 1 ∨ x = 2
  · have hx1 : ¬ x < 0 := by rcases hx with q | q | q <;> rw [q] <;> decide
    have hx2 : x ≤ 2 := by rcases hx with q | q | q <;> rw [q] <;> decide
    have hE : sE c ≤ 12 := h2.2.2.2.2.2.1
    have hv : ∀ i, i < sE c → sEn c i ≤ 1000000000000 := fun i hi => (h2.2.2.2.2.2.2 i hi).2
    have c10 : gi S 33 = nI (sE c) := hC.sc.2.2.2.2.2.2.2.2.2.1
    have c11 := hC.sc.2.2.2.2.2.2.2.2.2.2.1
    obtain ⟨S1, s1, s2, s3⟩ := mark33_ok h1 hE hv hC.z (fun i hi => c11 i hi)
    have hC1 := RC_fq hC s2 (by decide) (by decide) (by decide)
    have c10' : gi S1 33 = nI (sE c) := hC1.sc.2.2.2.2.2.2.2.2.2.1
    obtain ⟨q', l', f1, f2⟩ := ft_lp (x := x) h1 h2 hC1.z.2.2.2.2.2.2.2.1 c10' s3 (hM.cd 0).z (hM.cd 0).sc (2 ^ zN Z) FU FU 0 0 (-1) (Nat.zero_add _) (by rw [FU_v]; have := p2N h1; omega) (by rw [FU_v]; have := p2N h1; omega) (Nat.le_refl _) (Or.inl ⟨rfl, rfl⟩)
    obtain ⟨r, r1, r2⟩ := po_lp h1 h2 c10' s3 (hM.cd 0).z (hM.cd 0).sc (sE c) FU FU 0 0 (Nat.zero_add _) (by rw [FU_v]; omega) (by rw [FU_v]; omega)
    have eM : F_m_fits x M = some (if x = 0 then q' else if x = 1 then l' else r, si M 1001 0) := by
      unfold F_m_fits
      rw [if_neg hx1, if_pos hx2]
      exact f2.trans (r2 x q' l')
    have eC : F_w_fits x S = some (.inl (if x = 0 then q' else if x = 1 then l' else r), S1) := by
      unfold F_w_fits F_w_poached
      rw [if_neg hx1, if_pos hx2, c10, s1, b2_s]
      by_cases w : x = 2
      · subst w
        rw [if_pos rfl]
        have r1' : F_w_poached_4 FU 0 0 S1 = some r := r1
        rw [r1', b1_s, if_neg (by decide), if_neg (by decide)]
      · rw [if_neg w]
        refine f1.trans ?_
        by_cases v : x = 0
        · rw [if_pos v, if_pos v]
        · have : x = 1 := by rcases hx with q | q | q; exact absurd q v; exact q; exact absurd q w
          rw [if_neg v, if_neg v, if_pos this]
    refine ⟨0, S1, oW O (if x = 0 then q' else if x = 1 then l' else r).toInt64, _, _, ?_, eM, rfl, fun _ => rfl, t, f, Z, c, i, h1, h2, h3, hC1, hM.cd 0⟩
    unfold F_l_fits
    rw [eC, b2_s, su_l]
  · have hc : x < 0 ∨ ¬ x ≤ 2 := by
      rcases I_cases x with q | ⟨k, hk, rfl⟩
      · exact Or.inl q
      · refine Or.inr ?_
        rw [(show (2 : Int32) = nI 2 from rfl), le_nI hk (by decide)]
        intro q
        have : k = 0 ∨ k = 1 ∨ k = 2 := by omega
        rcases this with r | r | r <;> subst r
        · exact hx (Or.inl rfl)
        · exact hx (Or.inr (Or.inl rfl))
        · exact hx (Or.inr (Or.inr rfl))
    have eC : F_w_fits x S = some (.inr 1, S) := by
      unfold F_w_fits F_w_fits_9
      rcases hc with q | q
      · rw [if_pos q]
      · by_cases v : x < 0
        · rw [if_pos v]
        · rw [if_neg v, if_neg q]
    have eM : F_m_fits x M = some (0, si (si M 1001 0) 1001 1) := by
      unfold F_m_fits F_m_fits_14
      rcases hc with q | q
      · rw [if_pos q]; rfl
      · by_cases v : x < 0
        · rw [if_pos v]; rfl
        · rw [if_neg v, if_neg q]; rfl
    refine ⟨1, S, O, 0, _, ?_, eM, rfl, fun e => absurd e (by decide), t, f, Z, c, i, h1, h2, h3, hC, (hM.cd 0).cd 1⟩
    unfold F_l_fits
    rw [eC, b2_s, su_r]
    rfl
