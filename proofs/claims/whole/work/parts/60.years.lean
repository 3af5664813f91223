/-! ===== years ===== -/
def orb (Z : Zt) (x : Nat) (y : Int32) : Nat → Nat × Int32
  | 0 => (x, y)
  | k + 1 => (spw Z (orb Z x y k).1 (orb Z x y k).2, (orb Z x y k).2 + 1)
theorem orb_lt {Z : Zt} {x : Nat} {y : Int32} (h : x < 2 ^ zP Z) : ∀ k, (orb Z x y k).1 < 2 ^ zP Z
  | 0 => h
  | k + 1 => spw_lt _ (orb_lt h k)
theorem pd_lt {Z : Zt} {x : Nat} (hz : ZOk Z) (h : x < 2 ^ zP Z) : x < 4611686018427387904 := Nat.lt_of_lt_of_le h (Nat.le_trans (Nat.pow_le_pow_right (by decide) hz.2.2.1.2) (by decide))
theorem yearsC_lp {Z : Zt} {x : Nat} {y : Int32} (hz : ZOk Z) (hx : x < 2 ^ zP Z) {m : Nat} (hm : m ≤ 200) : ∀ (j n k : Nat) (S : Sto), k + j = m → j < n → ZC Z S → gl S 29 = lN (orb Z x y k).1 → gi S 30 = (orb Z x y k).2 →
    ∃ S', F_w_years_47 n (nI m) (nI k) S = some (nI (pc (orb Z x y m).1), S') ∧ Fr [30] [29] qc [] [] S S' ∧ gl S' 29 = lN (orb Z x y m).1 ∧ gi S' 30 = (orb Z x y m).2 := by
  intro j
  induction j with
  | zero =>
    intro n k S hk hn hZ h1 h2
    obtain ⟨n, rfl⟩ : ∃ q, n = q + 1 := ⟨n - 1, by omega⟩
    have : k = m := by omega
    subst this
    refine ⟨S, ?_, Fr.rfl, h1, h2⟩
    have hb := pd_lt hz (orb_lt (y := y) hx k)
    rw [F_w_years_47, if_pos (nI_le (by omega) (by omega)), h1, bitCountJ_ok (by omega), b1_s]
  | succ j ih =>
    intro n k S hk hn hZ h1 h2
    obtain ⟨n, rfl⟩ : ∃ q, n = q + 1 := ⟨n - 1, by omega⟩
    rw [F_w_years_47, if_neg (nI_ge (by omega) (by omega)), h1, h2]
    obtain ⟨S1, s1, s2⟩ := behind_ok (y := (orb Z x y k).2) hz (pd_lt hz (orb_lt hx k)) hZ
    rw [s1, b2_s, (show (1 : Int32) = nI 1 from rfl), nI_add]
    have q : Fr [30] [29] qc [] [] S (si (sl S1 29 (lN (spw Z (orb Z x y k).1 (orb Z x y k).2))) 30 (gi (sl S1 29 (lN (spw Z (orb Z x y k).1 (orb Z x y k).2))) 30 + nI 1)) := ((s2.mono (by decide) (by decide) (by decide) (by decide) (by decide)).sl (by decide)).si (by decide)
    obtain ⟨S', t1, t2, t3, t4⟩ := ih n (k + 1) _ (by omega) (by omega) (ZC_fr hZ q (by decide) (by decide) (by decide)) rfl (by
      show gi S1 30 + nI 1 = _
      rw [s2.gi _ (by decide), h2]
      rfl)
    exact ⟨S', t1, q.trans t2, t3, t4⟩
theorem yearsM_lp {Z : Zt} {x : Nat} {y : Int32} (hz : ZOk Z) (hx : x < 2 ^ zP Z) {m : Nat} (hm : m ≤ 200) : ∀ (j n k : Nat) (M : Sto), k + j = m → j < n → ZM Z M → gl M 1015 = lN (orb Z x y k).1 → gi M 1017 = (orb Z x y k).2 →
    ∃ M', F_m_years_29 n (nI m) (nI k) M = some (nI (pc (orb Z x y m).1), M') ∧ Fr [1017] [1015] mc [] [] M M' ∧ gl M' 1015 = lN (orb Z x y m).1 ∧ gi M' 1017 = (orb Z x y m).2 := by
  intro j
  induction j with
  | zero =>
    intro n k M hk hn hZ h1 h2
    obtain ⟨n, rfl⟩ : ∃ q, n = q + 1 := ⟨n - 1, by omega⟩
    have : k = m := by omega
    subst this
    refine ⟨M, ?_, Fr.rfl, h1, h2⟩
    have hb := pd_lt hz (orb_lt (y := y) hx k)
    rw [F_m_years_29, if_pos (nI_le (by omega) (by omega)), h1, bitsOf_ok (by omega), b1_s]
  | succ j ih =>
    intro n k M hk hn hZ h1 h2
    obtain ⟨n, rfl⟩ : ∃ q, n = q + 1 := ⟨n - 1, by omega⟩
    rw [F_m_years_29, if_neg (nI_ge (by omega) (by omega)), h1, h2]
    obtain ⟨M1, s1, s2⟩ := spawned_ok (y := (orb Z x y k).2) hz (pd_lt hz (orb_lt hx k)) hZ
    rw [s1, b2_s, (show (1 : Int32) = nI 1 from rfl), nI_add]
    have q : Fr [1017] [1015] mc [] [] M (si (sl M1 1015 (lN (spw Z (orb Z x y k).1 (orb Z x y k).2))) 1017 (gi (sl M1 1015 (lN (spw Z (orb Z x y k).1 (orb Z x y k).2))) 1017 + nI 1)) := ((s2.mono (by decide) (by decide) (by decide) (by decide) (by decide)).sl (by decide)).si (by decide)
    obtain ⟨M', t1, t2, t3, t4⟩ := ih n (k + 1) _ (by omega) (by omega) (ZM_fr hZ q (by decide) (by decide)) rfl (by
      show gi M1 1017 + nI 1 = _
      rw [s2.gi _ (by decide), h2]
      rfl)
    exact ⟨M', t1, q.trans t2, t3, t4⟩
theorem years_ok {S M : Sto} (h : Rl S M) (x : Int32) : ∃ r S' M', F_w_years x S = some (r, S') ∧ F_m_years x M = some (r, M') ∧ Rl S' M' := by
  obtain ⟨t, f, Z, c, i, h1, h2, h3, hC, hM⟩ := h
  have bad : (F_w_years x S = F_w_years_12 S ∧ F_m_years x M = b2 (F_m_refuse 1 (si M 1001 0)) (fun r6 M8 => some (r6, M8))) → ∃ r S' M', F_w_years x S = some (r, S') ∧ F_m_years x M = some (r, M') ∧ Rl S' M' := by
    intro hv
    obtain ⟨S', s1, s2⟩ := refC_ok hC (k := 1) (by decide)
    refine ⟨-1, S', _, ?_, ?_, t, f, Z, cSt c 1, i, h1, h2, h3, s2, refM_ok (hM.cd 0) (k := 1) (by decide)⟩
    · rw [hv.1]
      unfold F_w_years_12
      rw [(show (1 : Int32) = nI 1 from rfl), s1, b2_s]
    · rw [hv.2]
      have e := refM_f (M := si M 1001 0) (k := 1) (by decide)
      rw [show F_m_refuse 1 (si M 1001 0) = _ from e, b2_s]
  by_cases hx : ∃ m, 1 ≤ m ∧ m ≤ 200 ∧ x = nI m
  · obtain ⟨m, m1, m2, rfl⟩ := hx
    have hpd := h2.1.2.2.2.2
    obtain ⟨c1, c2, c3, c4, c5, _⟩ := hC.sc
    obtain ⟨n1, n2, n3, n4, n5, _⟩ := (hM.cd 0).sc
    obtain ⟨S1, s1, s2, s3, s4⟩ := kpC_ok hC.sc h2.2.1 2 (gl S 29) (gi S 30).toInt64
    obtain ⟨M1, p1, p2, p3, p4⟩ := kpM_ok (hM.cd 0).sc h2.2.1 (by have := lw_lt h1 h2; omega)
    obtain ⟨S', t1, t2, t3, t4⟩ := yearsC_lp (y := sYs c) h1 hpd m2 m FU 0 S1 (Nat.zero_add _) (by rw [FU_v]; omega) (ZC_fr hC.z s2 (by decide) (by decide) (by decide)) (by rw [s2.gl _ (by decide)]; exact c4) (by rw [s2.gi _ (by decide)]; exact c5)
    obtain ⟨M', u1, u2, u3, u4⟩ := yearsM_lp (y := sYs c) h1 hpd m2 m FU 0 M1 (Nat.zero_add _) (by rw [FU_v]; omega) (ZM_fr (hM.cd 0).z p2 (by decide) (by decide)) (by rw [p2.gl _ (by decide)]; exact n4) (by rw [p2.gi _ (by decide)]; exact n5)
    have hn : SnOk Z (c.1.1, c.1.2.1, c.1.2.2.1, (orb Z (sPd c) (sYs c) m).1, (orb Z (sPd c) (sYs c) m).2) := by
      obtain ⟨g1, g2, g3, g4, g5⟩ := h2.1
      exact ⟨g1, g2, g3, g4, orb_lt g5 m⟩
    have hd : Dif 2 (gl S 29) (gi S 30).toInt64 c.1 (c.1.1, c.1.2.1, c.1.2.2.1, (orb Z (sPd c) (sYs c) m).1, (orb Z (sPd c) (sYs c) m).2) := by
      refine Or.inr (Or.inr ⟨rfl, c4, ?_, rfl, rfl, rfl⟩)
      rw [c5]; rfl
    refine ⟨nI (pc (orb Z (sPd c) (sYs c) m).1), S', M', ?_, ?_, t, f, Z, cKp c (c.1.1, c.1.2.1, c.1.2.2.1, (orb Z (sPd c) (sYs c) m).1, (orb Z (sPd c) (sYs c) m).2), i, h1, ScOk_kp h2 hn, h3, RC_kp hC ?_ ?_ ?_ ?_, RM_kp (hM.cd 0) ?_ ?_ ?_ ?_⟩
    · unfold F_w_years
      rw [(show (1 : Int32) = nI 1 from rfl), if_neg (by rw [lt_nI (by omega) (by decide)]; omega), show (200 : Int32) = nI 200 from rfl, if_pos (nI_le m2 (by decide)), s1, b2_s]
      exact t1
    · unfold F_m_years
      rw [i2l_nI (by omega), (show (1 : Int64) = lN 1 from rfl), (show (200 : Int64) = lN 200 from rfl), isIn_y m1 m2 (by decide), b1_s, if_neg I1_0, p1, b2_s]
      exact u1
    · exact Fr.trans (s2.mono (by decide) (by decide) (by decide) (by decide) (by decide)) (t2.mono (by decide) (by decide) (by decide) (by decide) (by decide))
    · rw [t2.gi _ (by decide)]; exact s3
    · rw [t2.ai _ (by decide), t2.al _ (by decide), t2.al _ (by decide)]; exact s4 _ hd
    · refine ⟨?_, ?_, ?_, t3, t4⟩
      · rw [t2.gl _ (by decide), s2.gl _ (by decide)]; exact c1
      · rw [t2.gl _ (by decide), s2.gl _ (by decide)]; exact c2
      · rw [t2.gi _ (by decide), s2.gi _ (by decide)]; exact c3
    · exact Fr.trans (p2.mono (by decide) (by decide) (by decide) (by decide) (by decide)) (u2.mono (by decide) (by decide) (by decide) (by decide) (by decide))
    · rw [u2.gi _ (by decide)]; exact p3
    · rw [u2.al _ (by decide)]; exact p4
    · refine ⟨?_, ?_, ?_, u3, u4⟩
      · rw [u2.gl _ (by decide), p2.gl _ (by decide)]; exact n1
      · rw [u2.gl _ (by decide), p2.gl _ (by decide)]; exact n2
      · rw [u2.gi _ (by decide), p2.gi _ (by decide)]; exact n3
  · refine bad ⟨?_, ?_⟩
    · unfold F_w_years
      rcases I_cases x with q | ⟨k, hk, rfl⟩
      · rw [if_pos (by rw [(show (1 : Int32) = nI 1 from rfl), neg_lt q (by decide)]; trivial)]
      · by_cases w : k < 1
        · rw [if_pos (by rw [(show (1 : Int32) = nI 1 from rfl), lt_nI hk (by decide)]; exact w)]
        · rw [if_neg (by rw [(show (1 : Int32) = nI 1 from rfl), lt_nI hk (by decide)]; exact w), if_neg]
          rw [show (200 : Int32) = nI 200 from rfl, le_nI hk (by decide)]
          exact fun r => hx ⟨k, by omega, r, rfl⟩
    · unfold F_m_years
      rw [(show (1 : Int64) = lN 1 from rfl), (show (200 : Int64) = lN 200 from rfl), isIn_n (by decide) (by decide), b1_s, if_pos rfl]
      rintro ⟨k, k1, k2, k3⟩
      rw [in_wide (by omega)] at k3
      exact hx ⟨k, k1, k2, k3⟩
/-! ends -/
def eR (Z : Zt) (y : Int32) : Nat → Nat → Nat → Int32
  | 0, k, x => if x = 0 then nI k else -1
  | m + 1, k, x => if x = 0 then nI k else eR Z y m (k + 1) (spw Z x (y + nI k))
theorem endsC {Z : Zt} {y : Int32} (hz : ZOk Z) : ∀ (m n k x : Nat) (S : Sto), k + m = 300 → m < n → x < 2 ^ zP Z → ZC Z S → ∃ S', F_Po_yearsLeft_6 n y (lN x) (nI k) S = some (eR Z y m k x, S') ∧ Fr [] [] qc [] [] S S' := by
  intro m
  induction m with
  | zero =>
    intro n k x S hk hn hx hZ
    obtain ⟨n, rfl⟩ : ∃ q, n = q + 1 := ⟨n - 1, by omega⟩
    have : k = 300 := by omega
    subst this
    have hb := pd_lt hz hx
    refine ⟨S, ?_, Fr.rfl⟩
    rw [F_Po_yearsLeft_6, if_pos (by decide)]
    unfold eR
    by_cases q : x = 0
    · rw [q, if_pos (show lN 0 = (0 : Int64) from rfl), if_pos rfl]; rfl
    · rw [(show (0 : Int64) = lN 0 from rfl), if_neg (by rw [eq_lN (by omega) (by decide)]; exact q), if_neg q]
  | succ m ih =>
    intro n k x S hk hn hx hZ
    obtain ⟨n, rfl⟩ : ∃ q, n = q + 1 := ⟨n - 1, by omega⟩
    have hb := pd_lt hz hx
    have e : eR Z y (m + 1) k x = if x = 0 then nI k else eR Z y m (k + 1) (spw Z x (y + nI k)) := rfl
    rw [F_Po_yearsLeft_6, show (300 : Int32) = nI 300 from rfl, if_neg (nI_ge (by omega) (by decide)), e]
    by_cases q : x = 0
    · rw [if_pos q, q, if_pos (show lN 0 = (0 : Int64) from rfl)]
      exact ⟨S, rfl, Fr.rfl⟩
    · rw [if_neg q, (show (0 : Int64) = lN 0 from rfl), if_neg (by rw [eq_lN (by omega) (by decide)]; exact q)]
      obtain ⟨S1, s1, s2⟩ := behind_ok (y := y + nI k) hz hb hZ
      rw [s1, b2_s, (show (1 : Int32) = nI 1 from rfl), nI_add]
      obtain ⟨S', t1, t2⟩ := ih n (k + 1) _ S1 (by omega) (by omega) (spw_lt _ hx) (ZC_fr hZ s2 (by decide) (by decide) (by decide))
      exact ⟨S', t1, s2.trans t2⟩
theorem endsM {Z : Zt} {y : Int32} (hz : ZOk Z) : ∀ (m n k x : Nat) (M : Sto), k + m = 300 → m + 1 < n → x < 2 ^ zP Z → ZM Z M → gi M 1017 = y → ∃ M', F_m_ends_12 n (lN x) (nI k) M = some (eR Z y m k x, M') ∧ Fr [] [] mc [] [] M M' := by
  intro m
  induction m with
  | zero =>
    intro n k x M hk hn hx hZ hy
    obtain ⟨n, rfl⟩ : ∃ q, n = q + 1 + 1 := ⟨n - 2, by omega⟩
    have : k = 300 := by omega
    subst this
    have hb := pd_lt hz hx
    rw [F_m_ends_12, if_neg (by decide)]
    unfold eR
    by_cases q : x = 0
    · rw [q, if_pos (show lN 0 = (0 : Int64) from rfl), if_pos rfl]
      exact ⟨M, rfl, Fr.rfl⟩
    · rw [(show (0 : Int64) = lN 0 from rfl), if_neg (by rw [eq_lN (by omega) (by decide)]; exact q), if_neg q, hy]
      obtain ⟨M1, s1, s2⟩ := spawned_ok (y := y + nI 300) hz hb hZ
      rw [s1, b2_s, F_m_ends_12, if_pos (by decide)]
      exact ⟨M1, rfl, s2.mono (by decide) (by decide) (by decide) (by decide) (by decide)⟩
  | succ m ih =>
    intro n k x M hk hn hx hZ hy
    obtain ⟨n, rfl⟩ : ∃ q, n = q + 1 := ⟨n - 1, by omega⟩
    have hb := pd_lt hz hx
    have e : eR Z y (m + 1) k x = if x = 0 then nI k else eR Z y m (k + 1) (spw Z x (y + nI k)) := rfl
    rw [F_m_ends_12, show (300 : Int32) = nI 300 from rfl, if_neg (by rw [lt_nI (by decide) (by omega)]; omega), e]
    by_cases q : x = 0
    · rw [if_pos q, q, if_pos (show lN 0 = (0 : Int64) from rfl)]
      exact ⟨M, rfl, Fr.rfl⟩
    · rw [if_neg q, (show (0 : Int64) = lN 0 from rfl), if_neg (by rw [eq_lN (by omega) (by decide)]; exact q), hy]
      obtain ⟨M1, s1, s2⟩ := spawned_ok (y := y + nI k) hz hb hZ
      rw [s1, b2_s, (show (1 : Int32) = nI 1 from rfl), nI_add]
      obtain ⟨M', t1, t2⟩ := ih n (k + 1) _ M1 (by omega) (by omega) (spw_lt _ hx) (ZM_fr hZ s2 (by decide) (by decide)) (by rw [s2.gi _ (by decide)]; exact hy)
      exact ⟨M', t1, Fr.trans (s2.mono (by decide) (by decide) (by decide) (by decide) (by decide)) t2⟩
theorem RC_fq {t : Tp} {f : Int32} {Z : Zt} {c : Scn} {i : Option Scn} {S T : Sto} {a d e : List Nat} (h : RC t f Z c i S) (q : Fr a [] d e [] S T) (ha : ∀ k ∈ a, k ∈ qa) (hd : ∀ k ∈ d, k ∈ qc) (he : ∀ k ∈ e, k ∈ qd) : RC t f Z c i T := by
  have q' : QS S T := q.mono ha (by decide) hd he (by decide)
  refine RC_q h q' ?_
  rw [q.gr _ (by decide), q.gr _ (by decide)]
  exact h.gr
theorem RM_fq {t : Tp} {f : Int32} {Z : Zt} {c : Scn} {i : Option Scn} {S T : Sto} {a b d e : List Nat} (h : RM t f Z c i S) (q : Fr a b d e [] S T) (ha : ∀ k ∈ a, k ∈ ma) (hb : ∀ k ∈ b, k ∈ mb) (hd : ∀ k ∈ d, k ∈ mc) (he : ∀ k ∈ e, k ∈ md) : RM t f Z c i T :=
  RM_q h (q.mono ha hb hd he (by decide))
theorem ends_ok {S M : Sto} (h : Rl S M) : ∃ r S' M', F_w_ends S = some (r, S') ∧ F_m_ends M = some (r, M') ∧ Rl S' M' := by
  obtain ⟨t, f, Z, c, i, h1, h2, h3, hC, hM⟩ := h
  have hpd := h2.1.2.2.2.2
  obtain ⟨c1, c2, c3, c4, c5, _⟩ := hC.sc
  obtain ⟨n1, n2, n3, n4, n5, _⟩ := (hM.cd 0).sc
  obtain ⟨S', s1, s2⟩ := endsC (y := sYs c) h1 300 FU 0 (sPd c) S rfl (by rw [FU_v]; decide) hpd hC.z
  obtain ⟨M', t1, t2⟩ := endsM (y := sYs c) h1 300 FU 0 (sPd c) (si M 1001 0) rfl (by rw [FU_v]; decide) hpd (hM.cd 0).z n5
  refine ⟨eR Z (sYs c) 300 0 (sPd c), S', M', ?_, ?_, t, f, Z, c, i, h1, h2, h3, RC_fq hC s2 (by decide) (by decide) (by decide), RM_fq (hM.cd 0) t2 (by decide) (by decide) (by decide) (by decide)⟩
  · unfold F_w_ends F_Po_yearsLeft
    rw [c4, c5, (show (0 : Int32) = nI 0 from rfl), s1, b2_s]
  · unfold F_m_ends
    rw [n4, (show (0 : Int32) = nI 0 from rfl)]
    exact t1
/-! round -/
def ob (Z : Zt) (x : Nat) (y : Int32) : Nat → Nat
  | 0 => x
  | k + 1 => spw Z (ob Z x y k) y
theorem ob_lt {Z : Zt} {x : Nat} {y : Int32} (h : x < 2 ^ zP Z) : ∀ k, ob Z x y k < 2 ^ zP Z
  | 0 => h
  | k + 1 => spw_lt _ (ob_lt h k)
theorem ob_per {Z : Zt} {x : Nat} {y : Int32} {a b : Nat} (h : ob Z x y a = ob Z x y b) : ∀ k, ob Z x y (a + k) = ob Z x y (b + k)
  | 0 => h
  | k + 1 => by
    show spw Z (ob Z x y (a + k)) y = spw Z (ob Z x y (b + k)) y
    rw [ob_per h k]
theorem ob_in {Z : Zt} {x : Nat} {y : Int32} {a b : Nat} (h : ob Z x y a = ob Z x y b) (hab : a < b) : ∀ (n q : Nat), q ≤ n → a ≤ q → ∃ r, a ≤ r ∧ r < b ∧ ob Z x y q = ob Z x y r
  | 0, q, hq, ha => ⟨q, ha, by omega, rfl⟩
  | n + 1, q, hq, ha => by
    by_cases w : q < b
    · exact ⟨q, ha, w, rfl⟩
    · obtain ⟨r, r1, r2, r3⟩ := ob_in h hab n (a + (q - b)) (by omega) (by omega)
      refine ⟨r, r1, r2, ?_⟩
      rw [← r3, ob_per h, show b + (q - b) = q by omega]
theorem rd_62 {Z : Zt} {x : Nat} {y : Int32} {k20 : Int32 → Int32 → Sto → Option (Unit × Sto)} (hz : ZOk Z) (hx : x < 2 ^ zP Z) {i : Nat} (hi : i ≤ 300) : ∀ (m n o : Nat) (S : Sto), o + m = i → m < n → gi S 42 = -1 → (∀ p, p ≤ i → al S 46 p = lN (ob Z x y p)) → (∀ p, p < o → ob Z x y p ≠ ob Z x y i) →
    ((∀ p, p < i → ob Z x y p ≠ ob Z x y i) ∧ F_Po_goRound_62 k20 n y (nI i) (nI o) S = k20 y (nI (i + 1)) S) ∨ (∃ p, p < i ∧ ob Z x y p = ob Z x y i ∧ F_Po_goRound_62 k20 n y (nI i) (nI o) S = k20 y (nI (i + 1)) (si (si S 42 (nI p)) 43 (nI (i - p)))) := by
  intro m
  induction m with
  | zero =>
    intro n o S ho hn h42 hp hne
    obtain ⟨n, rfl⟩ : ∃ q, n = q + 1 := ⟨n - 1, by omega⟩
    have : o = i := by omega
    subst this
    refine Or.inl ⟨hne, ?_⟩
    rw [F_Po_goRound_62, if_pos (nI_le (by omega) (by omega))]
    unfold F_Po_goRound_116
    rw [(show (1 : Int32) = nI 1 from rfl), nI_add]
  | succ m ih =>
    intro n o S ho hn h42 hp hne
    obtain ⟨n, rfl⟩ : ∃ q, n = q + 1 := ⟨n - 1, by omega⟩
    have b1 := pd_lt hz (ob_lt (y := y) hx o)
    have b2 := pd_lt hz (ob_lt (y := y) hx i)
    rw [F_Po_goRound_62, if_neg (nI_ge (by omega) (by omega)), if_pos h42, ck_t (ib_nI (by omega) (by decide)), ck_t (ib_nI (by omega) (by decide)), nI_clamp (by omega), nI_clamp (by omega), hp o (by omega), hp i (Nat.le_refl _)]
    unfold F_Po_goRound_110
    rw [(show (1 : Int32) = nI 1 from rfl), nI_add]
    by_cases q : ob Z x y o = ob Z x y i
    · rw [if_pos (by rw [q]), sub_nI (by omega)]
      refine Or.inr ⟨o, by omega, q, ?_⟩
      obtain ⟨n, rfl⟩ : ∃ q, n = q + 1 := ⟨n - 1, by omega⟩
      rw [F_Po_goRound_62]
      unfold F_Po_goRound_116
      have e42 : gi (si (si S 42 (nI o)) 43 (nI (i - o))) 42 = nI o := rfl
      rw [e42, show nI i + (1 : Int32) = nI (i + 1) from nI_add i 1]
      by_cases w : nI i ≤ nI (o + 1)
      · rw [if_pos w]
      · rw [if_neg w, if_neg (show ¬ nI o = -1 by rw [show (-1 : Int32) = zI (-1) from rfl, nI_z, eq_zI (by omega) (by omega) (by decide) (by decide)]; omega)]
    · rw [if_neg (by rw [eq_lN (by omega) (by omega)]; exact q)]
      exact ih n (o + 1) S (by omega) (by omega) h42 hp (fun p hp2 => by
        by_cases w : p = o
        · rw [w]; exact q
        · exact hne p (by omega))
theorem rd_20 {Z : Zt} {x : Nat} {y : Int32} (hz : ZOk Z) (hx : x < 2 ^ zP Z) : ∀ (m n i : Nat) (S : Sto), i + m = 301 → m + 1 < n → 1 ≤ i → ZC Z S → gi S 42 = -1 → gi S 43 = -1 → (∀ p, p < i → al S 46 p = lN (ob Z x y p)) → (∀ p q, p < q → q < i → ob Z x y p ≠ ob Z x y q) →
    ∃ S', F_Po_goRound_20 n y (nI i) S = some ((), S') ∧ Fr [42, 43] [] qc [46] [] S S' ∧ ((∃ a b, a < b ∧ b ≤ 300 ∧ ob Z x y a = ob Z x y b ∧ (∀ p q, p < q → q < b → ob Z x y p ≠ ob Z x y q) ∧ gi S' 42 = nI a ∧ gi S' 43 = nI (b - a)) ∨ ((∀ p q, p < q → q ≤ 300 → ob Z x y p ≠ ob Z x y q) ∧ gi S' 42 = -1 ∧ gi S' 43 = -1)) := by
  intro m
  induction m with
  | zero =>
    intro n i S hi hn h1 hZ h42 h43 hp hne
    obtain ⟨n, rfl⟩ : ∃ q, n = q + 1 := ⟨n - 1, by omega⟩
    have : i = 301 := by omega
    subst this
    rw [F_Po_goRound_20, if_pos (by decide)]
    exact ⟨S, rfl, Fr.rfl, Or.inr ⟨fun p q a b => hne p q a (by omega), h42, h43⟩⟩
  | succ m ih =>
    intro n i S hi hn h1 hZ h42 h43 hp hne
    obtain ⟨n, rfl⟩ : ∃ q, n = q + 1 := ⟨n - 1, by omega⟩
    rw [F_Po_goRound_20, show (300 : Int32) = nI 300 from rfl, if_neg (by rw [lt_nI (by decide) (by omega)]; omega), if_pos h42, (show (1 : Int32) = nI 1 from rfl), sub_nI h1, ck_t (ib_nI (by omega) (by decide)), nI_clamp (by omega), hp (i - 1) (by omega)]
    obtain ⟨S1, s1, s2⟩ := behind_ok (y := y) hz (pd_lt hz (ob_lt hx (i - 1))) hZ
    have eo : spw Z (ob Z x y (i - 1)) y = ob Z x y i := by
      obtain ⟨k, rfl⟩ : ∃ k, i = k + 1 := ⟨i - 1, by omega⟩
      rfl
    rw [s1, b2_s, ck_t (ib_nI (by omega) (by decide)), nI_clamp (by omega), eo]
    have q2 : Fr [42, 43] [] qc [46] [] S (ul S1 46 (vp_updL (al S1 46) i (lN (ob Z x y i)))) := (s2.mono (by decide) (by decide) (by decide) (by decide) (by decide)).ul (by decide)
    have hp2 : ∀ p, p ≤ i → al (ul S1 46 (vp_updL (al S1 46) i (lN (ob Z x y i)))) 46 p = lN (ob Z x y p) := by
      intro p hpp
      show vp_updL (al S1 46) i (lN (ob Z x y i)) p = _
      rw [updL_at]
      by_cases w : p = i
      · rw [if_pos w, w]
      · rw [if_neg w, s2.al _ (by decide)]; exact hp p (by omega)
    have e42 : gi (ul S1 46 (vp_updL (al S1 46) i (lN (ob Z x y i)))) 42 = -1 := by
      show gi S1 42 = -1
      rw [s2.gi _ (by decide)]; exact h42
    have e43 : gi (ul S1 46 (vp_updL (al S1 46) i (lN (ob Z x y i)))) 43 = -1 := by
      show gi S1 43 = -1
      rw [s2.gi _ (by decide)]; exact h43
    rcases rd_62 (k20 := F_Po_goRound_20 n) hz hx (show i ≤ 300 by omega) i FU 0 _ (Nat.zero_add _) (by rw [FU_v]; omega) e42 hp2 (fun p hp => absurd hp (Nat.not_lt_zero p)) with ⟨w1, w2⟩ | ⟨p, p1, p2, w2⟩
    · rw [(show (0 : Int32) = nI 0 from rfl), w2]
      obtain ⟨S', t1, t2, t3⟩ := ih n (i + 1) _ (by omega) (by omega) (by omega) (ZC_fr hZ q2 (by decide) (by decide) (by decide)) e42 e43 (fun p hp => hp2 p (by omega)) (fun p q a b => by
        by_cases w : q = i
        · rw [w]; exact w1 p (by omega)
        · exact hne p q a (by omega))
      exact ⟨S', t1, q2.trans t2, t3⟩
    · rw [(show (0 : Int32) = nI 0 from rfl), w2]
      obtain ⟨n, rfl⟩ : ∃ q, n = q + 1 := ⟨n - 1, by omega⟩
      generalize hT : si (si (ul S1 46 (vp_updL (al S1 46) i (lN (ob Z x y i)))) 42 (nI p)) 43 (nI (i - p)) = T
      have qT : Fr [42, 43] [] qc [46] [] S T := by rw [← hT]; exact (q2.si (by decide)).si (by decide)
      have f42 : gi T 42 = nI p := by rw [← hT]; rfl
      have f43 : gi T 43 = nI (i - p) := by rw [← hT]; rfl
      have ex : F_Po_goRound_20 (n + 1) y (nI (i + 1)) T = some ((), T) := by
        rw [F_Po_goRound_20]
        by_cases w : (300 : Int32) < nI (i + 1)
        · rw [if_pos w]
        · rw [if_neg w, f42, if_neg (show ¬ nI p = -1 by rw [show (-1 : Int32) = zI (-1) from rfl, nI_z, eq_zI (by omega) (by omega) (by decide) (by decide)]; omega)]
      rw [ex]
      exact ⟨T, rfl, qT, Or.inl ⟨p, i, p1, by omega, p2, hne, f42, f43⟩⟩
theorem mr_80 {Z : Zt} {x : Nat} {y : Int32} {k69 : Int32 → Int32 → Sto → Option (Int32 × Sto)} (hz : ZOk Z) (hx : x < 2 ^ zP Z) {w : Int32} {a : Nat} {M : Sto} (hp : ∀ p, p ≤ 300 → al M 1025 p = lN (ob Z x y p)) : ∀ (m n b : Nat), b + m = 301 → m < n → a < b → (∀ q, a < q → q < b → ob Z x y a ≠ ob Z x y q) →
    ((∀ q, a < q → q ≤ 300 → ob Z x y a ≠ ob Z x y q) ∧ F_m_round_80 k69 n w (nI a) (nI b) M = k69 w (nI (a + 1)) M) ∨ (∃ b', a < b' ∧ b' ≤ 300 ∧ ob Z x y a = ob Z x y b' ∧ (∀ q, a < q → q < b' → ob Z x y a ≠ ob Z x y q) ∧ F_m_round_80 k69 n w (nI a) (nI b) M = some (if w = 0 then nI a else nI (b' - a), M)) := by
  intro m
  induction m with
  | zero =>
    intro n b hb hn hab hne
    obtain ⟨n, rfl⟩ : ∃ q, n = q + 1 := ⟨n - 1, by omega⟩
    have : b = 301 := by omega
    subst this
    refine Or.inl ⟨fun q q1 q2 => hne q q1 (by omega), ?_⟩
    rw [F_m_round_80, if_pos (by decide), (show (1 : Int32) = nI 1 from rfl), nI_add]
  | succ m ih =>
    intro n b hb hn hab hne
    obtain ⟨n, rfl⟩ : ∃ q, n = q + 1 := ⟨n - 1, by omega⟩
    have b1 := pd_lt hz (ob_lt (y := y) hx a)
    have b2 := pd_lt hz (ob_lt (y := y) hx b)
    rw [F_m_round_80, show (300 : Int32) = nI 300 from rfl, if_neg (by rw [lt_nI (by decide) (by omega)]; omega), ck_t (ib_nI (by omega) (by decide)), ck_t (ib_nI (by omega) (by decide)), nI_clamp (by omega), nI_clamp (by omega), hp a (by omega), hp b (by omega)]
    by_cases q : ob Z x y a = ob Z x y b
    · rw [if_pos (by rw [q])]
      refine Or.inr ⟨b, hab, by omega, q, hne, ?_⟩
      rw [sub_nI (by omega)]
      by_cases v : w = 0
      · rw [if_pos v, if_pos v]
      · rw [if_neg v, if_neg v]
    · rw [if_neg (by rw [eq_lN (by omega) (by omega)]; exact q), (show (1 : Int32) = nI 1 from rfl), nI_add]
      exact ih n (b + 1) (by omega) (by omega) (by omega) (fun r r1 r2 => by
        by_cases v : r = b
        · rw [v]; exact q
        · exact hne r r1 (by omega))
theorem mr_69 {Z : Zt} {x : Nat} {y : Int32} (hz : ZOk Z) (hx : x < 2 ^ zP Z) {w : Int32} {M : Sto} (hp : ∀ p, p ≤ 300 → al M 1025 p = lN (ob Z x y p)) : ∀ (m n a : Nat), a + m = 300 → m < n → (∀ p q, p < a → p < q → q ≤ 300 → ob Z x y p ≠ ob Z x y q) →
    ((∀ p q, p < q → q ≤ 300 → ob Z x y p ≠ ob Z x y q) ∧ F_m_round_69 n w (nI a) M = some (-1, M)) ∨ (∃ a' b', a' < b' ∧ b' ≤ 300 ∧ ob Z x y a' = ob Z x y b' ∧ (∀ q, a' < q → q < b' → ob Z x y a' ≠ ob Z x y q) ∧ (∀ p q, p < a' → p < q → q ≤ 300 → ob Z x y p ≠ ob Z x y q) ∧ F_m_round_69 n w (nI a) M = some (if w = 0 then nI a' else nI (b' - a'), M)) := by
  intro m
  induction m with
  | zero =>
    intro n a ha hn hne
    obtain ⟨n, rfl⟩ : ∃ q, n = q + 1 := ⟨n - 1, by omega⟩
    have : a = 300 := by omega
    subst this
    refine Or.inl ⟨fun p q q1 q2 => hne p q (by omega) q1 q2, ?_⟩
    rw [F_m_round_69, if_pos (by decide)]
  | succ m ih =>
    intro n a ha hn hne
    obtain ⟨n, rfl⟩ : ∃ q, n = q + 1 := ⟨n - 1, by omega⟩
    rw [F_m_round_69, show (300 : Int32) = nI 300 from rfl, if_neg (nI_ge (by omega) (by decide)), show nI a + (1 : Int32) = nI (a + 1) from nI_add a 1]
    rcases mr_80 (k69 := F_m_round_69 n) (w := w) (a := a) hz hx hp (300 - a) FU (a + 1) (by omega) (by rw [FU_v]; omega) (by omega) (fun q q1 q2 => by omega) with ⟨e1, e2⟩ | ⟨b', e1, e2, e3, e4, e5⟩
    · rw [e2]
      refine ih n (a + 1) (by omega) (by omega) (fun p q p1 q1 q2 => ?_)
      by_cases v : p = a
      · rw [v]; exact e1 q (by omega) q2
      · exact hne p q (by omega) q1 q2
    · rw [e5]
      exact Or.inr ⟨a, b', e1, e2, e3, e4, hne, rfl⟩
theorem mr_32 {Z : Zt} {x : Nat} {y : Int32} (hz : ZOk Z) (hx : x < 2 ^ zP Z) {w : Int32} : ∀ (m n i : Nat) (M : Sto), i + m = 301 → m < n → 1 ≤ i → ZM Z M → gi M 1017 = y → (∀ p, p < i → al M 1025 p = lN (ob Z x y p)) →
    ∃ M', F_m_round_32 n w (nI i) M = F_m_round_69 FU w 0 M' ∧ Fr [] [] mc [1025] [] M M' ∧ ∀ p, p ≤ 300 → al M' 1025 p = lN (ob Z x y p) := by
  intro m
  induction m with
  | zero =>
    intro n i M hi hn h1 hZ hy hp
    obtain ⟨n, rfl⟩ : ∃ q, n = q + 1 := ⟨n - 1, by omega⟩
    have : i = 301 := by omega
    subst this
    refine ⟨M, ?_, Fr.rfl, fun p hp2 => hp p (by omega)⟩
    rw [F_m_round_32, if_pos (by decide)]
  | succ m ih =>
    intro n i M hi hn h1 hZ hy hp
    obtain ⟨n, rfl⟩ : ∃ q, n = q + 1 := ⟨n - 1, by omega⟩
    rw [F_m_round_32, show (300 : Int32) = nI 300 from rfl, if_neg (by rw [lt_nI (by decide) (by omega)]; omega), (show (1 : Int32) = nI 1 from rfl), sub_nI h1, ck_t (ib_nI (by omega) (by decide)), nI_clamp (by omega), hp (i - 1) (by omega), hy]
    obtain ⟨M1, s1, s2⟩ := spawned_ok (y := y) hz (pd_lt hz (ob_lt hx (i - 1))) hZ
    have eo : spw Z (ob Z x y (i - 1)) y = ob Z x y i := by
      obtain ⟨k, rfl⟩ : ∃ k, i = k + 1 := ⟨i - 1, by omega⟩
      rfl
    rw [s1, b2_s, ck_t (ib_nI (by omega) (by decide)), nI_clamp (by omega), eo, nI_add]
    have q2 : Fr [] [] mc [1025] [] M (ul M1 1025 (vp_updL (al M1 1025) i (lN (ob Z x y i)))) := (s2.mono (by decide) (by decide) (by decide) (by decide) (by decide)).ul (by decide)
    obtain ⟨M', t1, t2, t3⟩ := ih n (i + 1) _ (by omega) (by omega) (by omega) (ZM_fr hZ q2 (by decide) (by decide)) (by
      show gi M1 1017 = y
      rw [s2.gi _ (by decide)]; exact hy) (fun p hpp => by
      show vp_updL (al M1 1025) i (lN (ob Z x y i)) p = _
      rw [updL_at]
      by_cases w : p = i
      · rw [if_pos w, w]
      · rw [if_neg w, s2.al _ (by decide)]; exact hp p (by omega))
    exact ⟨M', t1, q2.trans t2, t3⟩
theorem round_ok {S M O : Sto} (h : Rl S M) (x : Int32) : ∃ k S' O' b M', F_l_round x S O = some (k, S', O') ∧ F_m_round x M = some (b, M') ∧ gi M' 1001 = k ∧ (k = 0 → al O' 2000 (Int32.toNatClampNeg 0) = b.toInt64) ∧ Rl S' M' := by
  obtain ⟨t, f, Z, c, i, h1, h2, h3, hC, hM⟩ := h
  have hpd := h2.1.2.2.2.2
  obtain ⟨c1, c2, c3, c4, c5, _⟩ := hC.sc
  obtain ⟨n1, n2, n3, n4, n5, _⟩ := (hM.cd 0).sc
  by_cases hx : x = 0 ∨ x = 1
  · have hx1 : ¬ x < 0 := by rcases hx with q | q <;> rw [q] <;> decide
    have hx2 : x ≤ 1 := by rcases hx with q | q <;> rw [q] <;> decide
    generalize hT : ul (si (si S 42 (-1)) 43 (-1)) 46 (vp_updL (al (si (si S 42 (-1)) 43 (-1)) 46) (Int32.toNatClampNeg 0) (gl S 29)) = T
    have qT : Fr [42, 43] [] qc [46] [] S T := by rw [← hT]; exact ((Fr.rfl.si (by decide)).si (by decide)).ul (by decide)
    obtain ⟨S', s1, s2, s3⟩ := rd_20 (x := sPd c) (y := sYs c) h1 hpd 300 FU 1 T rfl (by rw [FU_v]; decide) (by decide) (ZC_fr hC.z qT (by decide) (by decide) (by decide)) (by rw [← hT]; rfl) (by rw [← hT]; rfl) (fun p hp => by
      have : p = 0 := by omega
      rw [this, ← hT]
      exact c4) (fun p q a b => by omega)
    have sC : F_Po_goRound (gl S 29) (gi S 30) S = some ((), S') := by
      unfold F_Po_goRound
      rw [hT, c5]
      exact s1
    have wC : F_w_round x S = some (.inl (if x = 0 then gi S' 42 else gi S' 43), S') := by
      unfold F_w_round
      rw [if_neg hx1, if_pos hx2, sC, b2_s]
      by_cases v : x = 0
      · rw [if_pos v, if_pos v]
      · rw [if_neg v, if_neg v]
    generalize hU : ul (si M 1001 0) 1025 (vp_updL (al (si M 1001 0) 1025) (Int32.toNatClampNeg 0) (gl (si M 1001 0) 1015)) = U
    have qU : Fr [1001] [] mc [1025] [] M U := by rw [← hU]; exact (Fr.rfl.si (by decide)).ul (by decide)
    obtain ⟨M', t1, t2, t3⟩ := mr_32 (x := sPd c) (y := sYs c) (w := x) h1 hpd 300 FU 1 U rfl (by rw [FU_v]; decide) (by decide) (ZM_fr hM.z qU (by decide) (by decide)) (by rw [qU.gi _ (by decide)]; exact n5) (fun p hp => by
      have : p = 0 := by omega
      rw [this, ← hU]
      exact n4)
    have eM : F_m_round x M = F_m_round_69 FU x 0 M' := by
      unfold F_m_round
      rw [if_neg hx1, if_pos hx2, hU]
      exact t1
    have qM : Fr [1001] [] mc [1025] [] M M' := qU.trans (t2.mono (by decide) (by decide) (by decide) (by decide) (by decide))
    have cdM : gi M' 1001 = 0 := by rw [t2.gi _ (by decide), ← hU]; rfl
    have fin : ∀ r : Int32, (if x = 0 then gi S' 42 else gi S' 43) = r → F_m_round_69 FU x 0 M' = some (r, M') → ∃ k S' O' b M', F_l_round x S O = some (k, S', O') ∧ F_m_round x M = some (b, M') ∧ gi M' 1001 = k ∧ (k = 0 → al O' 2000 (Int32.toNatClampNeg 0) = b.toInt64) ∧ Rl S' M' := by
      intro r e1 e2
      refine ⟨0, S', oW O r.toInt64, r, M', ?_, eM.trans e2, cdM, fun _ => rfl, t, f, Z, c, i, h1, h2, h3, RC_fq hC (qT.trans s2) (by decide) (by decide) (by decide), RM_fq hM qM (by decide) (by decide) (by decide) (by decide)⟩
      unfold F_l_round
      rw [wC, b2_s, su_l, e1]
    rcases mr_69 (w := x) h1 hpd t3 300 FU 0 rfl (by rw [FU_v]; decide) (fun p q p1 => absurd p1 (Nat.not_lt_zero p)) with ⟨e1, e2⟩ | ⟨a', b', e1, e2, e3, e4, e5, e6⟩
    · rcases s3 with ⟨a, b, g1, g2, g3, _⟩ | ⟨_, g1, g2⟩
      · exact absurd g3 (e1 a b g1 g2)
      · refine fin (-1) ?_ e2
        rw [g1, g2]
        split <;> rfl
    · rcases s3 with ⟨a, b, g1, g2, g3, g4, g5, g6⟩ | ⟨g1, _⟩
      · have ea : a = a' := by
          rcases Nat.lt_trichotomy a a' with v | v | v
          · exact absurd g3 (e5 a b v g1 g2)
          · exact v
          · exfalso
            by_cases u : b' < b
            · exact g4 a' b' e1 u e3
            · obtain ⟨r, r1, r2, r3⟩ := ob_in g3 g1 b' b' (Nat.le_refl _) (by omega)
              exact g4 a' r (by omega) r2 (e3.trans r3)
        subst ea
        have eb : b = b' := by
          rcases Nat.lt_trichotomy b b' with v | v | v
          · exact absurd g3 (e4 b g1 v)
          · exact v
          · exact absurd e3 (g4 a b' e1 v)
        subst eb
        refine fin _ ?_ e6
        rw [g5, g6]
      · exact absurd e3 (g1 a' b' e1 e2)
  · have hc : x < 0 ∨ ¬ x ≤ 1 := by
      rcases I_cases x with q | ⟨k, hk, rfl⟩
      · exact Or.inl q
      · refine Or.inr ?_
        rw [(show (1 : Int32) = nI 1 from rfl), le_nI hk (by decide)]
        intro q
        have : k = 0 ∨ k = 1 := by omega
        rcases this with r | r <;> subst r
        · exact hx (Or.inl rfl)
        · exact hx (Or.inr rfl)
    have eC : F_w_round x S = some (.inr 1, S) := by
      unfold F_w_round F_w_round_9
      rcases hc with q | q
      · rw [if_pos q]
      · by_cases v : x < 0
        · rw [if_pos v]
        · rw [if_neg v, if_neg q]
    have eM : F_m_round x M = some (0, si (si M 1001 0) 1001 1) := by
      unfold F_m_round F_m_round_14
      rcases hc with q | q
      · rw [if_pos q]; rfl
      · by_cases v : x < 0
        · rw [if_pos v]; rfl
        · rw [if_neg v, if_neg q]; rfl
    refine ⟨1, S, O, 0, _, ?_, eM, rfl, fun e => absurd e (by decide), t, f, Z, c, i, h1, h2, h3, hC, (hM.cd 0).cd 1⟩
    unfold F_l_round
    rw [eC, b2_s, su_r]
    rfl
