/-! ===== licences by sums: the model ===== -/
section
variable {m : Nat} {L : Nat → Nat}
abbrev tfr (M T : Sto) : Prop := Fr [] [] [] [1022, 1023] [] M T
theorem t22 (M : Sto) (g : Nat → Int64) : tfr M (ul M 1022 g) := Fr.rfl.ul (by decide)
theorem t23 (M : Sto) (g : Nat → Int64) : Fr [] [] [] [1023] [] M (ul M 1023 g) := Fr.rfl.ul (by decide)
theorem t23' {M T : Sto} (h : Fr [] [] [] [1023] [] M T) : tfr M T := h.mono (fun _ q => q) (fun _ q => q) (fun _ q => q) (by decide) (fun _ q => q)
theorem ts2 (x1 : Int32) (hm2 : m ≤ 50) : ∀ (j n k : Nat) (M : Sto), k + j = m → j < n → (∀ r, r < k → al M 1022 r = lN (tS m 0 r)) → ∃ T, F_m_tellSums_2 n x1 (nI m) (nI k) M = F_m_tellSums_30 FU x1 (nI m) 0 T ∧ tfr M T ∧ (∀ r, r < m → al T 1022 r = lN (tS m 0 r)) := by
  intro j
  induction j with
  | zero =>
    intro n k M hk hn h0
    obtain ⟨n, rfl⟩ : ∃ q, n = q + 1 := ⟨n - 1, by omega⟩
    have : k = m := by omega
    subst this
    exact ⟨M, by rw [F_m_tellSums_2, if_pos (nI_le (Nat.le_refl _) (by omega))], Fr.rfl, h0⟩
  | succ j ih =>
    intro n k M hk hn h0
    obtain ⟨n, rfl⟩ : ∃ q, n = q + 1 := ⟨n - 1, by omega⟩
    obtain ⟨T, e1, e2, e3⟩ := ih n (k + 1) (ul M 1022 (vp_updL (al M 1022) k (lN (tS m 0 k)))) (by omega) (by omega) (fun i hi => by
      rw [ulB]
      by_cases q : i = k
      · rw [if_pos q, q]
      · rw [if_neg q]; exact h0 i (by omega))
    refine ⟨T, ?_, (t22 ..).trans e2, e3⟩
    rw [F_m_tellSums_2, if_neg (nI_ge (by omega) (by omega))]
    unfold F_m_tellSums_21
    have hv : tS m 0 k = if k = 0 then 1 else 0 := rfl
    rw [hv] at e1
    by_cases w : k = 0
    · rw [if_pos (by rw [w]; rfl), ck_t (ib_nI (by omega) (by decide)), nI_clamp (by omega), show nI k + (1 : Int32) = nI (k + 1) from nI_add k 1]
      rw [if_pos w] at e1
      exact e1
    · rw [if_neg (nI_ne0 (by omega) (by omega)), ck_t (ib_nI (by omega) (by decide)), nI_clamp (by omega), show nI k + (1 : Int32) = nI (k + 1) from nI_add k 1]
      rw [if_neg w] at e1
      exact e1
theorem ts38 (k30 : Int32 → Int32 → Int32 → Sto → Option (Unit × Sto)) (x1 x3 : Int32) (hm2 : m ≤ 50) : ∀ (j n k : Nat) (M : Sto), k + j = m → j < n → (∀ r, r < k → al M 1023 r = lN 0) → ∃ T, F_m_tellSums_38 k30 n x1 (nI m) x3 (nI k) M = F_m_tellSums_61 k30 FU x1 (nI m) x3 0 T ∧ Fr [] [] [] [1023] [] M T ∧ (∀ r, r < m → al T 1023 r = lN 0) := by
  intro j
  induction j with
  | zero =>
    intro n k M hk hn h0
    obtain ⟨n, rfl⟩ : ∃ q, n = q + 1 := ⟨n - 1, by omega⟩
    have : k = m := by omega
    subst this
    exact ⟨M, by rw [F_m_tellSums_38, if_pos (nI_le (Nat.le_refl _) (by omega))], Fr.rfl, h0⟩
  | succ j ih =>
    intro n k M hk hn h0
    obtain ⟨n, rfl⟩ : ∃ q, n = q + 1 := ⟨n - 1, by omega⟩
    obtain ⟨T, e1, e2, e3⟩ := ih n (k + 1) (ul M 1023 (vp_updL (al M 1023) k 0)) (by omega) (by omega) (fun i hi => by
      rw [ulB]
      by_cases q : i = k
      · rw [if_pos q]; rfl
      · rw [if_neg q]; exact h0 i (by omega))
    refine ⟨T, ?_, (t23 ..).trans e2, e3⟩
    rw [F_m_tellSums_38, if_neg (nI_ge (by omega) (by omega)), ck_t (ib_nI (by omega) (by decide)), nI_clamp (by omega), show nI k + (1 : Int32) = nI (k + 1) from nI_add k 1]
    exact e1
theorem ts70 (k30 : Int32 → Int32 → Int32 → Sto → Option (Unit × Sto)) (k61 : Int32 → Int32 → Int32 → Int32 → Sto → Option (Unit × Sto)) (x1 x3 : Int32) (hm : 0 < m) (hm2 : m ≤ 50) {s : Nat} (hs : s < m) : ∀ (j n f : Nat) (M : Sto), f + j = 10 → j < n → (∀ r, r < m → al M 1022 r = lN (L r)) → (∀ r, r < m → al M 1023 r = lN (dsP m L s f r)) → ∃ T, F_m_tellSums_70 k30 k61 n x1 (nI m) x3 (nI s) (nI f) M = k61 x1 (nI m) x3 (nI (s + 1)) T ∧ Fr [] [] [] [1023] [] M T ∧ (∀ r, r < m → al T 1023 r = lN (dsP m L (s + 1) 0 r)) := by
  intro j
  induction j with
  | zero =>
    intro n f M hf hn hA hB
    obtain ⟨n, rfl⟩ : ∃ q, n = q + 1 := ⟨n - 1, by omega⟩
    have : f = 10 := by omega
    subst this
    refine ⟨M, ?_, Fr.rfl, fun r hr => by rw [hB r hr, dsP_0]⟩
    rw [F_m_tellSums_70, if_pos (by decide), show nI s + (1 : Int32) = nI (s + 1) from nI_add s 1]
  | succ j ih =>
    intro n f M hf hn hA hB
    obtain ⟨n, rfl⟩ : ∃ q, n = q + 1 := ⟨n - 1, by omega⟩
    have hq : (s + f) % m < m := Nat.mod_lt _ hm
    obtain ⟨T, e1, e2, e3⟩ := ih n (f + 1) (ul M 1023 (vp_updL (al M 1023) ((s + f) % m) (al M 1023 ((s + f) % m) + lN (L s)))) (by omega) (by omega) (fun r hr => by
      rw [(t23 M _).al 1022 (by decide)]; exact hA r hr) (fun r hr => by
      rw [ulB, dsP_s]
      by_cases q : r = (s + f) % m
      · rw [if_pos q, if_pos q.symm, ← q, hB r hr, lN_add]
      · rw [if_neg q, if_neg (fun e => q e.symm)]; exact hB r hr)
    refine ⟨T, ?_, (t23 ..).trans e2, e3⟩
    rw [F_m_tellSums_70, (show (10 : Int32) = nI 10 from rfl), if_neg (nI_ge (by omega) (by decide)), ck_t (nzI_nI hm (by omega)), nI_add, rem_nI (by omega) hm (by omega), ck_t (ib_nI (by omega) (by decide)), ck_t (ib_nI (by omega) (by decide)), ck_t (ib_nI (by omega) (by decide)), nI_clamp (by omega), nI_clamp (by omega), hA s hs, show nI f + (1 : Int32) = nI (f + 1) from nI_add f 1]
    exact e1
theorem ts61 (k30 : Int32 → Int32 → Int32 → Sto → Option (Unit × Sto)) (x1 x3 : Int32) (hm : 0 < m) (hm2 : m ≤ 50) : ∀ (j n s : Nat) (M : Sto), s + j = m → j < n → (∀ r, r < m → al M 1022 r = lN (L r)) → (∀ r, r < m → al M 1023 r = lN (dsP m L s 0 r)) → ∃ T, F_m_tellSums_61 k30 n x1 (nI m) x3 (nI s) M = F_m_tellSums_114 k30 FU x1 (nI m) x3 0 T ∧ Fr [] [] [] [1023] [] M T ∧ (∀ r, r < m → al T 1023 r = lN (DS m L r)) := by
  intro j
  induction j with
  | zero =>
    intro n s M hs hn hA hB
    obtain ⟨n, rfl⟩ : ∃ q, n = q + 1 := ⟨n - 1, by omega⟩
    have : s = m := by omega
    subst this
    refine ⟨M, ?_, Fr.rfl, hB⟩
    rw [F_m_tellSums_61, if_pos (nI_le (Nat.le_refl _) (by omega))]
  | succ j ih =>
    intro n s M hs hn hA hB
    obtain ⟨n, rfl⟩ : ∃ q, n = q + 1 := ⟨n - 1, by omega⟩
    obtain ⟨T, e1, e2, e3⟩ := ts70 k30 (F_m_tellSums_61 k30 n) x1 x3 hm hm2 (show s < m by omega) 10 FU 0 M rfl (by rw [FU_v]; decide) hA hB
    obtain ⟨U, u1, u2, u3⟩ := ih n (s + 1) T (by omega) (by omega) (fun r hr => by rw [e2.al 1022 (by decide)]; exact hA r hr) e3
    refine ⟨U, ?_, e2.trans u2, u3⟩
    rw [F_m_tellSums_61, if_neg (nI_ge (by omega) (by omega))]
    exact e1.trans u1
theorem ts114 (k30 : Int32 → Int32 → Int32 → Sto → Option (Unit × Sto)) (x1 : Int32) (y : Nat) (hm2 : m ≤ 50) : ∀ (j n k : Nat) (M : Sto), k + j = m → j < n → (∀ r, r < m → al M 1023 r = lN (L r)) → (∀ r, r < k → al M 1022 r = lN (L r)) → ∃ T, F_m_tellSums_114 k30 n x1 (nI m) (nI y) (nI k) M = k30 x1 (nI m) (nI (y + 1)) T ∧ tfr M T ∧ (∀ r, r < m → al T 1022 r = lN (L r)) := by
  intro j
  induction j with
  | zero =>
    intro n k M hk hn hA h0
    obtain ⟨n, rfl⟩ : ∃ q, n = q + 1 := ⟨n - 1, by omega⟩
    have : k = m := by omega
    subst this
    exact ⟨M, by rw [F_m_tellSums_114, if_pos (nI_le (Nat.le_refl _) (by omega)), show nI y + (1 : Int32) = nI (y + 1) from nI_add y 1], Fr.rfl, h0⟩
  | succ j ih =>
    intro n k M hk hn hA h0
    obtain ⟨n, rfl⟩ : ∃ q, n = q + 1 := ⟨n - 1, by omega⟩
    have t1 : Fr [] [] [] [1022] [] M (ul M 1022 (vp_updL (al M 1022) k (lN (L k)))) := Fr.rfl.ul (by decide)
    obtain ⟨T, e1, e2, e3⟩ := ih n (k + 1) (ul M 1022 (vp_updL (al M 1022) k (lN (L k)))) (by omega) (by omega) (fun r hr => by rw [t1.al 1023 (by decide)]; exact hA r hr) (fun i hi => by
      rw [ulB]
      by_cases q : i = k
      · rw [if_pos q, q]
      · rw [if_neg q]; exact h0 i (by omega))
    refine ⟨T, ?_, (t22 ..).trans e2, e3⟩
    rw [F_m_tellSums_114, if_neg (nI_ge (by omega) (by omega)), ck_t (ib_nI (by omega) (by decide)), ck_t (ib_nI (by omega) (by decide)), nI_clamp (by omega), hA k (by omega), show nI k + (1 : Int32) = nI (k + 1) from nI_add k 1]
    exact e1
theorem ts30 {K : Nat} (hK : K ≤ 100) (hm : 0 < m) (hm2 : m ≤ 50) : ∀ (j n k : Nat) (M : Sto), k + j = K → j < n → (∀ r, r < m → al M 1022 r = lN (tS m k r)) → ∃ T, F_m_tellSums_30 n (nI K) (nI m) (nI k) M = some ((), T) ∧ tfr M T ∧ (∀ r, r < m → al T 1022 r = lN (tS m K r)) := by
  intro j
  induction j with
  | zero =>
    intro n k M hk hn h0
    obtain ⟨n, rfl⟩ : ∃ q, n = q + 1 := ⟨n - 1, by omega⟩
    have : k = K := by omega
    subst this
    exact ⟨M, by rw [F_m_tellSums_30, if_pos (nI_le (Nat.le_refl _) (by omega))], Fr.rfl, h0⟩
  | succ j ih =>
    intro n k M hk hn h0
    obtain ⟨n, rfl⟩ : ∃ q, n = q + 1 := ⟨n - 1, by omega⟩
    obtain ⟨T, t1, t2, t3⟩ := ts38 (F_m_tellSums_30 n) (nI K) (nI k) hm2 m FU 0 M (Nat.zero_add m) (by rw [FU_v]; omega) (fun r hr => absurd hr (Nat.not_lt_zero r))
    obtain ⟨U, u1, u2, u3⟩ := ts61 (L := tS m k) (F_m_tellSums_30 n) (nI K) (nI k) hm hm2 m FU 0 T (Nat.zero_add m) (by rw [FU_v]; omega) (fun r hr => by rw [t2.al 1022 (by decide)]; exact h0 r hr) t3
    obtain ⟨V, v1, v2, v3⟩ := ts114 (L := DS m (tS m k)) (F_m_tellSums_30 n) (nI K) k hm2 m FU 0 U (Nat.zero_add m) (by rw [FU_v]; omega) u3 (fun r hr => absurd hr (Nat.not_lt_zero r))
    obtain ⟨W, w1, w2, w3⟩ := ih n (k + 1) V (by omega) (by omega) v3
    refine ⟨W, ?_, (t23' (t2.trans u2)).trans (v2.trans w2), w3⟩
    rw [F_m_tellSums_30, if_neg (nI_ge (by omega) (by omega))]
    exact t1.trans (u1.trans (v1.trans w1))
theorem ts_ok {K : Nat} (hK : K ≤ 100) (hm : 0 < m) (hm2 : m ≤ 50) (M : Sto) : ∃ T, F_m_tellSums (nI K) (nI m) M = some ((), T) ∧ tfr M T ∧ (∀ r, r < m → al T 1022 r = lN (tS m K r)) := by
  obtain ⟨T, t1, t2, t3⟩ := ts2 (nI K) hm2 m FU 0 M (Nat.zero_add m) (by rw [FU_v]; omega) (fun r hr => absurd hr (Nat.not_lt_zero r))
  obtain ⟨U, u1, u2, u3⟩ := ts30 hK hm hm2 K FU 0 T (Nat.zero_add K) (by rw [FU_v]; omega) t3
  exact ⟨U, t1.trans u1, t2.trans u2, u3⟩
theorem sIdx {t own x : Nat} (hm : 0 < m) (hm2 : m ≤ 50) (ht : t < m) (ho : own ≤ 1000) (hx : x < 10) : ((((nI t - nI own) - nI x) - ((nI t - nI own) - nI x) / nI m * nI m) + nI m) - ((((nI t - nI own) - nI x) - ((nI t - nI own) - nI x) / nI m * nI m) + nI m) / nI m * nI m = nI ((t + m - (own + x) % m) % m) := by
  have hy : (own + x) % m < m := Nat.mod_lt _ hm
  have b1 : -(m : Int) < (((t : Int) - own - x).tmod m) ∧ (((t : Int) - own - x).tmod m) < m := by
    refine ⟨?_, Int.tmod_lt_of_pos _ (by omega)⟩
    have := Int.tmod_lt_of_pos (-((t : Int) - own - x)) (show (0 : Int) < m by omega)
    rw [Int.neg_tmod] at this
    omega
  have b2 : (((t : Int) - own - x).tmod m) = ((t : Int) - own - x) - m * (((t : Int) - own - x).tdiv m) := Int.tmod_def _ _
  rw [nI_z, nI_z, nI_z, nI_z, nI_z, sub_zI, sub_zI, rem_zI (by omega) (by omega) (by omega) (by omega), add_zI, rem_zI (by omega) (by omega) (by omega) (by omega)]
  refine congrArg zI ?_
  rw [Int.tmod_eq_emod_of_nonneg (by omega), b2]
  generalize ((t : Int) - own - x).tdiv m = Q
  rw [Int.natCast_emod]
  have e1 : (t : Int) - own - x - m * Q + m = ((t : Int) - own - x) + m * (1 - Q) := by rw [Int.mul_sub, Int.mul_one]; omega
  have e2 : ((t + m - (own + x) % m : Nat) : Int) = ((t : Int) - own - x) + m * (1 + ((own + x) / m : Nat)) := by
    have h3 : (m : Int) * (((own + x) / m : Nat)) + ((own + x) % m : Nat) = (own + x : Nat) := by exact_mod_cast Nat.div_add_mod (own + x) m
    rw [Int.mul_add, Int.mul_one]
    omega
  rw [e1, e2, Int.add_mul_emod_self_left, Int.add_mul_emod_self_left]
theorem s79 {t own d e : Nat} (hm : 0 < m) (hm2 : m ≤ 50) (ht : t < m) (ho : own ≤ 1000) (hd : d < 10) (he : e < 17) (k64 : Int32 → Int32 → Int64 → Int32 → Int32 → Sto → Option (Int64 × Sto)) {M : Sto} (h1 : ai M 1024 e = nI d) (h2 : ∀ r, r < m → al M 1022 r = lN (tS m e r)) {acc : Nat} : ∀ (j n x : Nat), x + j = d → j < n → F_m_sums_79 k64 n (nI m) (nI t) (lN (acc + fb_sm (fun x => tS m e ((t + m - (own + x) % m) % m)) x)) (nI own) (nI e) (nI x) M = k64 (nI m) (nI t) (lN (acc + fb_sm (fun x => tS m e ((t + m - (own + x) % m) % m)) d)) (nI (own + d)) (nI e + -1) M := by
  intro j
  induction j with
  | zero =>
    intro n x hx hn
    obtain ⟨n, rfl⟩ : ∃ q, n = q + 1 := ⟨n - 1, by omega⟩
    have : x = d := by omega
    subst this
    rw [F_m_sums_79, ck_t (ib_nI (by omega) (by decide)), nI_clamp (by omega), h1, if_pos (nI_le (Nat.le_refl _) (by omega)), ck_t (ib_nI (by omega) (by decide)), nI_add]
  | succ j ih =>
    intro n x hx hn
    obtain ⟨n, rfl⟩ : ∃ q, n = q + 1 := ⟨n - 1, by omega⟩
    have hq : (t + m - (own + x) % m) % m < m := Nat.mod_lt _ hm
    have e1 := ih n (x + 1) (by omega) (by omega)
    rw [fb_sm_succ, ← Nat.add_assoc, ← lN_add] at e1
    rw [F_m_sums_79, ck_t (ib_nI (by omega) (by decide)), nI_clamp (by omega), h1, if_neg (nI_ge (by omega) (by omega)), ck_t (nzI_nI hm (by omega)), ck_t (nzI_nI hm (by omega)), sIdx hm hm2 ht ho (by omega), ck_t (ib_nI (by omega) (by decide)), nI_clamp (by omega), h2 _ hq, nm_q rfl, show nI x + (1 : Int32) = nI (x + 1) from nI_add x 1]
    exact e1
theorem s64 {N t D : Nat} (hm : 0 < m) (hm2 : m ≤ 50) (ht : t < m) (hD : D ≤ 16) : ∀ (e n own acc : Nat) (M : Sto), e ≤ D → e < n → own + 10 * e ≤ 200 → (∀ i, i < D → ai M 1024 i = nI (dg N i)) → ∃ T, F_m_sums_64 n (nI m) (nI t) (lN acc) (nI own) (nI e + -1) M = some (VV m t (acc + FS N m t own e) (OW N own e), T) ∧ tfr M T := by
  intro e
  induction e with
  | zero =>
    intro n own acc M he hn ho hA
    obtain ⟨n, rfl⟩ : ∃ q, n = q + 1 := ⟨n - 1, by omega⟩
    have hq : own % m < m := Nat.mod_lt _ hm
    refine ⟨M, ?_, Fr.rfl⟩
    rw [F_m_sums_64, if_pos (by decide), ck_t (nzI_nI hm (by omega)), rem_nI (by omega) hm (by omega)]
    unfold F_m_sums_155 VV
    show _ = some ((if own % m = t then (if nI t = 0 then (lN acc + 1) - 1 else lN acc + 1) else (if nI t = 0 then (lN acc + 0) - 1 else lN acc + 0)), M)
    by_cases q : own % m = t
    · rw [if_pos (by rw [q]), if_pos q]
      by_cases w : nI t = 0
      · rw [if_pos w, if_pos w]
      · rw [if_neg w, if_neg w]
    · rw [if_neg (by rw [eq_nI (by omega) (by omega)]; exact q), if_neg q]
      by_cases w : nI t = 0
      · rw [if_pos w, if_pos w]
      · rw [if_neg w, if_neg w]
  | succ e ih =>
    intro n own acc M he hn ho hA
    obtain ⟨n, rfl⟩ : ∃ q, n = q + 1 := ⟨n - 1, by omega⟩
    have hdg := dg_lt N e
    obtain ⟨T, t1, t2, t3⟩ := ts_ok (K := e) (by omega) hm hm2 M
    have hA' : ∀ i, i < D → ai T 1024 i = nI (dg N i) := fun i hi => by rw [t2.ai 1024 (by decide)]; exact hA i hi
    have v1 := s79 (own := own) (e := e) (acc := acc) hm hm2 ht (by omega) hdg (by omega) (F_m_sums_64 n) (hA' e (by omega)) t3 (dg N e) FU 0 (Nat.zero_add _) (by rw [FU_v]; omega)
    obtain ⟨U, u1, u2⟩ := ih n (own + dg N e) (acc + fb_sm (fun x => tS m e ((t + m - (own + x) % m) % m)) (dg N e)) T (by omega) (by omega) (by omega) hA'
    have ee : nI (e + 1) + (-1 : Int32) = nI e := by rw [← nI_add, show (-1 : Int32) = zI (-1) from rfl, show nI 1 = zI 1 from rfl, nI_z, add_zI, add_zI]; exact congrArg zI (by omega)
    refine ⟨U, ?_, t2.trans u2⟩
    rw [F_m_sums_64, ee, if_neg (nI_pos (by omega)), t1, b2_s]
    refine (v1.trans u1).trans ?_
    rw [Nat.add_assoc]
    rfl
end
theorem sums_ok {S M O : Sto} (h : Rl S M) (x : Int64) (y z : Int32) : ∃ k S' O' b M', F_l_sums x y z S O = some (k, S', O') ∧ F_m_sums x y z M = some (b, M') ∧ gi M' 1001 = k ∧ (k = 0 → al O' 2000 (Int32.toNatClampNeg 0) = b) ∧ Rl S' M' := by
  obtain ⟨t, f, Z, c, i, h1, h2, h3, hC, hM⟩ := h
  have no : F_w_sums x y z S = some (.inr 0, S) → F_m_sums x y z M = F_m_sums_38 (si M 1001 0) → ∃ k S' O' b M', F_l_sums x y z S O = some (k, S', O') ∧ F_m_sums x y z M = some (b, M') ∧ gi M' 1001 = k ∧ (k = 0 → al O' 2000 (Int32.toNatClampNeg 0) = b) ∧ Rl S' M' := by
    intro e1 e2
    refine ⟨1, S, O, 0, si (si M 1001 0) 1001 1, ?_, ?_, rfl, fun e => absurd e (by decide), t, f, Z, c, i, h1, h2, h3, hC, (hM.cd 0).cd 1⟩
    · unfold F_l_sums
      rw [e1, b2_s, su_r]
      rfl
    · rw [e2]
      rfl
  by_cases hx : isLi x
  · obtain ⟨N, _, n2, rfl⟩ := hx
    by_cases hy : ∃ k, 1 ≤ k ∧ k ≤ 50 ∧ y = nI k
    · obtain ⟨m, m1, m2, rfl⟩ := hy
      by_cases hz : ∃ i, i < m ∧ z = nI i
      · obtain ⟨r, r1, rfl⟩ := hz
        obtain ⟨a, b, hg⟩ : ∃ a b, LiR a b S := by
          rcases hC.gr with q | q
          · exact ⟨54, 55, q.1, q.2, by decide, by decide, by decide⟩
          · exact ⟨55, 54, q.1, q.2, by decide, by decide, by decide⟩
        obtain ⟨S', s1, s2, a', b', s3⟩ := up_ok n2 m1 m2 r1 hg
        obtain ⟨D, M1, d1, d2, d3, d4, d5, d6, _⟩ := tf_ok n2 (si M 1001 0)
        obtain ⟨M2, e1, e2⟩ := s64 (N := N) (t := r) m1 m2 r1 d5 D FU 0 0 M1 (Nat.le_refl _) (by rw [FU_v]; omega) (by omega) d4
        have hL := FS_lead (m := m) (t := r) (own := 0) d6 (16 - D)
        rw [show D + (16 - D) = 16 by omega] at hL
        have g1 : gi M2 1001 = 0 := by rw [e2.gi 1001 (by decide), d2.gi 1001 (by decide)]; rfl
        have hR : RM t f Z c i M2 := RM_fq (RM_fq (hM.cd 0) d2 (by decide) (by decide) (by decide) (by decide)) e2 (by decide) (by decide) (by decide) (by decide)
        have hs : RC t f Z c i S' := by
          refine RC_q hC (s2.mono (by decide) (by decide) (by decide) (by decide) (by decide)) ?_
          obtain ⟨q1, q2, q3, q4, q5⟩ := s3
          rcases isL_at q3 with w | w <;> rcases isL_at q4 with v | v <;> subst w <;> subst v
          · exact absurd rfl q5
          · exact Or.inl ⟨q1, q2⟩
          · exact Or.inr ⟨q1, q2⟩
          · exact absurd rfl q5
        refine ⟨0, S', oW O (VV m r (FS N m r 0 16) (OW N 0 16)), _, M2, ?_, ?_, g1, fun _ => rfl, t, f, Z, c, i, h1, h2, h3, hs, hR⟩
        · unfold F_l_sums F_w_sums
          rw [wlic_y n2, b1_s, if_neg I1_0, (show (1 : Int32) = nI 1 from rfl), if_neg (by rw [lt_nI (by omega) (by decide)]; omega), show (50 : Int32) = nI 50 from rfl, if_neg (by rw [lt_nI (by decide) (by omega)]; omega), if_neg (nI_pos (by omega)), if_pos (nI_lt r1 (by omega)), s1, b2_s, b2_s, su_l]
        · unfold F_m_sums
          rw [mlic_y n2, b1_s, if_neg I1_0, i2l_nI (by omega), (show (1 : Int64) = lN 1 from rfl), (show (50 : Int64) = lN 50 from rfl), isIn_y m1 m2 (by decide), b1_s, if_neg I1_0, isNet_y r1 (by omega), b1_s, if_neg I1_0, d1, b2_s, d3]
          rw [show nI D - (1 : Int32) = nI D + -1 from Int32.sub_eq_add_neg _ _]
          rw [hL.1, hL.2]
          rw [Nat.zero_add] at e1
          exact e1
      · refine no ?_ ?_
        · unfold F_w_sums
          rw [wlic_y n2, b1_s, if_neg I1_0, (show (1 : Int32) = nI 1 from rfl), if_neg (by rw [lt_nI (by omega) (by decide)]; omega), show (50 : Int32) = nI 50 from rfl, if_neg (by rw [lt_nI (by decide) (by omega)]; omega)]
          by_cases q : z < 0
          · rw [if_pos q]; rfl
          · obtain ⟨e, he, rfl⟩ := nI_of q
            rw [if_neg q, if_neg (by rw [lt_nI he (by omega)]; exact fun r => hz ⟨e, r, rfl⟩)]
            rfl
        · unfold F_m_sums
          rw [mlic_y n2, b1_s, if_neg I1_0, i2l_nI (by omega), (show (1 : Int64) = lN 1 from rfl), (show (50 : Int64) = lN 50 from rfl), isIn_y m1 m2 (by decide), b1_s, if_neg I1_0, isNet_n (by omega) hz, b1_s, if_pos rfl]
    · refine no ?_ ?_
      · unfold F_w_sums
        rw [wlic_y n2, b1_s, if_neg I1_0]
        rcases I_cases y with q | ⟨k, hk, rfl⟩
        · rw [if_pos (by rw [(show (1 : Int32) = nI 1 from rfl), neg_lt q (by decide)]; trivial)]; rfl
        · by_cases w : k < 1
          · rw [if_pos (by rw [(show (1 : Int32) = nI 1 from rfl), lt_nI hk (by decide)]; exact w)]; rfl
          · have w2 : 50 < k := Nat.not_le.mp (fun v => hy ⟨k, by omega, v, rfl⟩)
            rw [if_neg (by rw [(show (1 : Int32) = nI 1 from rfl), lt_nI hk (by decide)]; exact w), if_pos (by rw [show (50 : Int32) = nI 50 from rfl, lt_nI (by decide) hk]; exact w2)]
            rfl
      · unfold F_m_sums
        rw [mlic_y n2, b1_s, if_neg I1_0]
        have : F_m_isIn y.toInt64 1 50 = some 0 := by
          rw [(show (1 : Int64) = lN 1 from rfl), (show (50 : Int64) = lN 50 from rfl)]
          refine isIn_n (by decide) (by decide) (fun ⟨k, k1, k2, k3⟩ => hy ⟨k, k1, k2, ?_⟩)
          have := congrArg Int64.toInt32 k3
          rw [l2i_lN] at this
          rw [← this]
          exact (Int32.toInt32_toInt64 y).symm
        rw [this, b1_s, if_pos rfl]
  · refine no ?_ ?_
    · unfold F_w_sums
      rw [wlic_n hx, b1_s, if_pos rfl]
      rfl
    · unfold F_m_sums
      rw [mlic_n hx, b1_s, if_pos rfl]
