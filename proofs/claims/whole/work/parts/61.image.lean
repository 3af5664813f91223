/-! ===== images ===== -/
theorem cp2_35_27 : ∀ (j n k : Nat) (S : Sto), k + j = 40 → j < n → (∀ i, i < k → ai S 36 i = ai S 28 i ∧ al S 37 i = al S 29 i ∧ al S 38 i = al S 30 i) →
    ∃ S', F_Sc_copy_35_27_2 n (nI k) S = F_Sc_copy_35_27_52 FU 0 S' ∧ Fr [] [] [36] [37, 38] [] S S' ∧ ∀ i, i < 40 → ai S' 36 i = ai S 28 i ∧ al S' 37 i = al S 29 i ∧ al S' 38 i = al S 30 i := by
  intro j
  induction j with
  | zero =>
    intro n k S hk hn h
    obtain ⟨n, rfl⟩ : ∃ q, n = q + 1 := ⟨n - 1, by omega⟩
    refine ⟨S, ?_, Fr.rfl, fun i hi => h i (by omega)⟩
    rw [F_Sc_copy_35_27_2, (show (40 : Int32) = nI 40 from rfl), if_pos (nI_le (by omega) (by omega))]
  | succ j ih =>
    intro n k S hk hn h
    obtain ⟨n, rfl⟩ : ∃ q, n = q + 1 := ⟨n - 1, by omega⟩
    obtain ⟨S', s1, s2, s3⟩ := ih n (k + 1) (ul (ul (ui S 36 (upd (ai S 36) k (ai S 28 k))) 37 (vp_updL (al S 37) k (al S 29 k))) 38 (vp_updL (al S 38) k (al S 30 k))) (by omega) (by omega) (fun i hi => by
      show upd (ai S 36) k (ai S 28 k) i = ai S 28 i ∧ vp_updL (al S 37) k (al S 29 k) i = al S 29 i ∧ vp_updL (al S 38) k (al S 30 k) i = al S 30 i
      rw [upd_at, updL_at, updL_at]
      by_cases q : i = k
      · rw [if_pos q, if_pos q, if_pos q, q]; exact ⟨rfl, rfl, rfl⟩
      · rw [if_neg q, if_neg q, if_neg q]; exact h i (by omega))
    refine ⟨S', ?_, Fr.trans (((Fr.rfl.ui (by decide)).ul (by decide)).ul (by decide)) s2, s3⟩
    rw [← s1, F_Sc_copy_35_27_2, (show (40 : Int32) = nI 40 from rfl), if_neg (nI_ge (by omega) (by omega)), ck_t (ib_nI (by omega) (by decide)), ck_t (ib_nI (by omega) (by decide)), ck_t (ib_nI (by omega) (by decide)), ck_t (ib_nI (by omega) (by decide)), ck_t (ib_nI (by omega) (by decide)), ck_t (ib_nI (by omega) (by decide)), nI_clamp (by omega), (show (1 : Int32) = nI 1 from rfl), nI_add]
    rfl
theorem cp52_35_27 : ∀ (j n k : Nat) (S : Sto), k + j = 12 → j < n → (∀ i, i < k → al S 39 i = al S 31 i ∧ ai S 40 i = vp_nar .boolean (ai S 32 i) ∧ al S 41 i = al S 33 i) →
    ∃ S', F_Sc_copy_35_27_52 n (nI k) S = F_Sc_copy_35_27_102 FU 0 S' ∧ Fr [] [] [40] [39, 41] [] S S' ∧ ∀ i, i < 12 → al S' 39 i = al S 31 i ∧ ai S' 40 i = vp_nar .boolean (ai S 32 i) ∧ al S' 41 i = al S 33 i := by
  intro j
  induction j with
  | zero =>
    intro n k S hk hn h
    obtain ⟨n, rfl⟩ : ∃ q, n = q + 1 := ⟨n - 1, by omega⟩
    refine ⟨S, ?_, Fr.rfl, fun i hi => h i (by omega)⟩
    rw [F_Sc_copy_35_27_52, (show (12 : Int32) = nI 12 from rfl), if_pos (nI_le (by omega) (by omega))]
  | succ j ih =>
    intro n k S hk hn h
    obtain ⟨n, rfl⟩ : ∃ q, n = q + 1 := ⟨n - 1, by omega⟩
    obtain ⟨S', s1, s2, s3⟩ := ih n (k + 1) (ul (ui (ul S 39 (vp_updL (al S 39) k (al S 31 k))) 40 (upd (ai S 40) k (vp_nar .boolean (ai S 32 k)))) 41 (vp_updL (al S 41) k (al S 33 k))) (by omega) (by omega) (fun i hi => by
      show vp_updL (al S 39) k (al S 31 k) i = al S 31 i ∧ upd (ai S 40) k (vp_nar .boolean (ai S 32 k)) i = vp_nar .boolean (ai S 32 i) ∧ vp_updL (al S 41) k (al S 33 k) i = al S 33 i
      rw [upd_at, updL_at, updL_at]
      by_cases q : i = k
      · rw [if_pos q, if_pos q, if_pos q, q]; exact ⟨rfl, rfl, rfl⟩
      · rw [if_neg q, if_neg q, if_neg q]; exact h i (by omega))
    refine ⟨S', ?_, Fr.trans (((Fr.rfl.ul (by decide)).ui (by decide)).ul (by decide)) s2, s3⟩
    rw [← s1, F_Sc_copy_35_27_52, (show (12 : Int32) = nI 12 from rfl), if_neg (nI_ge (by omega) (by omega)), ck_t (ib_nI (by omega) (by decide)), ck_t (ib_nI (by omega) (by decide)), ck_t (ib_nI (by omega) (by decide)), ck_t (ib_nI (by omega) (by decide)), ck_t (ib_nI (by omega) (by decide)), ck_t (ib_nI (by omega) (by decide)), nI_clamp (by omega), (show (1 : Int32) = nI 1 from rfl), nI_add]
    rfl
def scl_35_27 (S : Sto) : Sto := si (si (si (si (sl (si (sl (sl S 34 (gl S 26)) 35 (gl S 27)) 36 (gi S 28)) 37 (gl S 29)) 38 (gi S 30)) 39 (gi S 31)) 40 (gi S 32)) 41 (gi S 33)
theorem cp102_35_27 : ∀ (j n k : Nat) (S : Sto), k + j = 3 → j < n → (∀ i, i < k → ai S 42 i = ai S 34 i) →
    ∃ S', F_Sc_copy_35_27_102 n (nI k) S = some ((), scl_35_27 S') ∧ Fr [] [] [42] [] [] S S' ∧ ∀ i, i < 3 → ai S' 42 i = ai S 34 i := by
  intro j
  induction j with
  | zero =>
    intro n k S hk hn h
    obtain ⟨n, rfl⟩ : ∃ q, n = q + 1 := ⟨n - 1, by omega⟩
    refine ⟨S, ?_, Fr.rfl, fun i hi => h i (by omega)⟩
    rw [F_Sc_copy_35_27_102, (show (3 : Int32) = nI 3 from rfl), if_pos (nI_le (by omega) (by omega))]
    rfl
  | succ j ih =>
    intro n k S hk hn h
    obtain ⟨n, rfl⟩ : ∃ q, n = q + 1 := ⟨n - 1, by omega⟩
    obtain ⟨S', s1, s2, s3⟩ := ih n (k + 1) (ui S 42 (upd (ai S 42) k (ai S 34 k))) (by omega) (by omega) (fun i hi => by
      show upd (ai S 42) k (ai S 34 k) i = ai S 34 i
      rw [upd_at]
      by_cases q : i = k
      · rw [if_pos q, q]
      · rw [if_neg q]; exact h i (by omega))
    refine ⟨S', ?_, Fr.trans (Fr.rfl.ui (by decide)) s2, s3⟩
    rw [← s1, F_Sc_copy_35_27_102, (show (3 : Int32) = nI 3 from rfl), if_neg (nI_ge (by omega) (by omega)), ck_t (ib_nI (by omega) (by decide)), ck_t (ib_nI (by omega) (by decide)), nI_clamp (by omega), (show (1 : Int32) = nI 1 from rfl), nI_add]
theorem cp_35_27 {c : Scn} {S : Sto} (h : ScC 0 c S) (hA : sA c ≤ 40) (hW : sW c ≤ 12) (hE : sE c ≤ 12) : ∃ S', F_Sc_copy_35_27 S = some ((), S') ∧ Fr [36, 38, 39, 40, 41] [34, 35, 37] [36, 40, 42] [37, 38, 39, 41] [] S S' ∧ ScC 1 c S' := by
  obtain ⟨S1, a1, a2, a3⟩ := cp2_35_27 40 FU 0 S rfl (by rw [FU_v]; decide) (fun i hi => absurd hi (Nat.not_lt_zero i))
  obtain ⟨S2, b1, b2, b3⟩ := cp52_35_27 12 FU 0 S1 rfl (by rw [FU_v]; decide) (fun i hi => absurd hi (Nat.not_lt_zero i))
  obtain ⟨S3, d1, d2, d3⟩ := cp102_35_27 3 FU 0 S2 rfl (by rw [FU_v]; decide) (fun i hi => absurd hi (Nat.not_lt_zero i))
  obtain ⟨c1, c2, c3, c4, c5, c6, c7, c8, c9, c10, c11, c12⟩ := h
  have q12 : Fr [] [] [36, 40] [37, 38, 39, 41] [] S S2 := Fr.trans (a2.mono (by decide) (by decide) (by decide) (by decide) (by decide)) (b2.mono (by decide) (by decide) (by decide) (by decide) (by decide))
  have q : Fr [] [] [36, 40, 42] [37, 38, 39, 41] [] S S3 := Fr.trans (q12.mono (by decide) (by decide) (by decide) (by decide) (by decide)) (d2.mono (by decide) (by decide) (by decide) (by decide) (by decide))
  refine ⟨scl_35_27 S3, ?_, ?_, ?_, ?_, ?_, ?_, ?_, ?_, fun i hi => ?_, ?_, fun i hi => ?_, ?_, fun i hi => ?_, fun i hi => ?_⟩
  · unfold F_Sc_copy_35_27
    rw [(show (0 : Int32) = nI 0 from rfl), a1, (show (0 : Int32) = nI 0 from rfl), b1, (show (0 : Int32) = nI 0 from rfl)]
    exact d1
  · exact Fr.si (Fr.si (Fr.si (Fr.si (Fr.sl (Fr.si (Fr.sl (Fr.sl (q.mono (by decide) (by decide) (by decide) (by decide) (by decide)) (by decide)) (by decide)) (by decide)) (by decide)) (by decide)) (by decide)) (by decide)) (by decide)
  · show gl S3 26 = _; rw [q.gl _ (by decide)]; exact c1
  · show gl S3 27 = _; rw [q.gl _ (by decide)]; exact c2
  · show gi S3 28 = _; rw [q.gi _ (by decide)]; exact c3
  · show gl S3 29 = _; rw [q.gl _ (by decide)]; exact c4
  · show gi S3 30 = _; rw [q.gi _ (by decide)]; exact c5
  · show gi S3 31 = _; rw [q.gi _ (by decide)]; exact c6
  · show Dif (ai S3 36 i) (al S3 37 i) (al S3 38 i) (sAc c i) (nxt c i)
    obtain ⟨u1, u2, u3⟩ := a3 i (by omega)
    rw [d2.ai _ (by decide), d2.al _ (by decide), d2.al _ (by decide), b2.ai _ (by decide), b2.al _ (by decide), b2.al _ (by decide), u1, u2, u3]
    exact c7 i hi
  · show gi S3 32 = _; rw [q.gi _ (by decide)]; exact c8
  · show al S3 39 i = _ ∧ ai S3 40 i = _
    obtain ⟨u1, u2, u3⟩ := b3 i (by omega)
    have c9' : al S 31 i = lN (sWn c i) ∧ ai S 32 i = bI (sWb c i) := c9 i hi
    rw [d2.ai _ (by decide), d2.al _ (by decide), u1, u2, a2.ai _ (by decide), a2.al _ (by decide), c9'.1, c9'.2, vpn_b]
    exact ⟨rfl, rfl⟩
  · show gi S3 33 = _; rw [q.gi _ (by decide)]; exact c10
  · show al S3 41 i = _
    obtain ⟨u1, u2, u3⟩ := b3 i (by omega)
    rw [d2.al _ (by decide), u3, a2.al _ (by decide)]
    exact c11 i hi
  · show ai S3 42 i = _
    rw [d3 i hi, q12.ai _ (by decide)]
    exact c12 i hi
theorem cp2_27_35 : ∀ (j n k : Nat) (S : Sto), k + j = 40 → j < n → (∀ i, i < k → ai S 28 i = ai S 36 i ∧ al S 29 i = al S 37 i ∧ al S 30 i = al S 38 i) →
    ∃ S', F_Sc_copy_27_35_2 n (nI k) S = F_Sc_copy_27_35_52 FU 0 S' ∧ Fr [] [] [28] [29, 30] [] S S' ∧ ∀ i, i < 40 → ai S' 28 i = ai S 36 i ∧ al S' 29 i = al S 37 i ∧ al S' 30 i = al S 38 i := by
  intro j
  induction j with
  | zero =>
    intro n k S hk hn h
    obtain ⟨n, rfl⟩ : ∃ q, n = q + 1 := ⟨n - 1, by omega⟩
    refine ⟨S, ?_, Fr.rfl, fun i hi => h i (by omega)⟩
    rw [F_Sc_copy_27_35_2, (show (40 : Int32) = nI 40 from rfl), if_pos (nI_le (by omega) (by omega))]
  | succ j ih =>
    intro n k S hk hn h
    obtain ⟨n, rfl⟩ : ∃ q, n = q + 1 := ⟨n - 1, by omega⟩
    obtain ⟨S', s1, s2, s3⟩ := ih n (k + 1) (ul (ul (ui S 28 (upd (ai S 28) k (ai S 36 k))) 29 (vp_updL (al S 29) k (al S 37 k))) 30 (vp_updL (al S 30) k (al S 38 k))) (by omega) (by omega) (fun i hi => by
      show upd (ai S 28) k (ai S 36 k) i = ai S 36 i ∧ vp_updL (al S 29) k (al S 37 k) i = al S 37 i ∧ vp_updL (al S 30) k (al S 38 k) i = al S 38 i
      rw [upd_at, updL_at, updL_at]
      by_cases q : i = k
      · rw [if_pos q, if_pos q, if_pos q, q]; exact ⟨rfl, rfl, rfl⟩
      · rw [if_neg q, if_neg q, if_neg q]; exact h i (by omega))
    refine ⟨S', ?_, Fr.trans (((Fr.rfl.ui (by decide)).ul (by decide)).ul (by decide)) s2, s3⟩
    rw [← s1, F_Sc_copy_27_35_2, (show (40 : Int32) = nI 40 from rfl), if_neg (nI_ge (by omega) (by omega)), ck_t (ib_nI (by omega) (by decide)), ck_t (ib_nI (by omega) (by decide)), ck_t (ib_nI (by omega) (by decide)), ck_t (ib_nI (by omega) (by decide)), ck_t (ib_nI (by omega) (by decide)), ck_t (ib_nI (by omega) (by decide)), nI_clamp (by omega), (show (1 : Int32) = nI 1 from rfl), nI_add]
    rfl
theorem cp52_27_35 : ∀ (j n k : Nat) (S : Sto), k + j = 12 → j < n → (∀ i, i < k → al S 31 i = al S 39 i ∧ ai S 32 i = vp_nar .boolean (ai S 40 i) ∧ al S 33 i = al S 41 i) →
    ∃ S', F_Sc_copy_27_35_52 n (nI k) S = F_Sc_copy_27_35_102 FU 0 S' ∧ Fr [] [] [32] [31, 33] [] S S' ∧ ∀ i, i < 12 → al S' 31 i = al S 39 i ∧ ai S' 32 i = vp_nar .boolean (ai S 40 i) ∧ al S' 33 i = al S 41 i := by
  intro j
  induction j with
  | zero =>
    intro n k S hk hn h
    obtain ⟨n, rfl⟩ : ∃ q, n = q + 1 := ⟨n - 1, by omega⟩
    refine ⟨S, ?_, Fr.rfl, fun i hi => h i (by omega)⟩
    rw [F_Sc_copy_27_35_52, (show (12 : Int32) = nI 12 from rfl), if_pos (nI_le (by omega) (by omega))]
  | succ j ih =>
    intro n k S hk hn h
    obtain ⟨n, rfl⟩ : ∃ q, n = q + 1 := ⟨n - 1, by omega⟩
    obtain ⟨S', s1, s2, s3⟩ := ih n (k + 1) (ul (ui (ul S 31 (vp_updL (al S 31) k (al S 39 k))) 32 (upd (ai S 32) k (vp_nar .boolean (ai S 40 k)))) 33 (vp_updL (al S 33) k (al S 41 k))) (by omega) (by omega) (fun i hi => by
      show vp_updL (al S 31) k (al S 39 k) i = al S 39 i ∧ upd (ai S 32) k (vp_nar .boolean (ai S 40 k)) i = vp_nar .boolean (ai S 40 i) ∧ vp_updL (al S 33) k (al S 41 k) i = al S 41 i
      rw [upd_at, updL_at, updL_at]
      by_cases q : i = k
      · rw [if_pos q, if_pos q, if_pos q, q]; exact ⟨rfl, rfl, rfl⟩
      · rw [if_neg q, if_neg q, if_neg q]; exact h i (by omega))
    refine ⟨S', ?_, Fr.trans (((Fr.rfl.ul (by decide)).ui (by decide)).ul (by decide)) s2, s3⟩
    rw [← s1, F_Sc_copy_27_35_52, (show (12 : Int32) = nI 12 from rfl), if_neg (nI_ge (by omega) (by omega)), ck_t (ib_nI (by omega) (by decide)), ck_t (ib_nI (by omega) (by decide)), ck_t (ib_nI (by omega) (by decide)), ck_t (ib_nI (by omega) (by decide)), ck_t (ib_nI (by omega) (by decide)), ck_t (ib_nI (by omega) (by decide)), nI_clamp (by omega), (show (1 : Int32) = nI 1 from rfl), nI_add]
    rfl
def scl_27_35 (S : Sto) : Sto := si (si (si (si (sl (si (sl (sl S 26 (gl S 34)) 27 (gl S 35)) 28 (gi S 36)) 29 (gl S 37)) 30 (gi S 38)) 31 (gi S 39)) 32 (gi S 40)) 33 (gi S 41)
theorem cp102_27_35 : ∀ (j n k : Nat) (S : Sto), k + j = 3 → j < n → (∀ i, i < k → ai S 34 i = ai S 42 i) →
    ∃ S', F_Sc_copy_27_35_102 n (nI k) S = some ((), scl_27_35 S') ∧ Fr [] [] [34] [] [] S S' ∧ ∀ i, i < 3 → ai S' 34 i = ai S 42 i := by
  intro j
  induction j with
  | zero =>
    intro n k S hk hn h
    obtain ⟨n, rfl⟩ : ∃ q, n = q + 1 := ⟨n - 1, by omega⟩
    refine ⟨S, ?_, Fr.rfl, fun i hi => h i (by omega)⟩
    rw [F_Sc_copy_27_35_102, (show (3 : Int32) = nI 3 from rfl), if_pos (nI_le (by omega) (by omega))]
    rfl
  | succ j ih =>
    intro n k S hk hn h
    obtain ⟨n, rfl⟩ : ∃ q, n = q + 1 := ⟨n - 1, by omega⟩
    obtain ⟨S', s1, s2, s3⟩ := ih n (k + 1) (ui S 34 (upd (ai S 34) k (ai S 42 k))) (by omega) (by omega) (fun i hi => by
      show upd (ai S 34) k (ai S 42 k) i = ai S 42 i
      rw [upd_at]
      by_cases q : i = k
      · rw [if_pos q, q]
      · rw [if_neg q]; exact h i (by omega))
    refine ⟨S', ?_, Fr.trans (Fr.rfl.ui (by decide)) s2, s3⟩
    rw [← s1, F_Sc_copy_27_35_102, (show (3 : Int32) = nI 3 from rfl), if_neg (nI_ge (by omega) (by omega)), ck_t (ib_nI (by omega) (by decide)), ck_t (ib_nI (by omega) (by decide)), nI_clamp (by omega), (show (1 : Int32) = nI 1 from rfl), nI_add]
theorem cp_27_35 {c : Scn} {S : Sto} (h : ScC 1 c S) (hA : sA c ≤ 40) (hW : sW c ≤ 12) (hE : sE c ≤ 12) : ∃ S', F_Sc_copy_27_35 S = some ((), S') ∧ Fr [28, 30, 31, 32, 33] [26, 27, 29] [28, 32, 34] [29, 30, 31, 33] [] S S' ∧ ScC 0 c S' := by
  obtain ⟨S1, a1, a2, a3⟩ := cp2_27_35 40 FU 0 S rfl (by rw [FU_v]; decide) (fun i hi => absurd hi (Nat.not_lt_zero i))
  obtain ⟨S2, b1, b2, b3⟩ := cp52_27_35 12 FU 0 S1 rfl (by rw [FU_v]; decide) (fun i hi => absurd hi (Nat.not_lt_zero i))
  obtain ⟨S3, d1, d2, d3⟩ := cp102_27_35 3 FU 0 S2 rfl (by rw [FU_v]; decide) (fun i hi => absurd hi (Nat.not_lt_zero i))
  obtain ⟨c1, c2, c3, c4, c5, c6, c7, c8, c9, c10, c11, c12⟩ := h
  have q12 : Fr [] [] [28, 32] [29, 30, 31, 33] [] S S2 := Fr.trans (a2.mono (by decide) (by decide) (by decide) (by decide) (by decide)) (b2.mono (by decide) (by decide) (by decide) (by decide) (by decide))
  have q : Fr [] [] [28, 32, 34] [29, 30, 31, 33] [] S S3 := Fr.trans (q12.mono (by decide) (by decide) (by decide) (by decide) (by decide)) (d2.mono (by decide) (by decide) (by decide) (by decide) (by decide))
  refine ⟨scl_27_35 S3, ?_, ?_, ?_, ?_, ?_, ?_, ?_, ?_, fun i hi => ?_, ?_, fun i hi => ?_, ?_, fun i hi => ?_, fun i hi => ?_⟩
  · unfold F_Sc_copy_27_35
    rw [(show (0 : Int32) = nI 0 from rfl), a1, (show (0 : Int32) = nI 0 from rfl), b1, (show (0 : Int32) = nI 0 from rfl)]
    exact d1
  · exact Fr.si (Fr.si (Fr.si (Fr.si (Fr.sl (Fr.si (Fr.sl (Fr.sl (q.mono (by decide) (by decide) (by decide) (by decide) (by decide)) (by decide)) (by decide)) (by decide)) (by decide)) (by decide)) (by decide)) (by decide)) (by decide)
  · show gl S3 34 = _; rw [q.gl _ (by decide)]; exact c1
  · show gl S3 35 = _; rw [q.gl _ (by decide)]; exact c2
  · show gi S3 36 = _; rw [q.gi _ (by decide)]; exact c3
  · show gl S3 37 = _; rw [q.gl _ (by decide)]; exact c4
  · show gi S3 38 = _; rw [q.gi _ (by decide)]; exact c5
  · show gi S3 39 = _; rw [q.gi _ (by decide)]; exact c6
  · show Dif (ai S3 28 i) (al S3 29 i) (al S3 30 i) (sAc c i) (nxt c i)
    obtain ⟨u1, u2, u3⟩ := a3 i (by omega)
    rw [d2.ai _ (by decide), d2.al _ (by decide), d2.al _ (by decide), b2.ai _ (by decide), b2.al _ (by decide), b2.al _ (by decide), u1, u2, u3]
    exact c7 i hi
  · show gi S3 40 = _; rw [q.gi _ (by decide)]; exact c8
  · show al S3 31 i = _ ∧ ai S3 32 i = _
    obtain ⟨u1, u2, u3⟩ := b3 i (by omega)
    have c9' : al S 39 i = lN (sWn c i) ∧ ai S 40 i = bI (sWb c i) := c9 i hi
    rw [d2.ai _ (by decide), d2.al _ (by decide), u1, u2, a2.ai _ (by decide), a2.al _ (by decide), c9'.1, c9'.2, vpn_b]
    exact ⟨rfl, rfl⟩
  · show gi S3 41 = _; rw [q.gi _ (by decide)]; exact c10
  · show al S3 33 i = _
    obtain ⟨u1, u2, u3⟩ := b3 i (by omega)
    rw [d2.al _ (by decide), u3, a2.al _ (by decide)]
    exact c11 i hi
  · show ai S3 34 i = _
    rw [d3 i hi, q12.ai _ (by decide)]
    exact c12 i hi
theorem bePs_lp : ∀ (j n k : Nat) (M : Sto), k + j = 200 → j < n → (∀ i, i < k → al M 1028 i = al M 1012 i) → ∃ M', F_m_be_1028_1012_2 n (nI k) M = some ((), M') ∧ Fr [] [] [] [1028] [] M M' ∧ ∀ i, i < 200 → al M' 1028 i = al M 1012 i := by
  intro j
  induction j with
  | zero =>
    intro n k M hk hn h
    obtain ⟨n, rfl⟩ : ∃ q, n = q + 1 := ⟨n - 1, by omega⟩
    refine ⟨M, ?_, Fr.rfl, fun i hi => h i (by omega)⟩
    rw [F_m_be_1028_1012_2, if_pos (nI_le (by omega) (by omega))]
  | succ j ih =>
    intro n k M hk hn h
    obtain ⟨n, rfl⟩ : ∃ q, n = q + 1 := ⟨n - 1, by omega⟩
    obtain ⟨M', s1, s2, s3⟩ := ih n (k + 1) (ul M 1028 (vp_updL (al M 1028) k (al M 1012 k))) (by omega) (by omega) (fun i hi => by
      show vp_updL (al M 1028) k (al M 1012 k) i = al M 1012 i
      rw [updL_at]
      by_cases q : i = k
      · rw [if_pos q, q]
      · rw [if_neg q]; exact h i (by omega))
    refine ⟨M', ?_, Fr.trans (Fr.rfl.ul (by decide)) s2, s3⟩
    rw [← s1, F_m_be_1028_1012_2, if_neg (nI_ge (by omega) (by omega)), ck_t (ib_nI (by omega) (by decide)), ck_t (ib_nI (by omega) (by decide)), nI_clamp (by omega), (show (1 : Int32) = nI 1 from rfl), nI_add]
theorem bePs_ok (M : Sto) : ∃ M', F_m_be_1028_1012 M = some ((), M') ∧ Fr [] [] [] [1028] [] M M' ∧ ∀ i, i < 200 → al M' 1028 i = al M 1012 i := by
  unfold F_m_be_1028_1012
  exact bePs_lp 200 FU 0 M rfl (by rw [FU_v]; decide) (fun i hi => absurd hi (Nat.not_lt_zero i))
theorem beWi_lp : ∀ (j n k : Nat) (M : Sto), k + j = 12 → j < n → (∀ i, i < k → al M 1029 i = al M 1016 i) → ∃ M', F_m_be_1029_1016_2 n (nI k) M = some ((), M') ∧ Fr [] [] [] [1029] [] M M' ∧ ∀ i, i < 12 → al M' 1029 i = al M 1016 i := by
  intro j
  induction j with
  | zero =>
    intro n k M hk hn h
    obtain ⟨n, rfl⟩ : ∃ q, n = q + 1 := ⟨n - 1, by omega⟩
    refine ⟨M, ?_, Fr.rfl, fun i hi => h i (by omega)⟩
    rw [F_m_be_1029_1016_2, if_pos (nI_le (by omega) (by omega))]
  | succ j ih =>
    intro n k M hk hn h
    obtain ⟨n, rfl⟩ : ∃ q, n = q + 1 := ⟨n - 1, by omega⟩
    obtain ⟨M', s1, s2, s3⟩ := ih n (k + 1) (ul M 1029 (vp_updL (al M 1029) k (al M 1016 k))) (by omega) (by omega) (fun i hi => by
      show vp_updL (al M 1029) k (al M 1016 k) i = al M 1016 i
      rw [updL_at]
      by_cases q : i = k
      · rw [if_pos q, q]
      · rw [if_neg q]; exact h i (by omega))
    refine ⟨M', ?_, Fr.trans (Fr.rfl.ul (by decide)) s2, s3⟩
    rw [← s1, F_m_be_1029_1016_2, if_neg (nI_ge (by omega) (by omega)), ck_t (ib_nI (by omega) (by decide)), ck_t (ib_nI (by omega) (by decide)), nI_clamp (by omega), (show (1 : Int32) = nI 1 from rfl), nI_add]
theorem beWi_ok (M : Sto) : ∃ M', F_m_be_1029_1016 M = some ((), M') ∧ Fr [] [] [] [1029] [] M M' ∧ ∀ i, i < 12 → al M' 1029 i = al M 1016 i := by
  unfold F_m_be_1029_1016
  exact beWi_lp 12 FU 0 M rfl (by rw [FU_v]; decide) (fun i hi => absurd hi (Nat.not_lt_zero i))
theorem beSe_lp : ∀ (j n k : Nat) (M : Sto), k + j = 12 → j < n → (∀ i, i < k → al M 1030 i = al M 1017 i) → ∃ M', F_m_be_1030_1017_2 n (nI k) M = some ((), M') ∧ Fr [] [] [] [1030] [] M M' ∧ ∀ i, i < 12 → al M' 1030 i = al M 1017 i := by
  intro j
  induction j with
  | zero =>
    intro n k M hk hn h
    obtain ⟨n, rfl⟩ : ∃ q, n = q + 1 := ⟨n - 1, by omega⟩
    refine ⟨M, ?_, Fr.rfl, fun i hi => h i (by omega)⟩
    rw [F_m_be_1030_1017_2, if_pos (nI_le (by omega) (by omega))]
  | succ j ih =>
    intro n k M hk hn h
    obtain ⟨n, rfl⟩ : ∃ q, n = q + 1 := ⟨n - 1, by omega⟩
    obtain ⟨M', s1, s2, s3⟩ := ih n (k + 1) (ul M 1030 (vp_updL (al M 1030) k (al M 1017 k))) (by omega) (by omega) (fun i hi => by
      show vp_updL (al M 1030) k (al M 1017 k) i = al M 1017 i
      rw [updL_at]
      by_cases q : i = k
      · rw [if_pos q, q]
      · rw [if_neg q]; exact h i (by omega))
    refine ⟨M', ?_, Fr.trans (Fr.rfl.ul (by decide)) s2, s3⟩
    rw [← s1, F_m_be_1030_1017_2, if_neg (nI_ge (by omega) (by omega)), ck_t (ib_nI (by omega) (by decide)), ck_t (ib_nI (by omega) (by decide)), nI_clamp (by omega), (show (1 : Int32) = nI 1 from rfl), nI_add]
theorem beSe_ok (M : Sto) : ∃ M', F_m_be_1030_1017 M = some ((), M') ∧ Fr [] [] [] [1030] [] M M' ∧ ∀ i, i < 12 → al M' 1030 i = al M 1017 i := by
  unfold F_m_be_1030_1017
  exact beSe_lp 12 FU 0 M rfl (by rw [FU_v]; decide) (fun i hi => absurd hi (Nat.not_lt_zero i))
theorem beWb_lp : ∀ (j n k : Nat) (M : Sto), k + j = 12 → j < n → (∀ i, i < k → ai M 1031 i = vp_nar .boolean (ai M 1018 i)) → ∃ M', F_m_beAs_1031_1018_2 n (nI k) M = some ((), M') ∧ Fr [] [] [1031] [] [] M M' ∧ ∀ i, i < 12 → ai M' 1031 i = vp_nar .boolean (ai M 1018 i) := by
  intro j
  induction j with
  | zero =>
    intro n k M hk hn h
    obtain ⟨n, rfl⟩ : ∃ q, n = q + 1 := ⟨n - 1, by omega⟩
    refine ⟨M, ?_, Fr.rfl, fun i hi => h i (by omega)⟩
    rw [F_m_beAs_1031_1018_2, if_pos (nI_le (by omega) (by omega))]
  | succ j ih =>
    intro n k M hk hn h
    obtain ⟨n, rfl⟩ : ∃ q, n = q + 1 := ⟨n - 1, by omega⟩
    obtain ⟨M', s1, s2, s3⟩ := ih n (k + 1) (ui M 1031 (upd (ai M 1031) k (vp_nar .boolean (ai M 1018 k)))) (by omega) (by omega) (fun i hi => by
      show upd (ai M 1031) k (vp_nar .boolean (ai M 1018 k)) i = vp_nar .boolean (ai M 1018 i)
      rw [upd_at]
      by_cases q : i = k
      · rw [if_pos q, q]
      · rw [if_neg q]; exact h i (by omega))
    refine ⟨M', ?_, Fr.trans (Fr.rfl.ui (by decide)) s2, s3⟩
    rw [← s1, F_m_beAs_1031_1018_2, if_neg (nI_ge (by omega) (by omega)), ck_t (ib_nI (by omega) (by decide)), ck_t (ib_nI (by omega) (by decide)), nI_clamp (by omega), (show (1 : Int32) = nI 1 from rfl), nI_add]
theorem beWb_ok (M : Sto) : ∃ M', F_m_beAs_1031_1018 M = some ((), M') ∧ Fr [] [] [1031] [] [] M M' ∧ ∀ i, i < 12 → ai M' 1031 i = vp_nar .boolean (ai M 1018 i) := by
  unfold F_m_beAs_1031_1018
  exact beWb_lp 12 FU 0 M rfl (by rw [FU_v]; decide) (fun i hi => absurd hi (Nat.not_lt_zero i))
theorem image_97_lp : ∀ (j n k : Nat) (M : Sto), k + j = 3 → j < n → (∀ i, i < k → ai M 1032 i = ai M 1008 i) → ∃ M', F_m_image_97 n (nI k) M = some ((), M') ∧ Fr [] [] [1032] [] [] M M' ∧ ∀ i, i < 3 → ai M' 1032 i = ai M 1008 i := by
  intro j
  induction j with
  | zero =>
    intro n k M hk hn h
    obtain ⟨n, rfl⟩ : ∃ q, n = q + 1 := ⟨n - 1, by omega⟩
    refine ⟨M, ?_, Fr.rfl, fun i hi => h i (by omega)⟩
    rw [F_m_image_97, (show (3 : Int32) = nI 3 from rfl), if_pos (nI_le (by omega) (by omega))]
  | succ j ih =>
    intro n k M hk hn h
    obtain ⟨n, rfl⟩ : ∃ q, n = q + 1 := ⟨n - 1, by omega⟩
    obtain ⟨M', s1, s2, s3⟩ := ih n (k + 1) (ui M 1032 (upd (ai M 1032) k (ai M 1008 k))) (by omega) (by omega) (fun i hi => by
      show upd (ai M 1032) k (ai M 1008 k) i = ai M 1008 i
      rw [upd_at]
      by_cases q : i = k
      · rw [if_pos q, q]
      · rw [if_neg q]; exact h i (by omega))
    refine ⟨M', ?_, Fr.trans (Fr.rfl.ui (by decide)) s2, s3⟩
    rw [← s1, F_m_image_97, (show (3 : Int32) = nI 3 from rfl), if_neg (nI_ge (by omega) (by omega)), ck_t (ib_nI (by omega) (by decide)), ck_t (ib_nI (by omega) (by decide)), nI_clamp (by omega), (show (1 : Int32) = nI 1 from rfl), nI_add]
theorem rePs_lp : ∀ (j n k : Nat) (M : Sto), k + j = 200 → j < n → (∀ i, i < k → al M 1012 i = al M 1028 i) → ∃ M', F_m_be_1012_1028_2 n (nI k) M = some ((), M') ∧ Fr [] [] [] [1012] [] M M' ∧ ∀ i, i < 200 → al M' 1012 i = al M 1028 i := by
  intro j
  induction j with
  | zero =>
    intro n k M hk hn h
    obtain ⟨n, rfl⟩ : ∃ q, n = q + 1 := ⟨n - 1, by omega⟩
    refine ⟨M, ?_, Fr.rfl, fun i hi => h i (by omega)⟩
    rw [F_m_be_1012_1028_2, if_pos (nI_le (by omega) (by omega))]
  | succ j ih =>
    intro n k M hk hn h
    obtain ⟨n, rfl⟩ : ∃ q, n = q + 1 := ⟨n - 1, by omega⟩
    obtain ⟨M', s1, s2, s3⟩ := ih n (k + 1) (ul M 1012 (vp_updL (al M 1012) k (al M 1028 k))) (by omega) (by omega) (fun i hi => by
      show vp_updL (al M 1012) k (al M 1028 k) i = al M 1028 i
      rw [updL_at]
      by_cases q : i = k
      · rw [if_pos q, q]
      · rw [if_neg q]; exact h i (by omega))
    refine ⟨M', ?_, Fr.trans (Fr.rfl.ul (by decide)) s2, s3⟩
    rw [← s1, F_m_be_1012_1028_2, if_neg (nI_ge (by omega) (by omega)), ck_t (ib_nI (by omega) (by decide)), ck_t (ib_nI (by omega) (by decide)), nI_clamp (by omega), (show (1 : Int32) = nI 1 from rfl), nI_add]
theorem rePs_ok (M : Sto) : ∃ M', F_m_be_1012_1028 M = some ((), M') ∧ Fr [] [] [] [1012] [] M M' ∧ ∀ i, i < 200 → al M' 1012 i = al M 1028 i := by
  unfold F_m_be_1012_1028
  exact rePs_lp 200 FU 0 M rfl (by rw [FU_v]; decide) (fun i hi => absurd hi (Nat.not_lt_zero i))
theorem reWi_lp : ∀ (j n k : Nat) (M : Sto), k + j = 12 → j < n → (∀ i, i < k → al M 1016 i = al M 1029 i) → ∃ M', F_m_be_1016_1029_2 n (nI k) M = some ((), M') ∧ Fr [] [] [] [1016] [] M M' ∧ ∀ i, i < 12 → al M' 1016 i = al M 1029 i := by
  intro j
  induction j with
  | zero =>
    intro n k M hk hn h
    obtain ⟨n, rfl⟩ : ∃ q, n = q + 1 := ⟨n - 1, by omega⟩
    refine ⟨M, ?_, Fr.rfl, fun i hi => h i (by omega)⟩
    rw [F_m_be_1016_1029_2, if_pos (nI_le (by omega) (by omega))]
  | succ j ih =>
    intro n k M hk hn h
    obtain ⟨n, rfl⟩ : ∃ q, n = q + 1 := ⟨n - 1, by omega⟩
    obtain ⟨M', s1, s2, s3⟩ := ih n (k + 1) (ul M 1016 (vp_updL (al M 1016) k (al M 1029 k))) (by omega) (by omega) (fun i hi => by
      show vp_updL (al M 1016) k (al M 1029 k) i = al M 1029 i
      rw [updL_at]
      by_cases q : i = k
      · rw [if_pos q, q]
      · rw [if_neg q]; exact h i (by omega))
    refine ⟨M', ?_, Fr.trans (Fr.rfl.ul (by decide)) s2, s3⟩
    rw [← s1, F_m_be_1016_1029_2, if_neg (nI_ge (by omega) (by omega)), ck_t (ib_nI (by omega) (by decide)), ck_t (ib_nI (by omega) (by decide)), nI_clamp (by omega), (show (1 : Int32) = nI 1 from rfl), nI_add]
theorem reWi_ok (M : Sto) : ∃ M', F_m_be_1016_1029 M = some ((), M') ∧ Fr [] [] [] [1016] [] M M' ∧ ∀ i, i < 12 → al M' 1016 i = al M 1029 i := by
  unfold F_m_be_1016_1029
  exact reWi_lp 12 FU 0 M rfl (by rw [FU_v]; decide) (fun i hi => absurd hi (Nat.not_lt_zero i))
theorem reSe_lp : ∀ (j n k : Nat) (M : Sto), k + j = 12 → j < n → (∀ i, i < k → al M 1017 i = al M 1030 i) → ∃ M', F_m_be_1017_1030_2 n (nI k) M = some ((), M') ∧ Fr [] [] [] [1017] [] M M' ∧ ∀ i, i < 12 → al M' 1017 i = al M 1030 i := by
  intro j
  induction j with
  | zero =>
    intro n k M hk hn h
    obtain ⟨n, rfl⟩ : ∃ q, n = q + 1 := ⟨n - 1, by omega⟩
    refine ⟨M, ?_, Fr.rfl, fun i hi => h i (by omega)⟩
    rw [F_m_be_1017_1030_2, if_pos (nI_le (by omega) (by omega))]
  | succ j ih =>
    intro n k M hk hn h
    obtain ⟨n, rfl⟩ : ∃ q, n = q + 1 := ⟨n - 1, by omega⟩
    obtain ⟨M', s1, s2, s3⟩ := ih n (k + 1) (ul M 1017 (vp_updL (al M 1017) k (al M 1030 k))) (by omega) (by omega) (fun i hi => by
      show vp_updL (al M 1017) k (al M 1030 k) i = al M 1030 i
      rw [updL_at]
      by_cases q : i = k
      · rw [if_pos q, q]
      · rw [if_neg q]; exact h i (by omega))
    refine ⟨M', ?_, Fr.trans (Fr.rfl.ul (by decide)) s2, s3⟩
    rw [← s1, F_m_be_1017_1030_2, if_neg (nI_ge (by omega) (by omega)), ck_t (ib_nI (by omega) (by decide)), ck_t (ib_nI (by omega) (by decide)), nI_clamp (by omega), (show (1 : Int32) = nI 1 from rfl), nI_add]
theorem reSe_ok (M : Sto) : ∃ M', F_m_be_1017_1030 M = some ((), M') ∧ Fr [] [] [] [1017] [] M M' ∧ ∀ i, i < 12 → al M' 1017 i = al M 1030 i := by
  unfold F_m_be_1017_1030
  exact reSe_lp 12 FU 0 M rfl (by rw [FU_v]; decide) (fun i hi => absurd hi (Nat.not_lt_zero i))
theorem reWb_lp : ∀ (j n k : Nat) (M : Sto), k + j = 12 → j < n → (∀ i, i < k → ai M 1018 i = vp_nar .boolean (ai M 1031 i)) → ∃ M', F_m_beAs_1018_1031_2 n (nI k) M = some ((), M') ∧ Fr [] [] [1018] [] [] M M' ∧ ∀ i, i < 12 → ai M' 1018 i = vp_nar .boolean (ai M 1031 i) := by
  intro j
  induction j with
  | zero =>
    intro n k M hk hn h
    obtain ⟨n, rfl⟩ : ∃ q, n = q + 1 := ⟨n - 1, by omega⟩
    refine ⟨M, ?_, Fr.rfl, fun i hi => h i (by omega)⟩
    rw [F_m_beAs_1018_1031_2, if_pos (nI_le (by omega) (by omega))]
  | succ j ih =>
    intro n k M hk hn h
    obtain ⟨n, rfl⟩ : ∃ q, n = q + 1 := ⟨n - 1, by omega⟩
    obtain ⟨M', s1, s2, s3⟩ := ih n (k + 1) (ui M 1018 (upd (ai M 1018) k (vp_nar .boolean (ai M 1031 k)))) (by omega) (by omega) (fun i hi => by
      show upd (ai M 1018) k (vp_nar .boolean (ai M 1031 k)) i = vp_nar .boolean (ai M 1031 i)
      rw [upd_at]
      by_cases q : i = k
      · rw [if_pos q, q]
      · rw [if_neg q]; exact h i (by omega))
    refine ⟨M', ?_, Fr.trans (Fr.rfl.ui (by decide)) s2, s3⟩
    rw [← s1, F_m_beAs_1018_1031_2, if_neg (nI_ge (by omega) (by omega)), ck_t (ib_nI (by omega) (by decide)), ck_t (ib_nI (by omega) (by decide)), nI_clamp (by omega), (show (1 : Int32) = nI 1 from rfl), nI_add]
theorem reWb_ok (M : Sto) : ∃ M', F_m_beAs_1018_1031 M = some ((), M') ∧ Fr [] [] [1018] [] [] M M' ∧ ∀ i, i < 12 → ai M' 1018 i = vp_nar .boolean (ai M 1031 i) := by
  unfold F_m_beAs_1018_1031
  exact reWb_lp 12 FU 0 M rfl (by rw [FU_v]; decide) (fun i hi => absurd hi (Nat.not_lt_zero i))
theorem restore_101_lp : ∀ (j n k : Nat) (M : Sto), k + j = 3 → j < n → (∀ i, i < k → ai M 1008 i = ai M 1032 i) → ∃ M', F_m_restore_101 n (nI k) M = some (1, M') ∧ Fr [] [] [1008] [] [] M M' ∧ ∀ i, i < 3 → ai M' 1008 i = ai M 1032 i := by
  intro j
  induction j with
  | zero =>
    intro n k M hk hn h
    obtain ⟨n, rfl⟩ : ∃ q, n = q + 1 := ⟨n - 1, by omega⟩
    refine ⟨M, ?_, Fr.rfl, fun i hi => h i (by omega)⟩
    rw [F_m_restore_101, (show (3 : Int32) = nI 3 from rfl), if_pos (nI_le (by omega) (by omega))]
  | succ j ih =>
    intro n k M hk hn h
    obtain ⟨n, rfl⟩ : ∃ q, n = q + 1 := ⟨n - 1, by omega⟩
    obtain ⟨M', s1, s2, s3⟩ := ih n (k + 1) (ui M 1008 (upd (ai M 1008) k (ai M 1032 k))) (by omega) (by omega) (fun i hi => by
      show upd (ai M 1008) k (ai M 1032 k) i = ai M 1032 i
      rw [upd_at]
      by_cases q : i = k
      · rw [if_pos q, q]
      · rw [if_neg q]; exact h i (by omega))
    refine ⟨M', ?_, Fr.trans (Fr.rfl.ui (by decide)) s2, s3⟩
    rw [← s1, F_m_restore_101, (show (3 : Int32) = nI 3 from rfl), if_neg (nI_ge (by omega) (by omega)), ck_t (ib_nI (by omega) (by decide)), ck_t (ib_nI (by omega) (by decide)), nI_clamp (by omega), (show (1 : Int32) = nI 1 from rfl), nI_add]
theorem pk27_ok {q : Snap} {M : Sto} (h : Sc5 q M) : ∃ M', F_m_pack_1000_1027 0 M = some ((), M') ∧ Fr [] [] [] [1027] [] M M' ∧ pkd (al M' 1027) 0 q := by
  obtain ⟨c0, c1, c2, c3, c4, c5⟩ := h
  unfold F_m_pack_1000_1027
  rw [(show (0 : Int32) = nI 0 from rfl), (show (1 : Int32) = nI 1 from rfl), (show (2 : Int32) = nI 2 from rfl), (show (3 : Int32) = nI 3 from rfl), (show (4 : Int32) = nI 4 from rfl), nI_add, nI_add, nI_add, nI_add, ck_t (ib_nI (by omega) (by decide)), ck_t (ib_nI (by omega) (by decide)), ck_t (ib_nI (by omega) (by decide)), ck_t (ib_nI (by omega) (by decide)), ck_t (ib_nI (by omega) (by decide)), nI_clamp (by omega), nI_clamp (by omega), nI_clamp (by omega), nI_clamp (by omega), nI_clamp (by omega)]
  refine ⟨_, rfl, ((((Fr.rfl.ul (by decide)).ul (by decide)).ul (by decide)).ul (by decide)).ul (by decide), ?_⟩
  show pkd (vp_updL (vp_updL (vp_updL (vp_updL (vp_updL (al M 1027) 0 (gl M 1013)) (0 + 1) (gl M 1014)) (0 + 2) (gi M 1016).toInt64) (0 + 3) (gl M 1015)) (0 + 4) (gi M 1017).toInt64) 0 q
  rw [c1, c2, c3, c4, c5, i2l_nI c0]
  exact ⟨rfl, rfl, rfl, rfl, rfl⟩
theorem up27_ok {q : Snap} {M : Sto} (h : pkd (al M 1027) 0 q) : ∃ M', F_m_unpack_1000_1027 0 M = some ((), M') ∧ Fr [1016, 1017] [1013, 1014, 1015] [] [] [] M M' ∧ CurM q M' := by
  obtain ⟨c1, c2, c3, c4, c5⟩ := h
  unfold F_m_unpack_1000_1027
  rw [(show (0 : Int32) = nI 0 from rfl), (show (1 : Int32) = nI 1 from rfl), (show (2 : Int32) = nI 2 from rfl), (show (3 : Int32) = nI 3 from rfl), (show (4 : Int32) = nI 4 from rfl), nI_add, nI_add, nI_add, nI_add, ck_t (ib_nI (by omega) (by decide)), ck_t (ib_nI (by omega) (by decide)), ck_t (ib_nI (by omega) (by decide)), ck_t (ib_nI (by omega) (by decide)), ck_t (ib_nI (by omega) (by decide)), nI_clamp (by omega), nI_clamp (by omega), nI_clamp (by omega), nI_clamp (by omega), nI_clamp (by omega)]
  refine ⟨_, rfl, ((((Fr.rfl.sl (by decide)).sl (by decide)).si (by decide)).sl (by decide)).si (by decide), c1, c2, ?_, c4, ?_⟩
  · show (al M 1027 (0 + 2)).toInt32 = _
    rw [c3, l2i_lN]
  · show (al M 1027 (0 + 4)).toInt32 = _
    rw [c5]; exact Int32.toInt32_toInt64 _
theorem image_ok {S M : Sto} (h : Rl S M) : ∃ S' M', F_w_image S = some ((), S') ∧ F_m_image M = some ((), M') ∧ Rl S' M' := by
  obtain ⟨t, f, Z, c, i, h1, h2, h3, hC, hM⟩ := h
  have hl := lw_lt h1 h2
  obtain ⟨g1, g2, g3, g4, g5, g6, g7⟩ := id h2
  obtain ⟨S', s1, s2, s3⟩ := cp_35_27 hC.2.2.2.1 g2 g4 g6
  generalize hT : si (si (si (si (si (si M 1001 0) 1029 1) 1030 (gi M 1018)) 1031 (gi M 1019)) 1032 (gi M 1020)) 1033 (gi M 1021) = T
  have qT : Fr [1001, 1029, 1030, 1031, 1032, 1033] [] [] [] [] M T := by rw [← hT]; exact (((((Fr.rfl.si (by decide)).si (by decide)).si (by decide)).si (by decide)).si (by decide)).si (by decide)
  obtain ⟨n1, n2, n3, n4, n5, n6, n7, n8, n9, d1, d2, d3, d4⟩ := hM.sc
  have hs5 : Sc5 c.1 T := ⟨by have : c.1.2.2.1 = sLw c := rfl; omega, by rw [qT.gl _ (by decide)]; exact n1, by rw [qT.gl _ (by decide)]; exact n2, by rw [qT.gi _ (by decide)]; exact n3, by rw [qT.gl _ (by decide)]; exact n4, by rw [qT.gi _ (by decide)]; exact n5⟩
  have t30 : gi T 1030 = nI (sA c) := by rw [← hT]; exact n6
  have t31 : gi T 1031 = nI (sW c) := by rw [← hT]; exact n7
  have t32 : gi T 1032 = nI (wCt (sWb c) (sW c)) := by rw [← hT]; exact n8
  have t33 : gi T 1033 = nI (sE c) := by rw [← hT]; exact n9
  have t29 : gi T 1029 = 1 := by rw [← hT]; rfl
  obtain ⟨M1, a1, a2, a3⟩ := pk27_ok hs5
  obtain ⟨M2, b1, b2, b3⟩ := bePs_ok M1
  obtain ⟨M3, e1, e2, e3⟩ := beWi_ok M2
  obtain ⟨M4, f1, f2, f3⟩ := beSe_ok M3
  obtain ⟨M5, j1, j2, j3⟩ := beWb_ok M4
  obtain ⟨M6, k1, k2, k3⟩ := image_97_lp 3 FU 0 M5 rfl (by rw [FU_v]; decide) (fun i hi => absurd hi (Nat.not_lt_zero i))
  have q1 : Fr [] [] [1031, 1032] [1027, 1028, 1029, 1030] [] T M1 := a2.mono (by decide) (by decide) (by decide) (by decide) (by decide)
  have q2 : Fr [] [] [1031, 1032] [1027, 1028, 1029, 1030] [] T M2 := q1.trans (b2.mono (by decide) (by decide) (by decide) (by decide) (by decide))
  have q3 : Fr [] [] [1031, 1032] [1027, 1028, 1029, 1030] [] T M3 := q2.trans (e2.mono (by decide) (by decide) (by decide) (by decide) (by decide))
  have q4 : Fr [] [] [1031, 1032] [1027, 1028, 1029, 1030] [] T M4 := q3.trans (f2.mono (by decide) (by decide) (by decide) (by decide) (by decide))
  have q5 : Fr [] [] [1031, 1032] [1027, 1028, 1029, 1030] [] T M5 := q4.trans (j2.mono (by decide) (by decide) (by decide) (by decide) (by decide))
  have q6 : Fr [] [] [1031, 1032] [1027, 1028, 1029, 1030] [] T M6 := q5.trans (k2.mono (by decide) (by decide) (by decide) (by decide) (by decide))
  have qa : Fr [1001, 1029, 1030, 1031, 1032, 1033] [] [1031, 1032] [1027, 1028, 1029, 1030] [] M M6 := Fr.trans (qT.mono (by decide) (by decide) (by decide) (by decide) (by decide)) (q6.mono (by decide) (by decide) (by decide) (by decide) (by decide))
  refine ⟨si S' 50 1, M6, ?_, ?_, t, f, Z, c, some c, h1, h2, fun k hk => by cases hk; exact h2, ?_, ?_⟩
  · unfold F_w_image
    rw [s1, b2_s]
  · unfold F_m_image
    have eT : si (si (si (si (si (si M 1001 0) 1029 1) 1030 (gi (si (si M 1001 0) 1029 1) 1018)) 1031 (gi (si (si (si M 1001 0) 1029 1) 1030 (gi (si (si M 1001 0) 1029 1) 1018)) 1019)) 1032 (gi (si (si (si (si M 1001 0) 1029 1) 1030 (gi (si (si M 1001 0) 1029 1) 1018)) 1031 (gi (si (si (si M 1001 0) 1029 1) 1030 (gi (si (si M 1001 0) 1029 1) 1018)) 1019)) 1020)) 1033 (gi (si (si (si (si (si M 1001 0) 1029 1) 1030 (gi (si (si M 1001 0) 1029 1) 1018)) 1031 (gi (si (si (si M 1001 0) 1029 1) 1030 (gi (si (si M 1001 0) 1029 1) 1018)) 1019)) 1032 (gi (si (si (si (si M 1001 0) 1029 1) 1030 (gi (si (si M 1001 0) 1029 1) 1018)) 1031 (gi (si (si (si M 1001 0) 1029 1) 1030 (gi (si (si M 1001 0) 1029 1) 1018)) 1019)) 1020)) 1021) = T := hT
    rw [eT, a1, b2_s, b1, b2_s, e1, b2_s, f1, b2_s, j1, b2_s]
    exact k1
  · obtain ⟨x1, x2, x3, x4, x5, x6, x7⟩ := hC
    have qs : Fr [50, 36, 38, 39, 40, 41] [34, 35, 37] [36, 40, 42] [37, 38, 39, 41] [] S (si S' 50 1) := (s2.mono (by decide) (by decide) (by decide) (by decide) (by decide)).si (by decide)
    refine ⟨?_, ?_, ZC_fr x3 qs (by decide) (by decide) (by decide), ScC_fr x4 qs (by decide) (by decide) (by decide) (by decide), rfl, fun k hk => by cases hk; exact s3, ?_⟩
    · unfold TpC at x1 ⊢
      rw [qs.gi 7 (by decide), qs.ai 2 (by decide)]
      exact x1
    · rw [qs.gi 8 (by decide)]; exact x2
    · rw [qs.gr 48 (by decide), qs.gr 49 (by decide)]; exact x7
  · obtain ⟨x1, x2, x3, x4, x5, x6⟩ := hM
    refine ⟨?_, ?_, ZM_fr x3 qa (by decide) (by decide), ScM_fr x4 qa (by decide) (by decide) (by decide) (by decide), ?_, fun k hk => ?_⟩
    · unfold TpM at x1 ⊢
      rw [qa.gi 1003 (by decide), qa.ai 1011 (by decide)]
      exact x1
    · rw [qa.gi 1012 (by decide)]; exact x2
    · rw [q6.gi 1029 (by decide), t29]; rfl
    · cases hk
      refine ⟨?_, by rw [q6.gi _ (by decide)]; exact t30, by rw [q6.gi _ (by decide)]; exact t31, by rw [q6.gi _ (by decide)]; exact t32, by rw [q6.gi _ (by decide)]; exact t33, fun i hi => ?_, fun i hi => ?_, fun i hi => ?_, fun i hi => ?_⟩
      · rw [k2.al _ (by decide), j2.al _ (by decide), f2.al _ (by decide), e2.al _ (by decide), b2.al _ (by decide)]
        exact a3
      · rw [k2.al _ (by decide), j2.al _ (by decide), f2.al _ (by decide), e2.al _ (by decide)]
        refine pkd_cong (d1 i hi) (fun j hj => ?_)
        rw [b3 _ (by omega), q1.al _ (by decide), qT.al _ (by decide)]
      · rw [k2.al _ (by decide), j2.al _ (by decide), f2.al _ (by decide), e3 i (by omega), q2.al _ (by decide), qT.al _ (by decide), k2.ai _ (by decide), j3 i (by omega), q4.ai _ (by decide), qT.ai _ (by decide), (d2 i hi).1, (d2 i hi).2, vpn_b]
        exact ⟨rfl, rfl⟩
      · rw [k2.al _ (by decide), j2.al _ (by decide), f3 i (by omega), q3.al _ (by decide), qT.al _ (by decide)]
        exact d3 i hi
      · rw [k3 i hi, q5.ai _ (by decide), qT.ai _ (by decide)]
        exact d4 i hi
theorem restore_ok {S M : Sto} (h : Rl S M) : ∃ r S' M', F_w_restore S = some (r, S') ∧ F_m_restore M = some (r, M') ∧ Rl S' M' := by
  obtain ⟨t, f, Z, c, i, h1, h2, h3, hC, hM⟩ := h
  cases i with
  | none =>
    refine ⟨0, S, si M 1001 0, ?_, ?_, t, f, Z, c, none, h1, h2, h3, hC, hM.cd 0⟩
    · unfold F_w_restore
      rw [hC.im, if_pos (show bI (none : Option Scn).isSome = 0 from rfl), ck_t (by decide)]
      rfl
    · unfold F_m_restore
      rw [(hM.cd 0).im, if_pos (show bI (none : Option Scn).isSome = 0 from rfl)]
  | some e =>
    have he := h3 e rfl
    obtain ⟨g1, g2, g3, g4, g5, g6, g7⟩ := id he
    obtain ⟨S', s1, s2, s3⟩ := cp_27_35 (hC.ik e rfl) g2 g4 g6
    generalize hT : si (si (si (si (si M 1001 0) 1018 (gi M 1030)) 1019 (gi M 1031)) 1020 (gi M 1032)) 1021 (gi M 1033) = T
    have qT : Fr [1001, 1018, 1019, 1020, 1021] [] [] [] [] M T := by rw [← hT]; exact ((((Fr.rfl.si (by decide)).si (by decide)).si (by decide)).si (by decide)).si (by decide)
    obtain ⟨n0, n1, n2, n3, n4, d1, d2, d3, d4⟩ := hM.ik e rfl
    have t30 : gi T 1018 = nI (sA e) := by rw [← hT]; exact n1
    have t31 : gi T 1019 = nI (sW e) := by rw [← hT]; exact n2
    have t32 : gi T 1020 = nI (wCt (sWb e) (sW e)) := by rw [← hT]; exact n3
    have t33 : gi T 1021 = nI (sE e) := by rw [← hT]; exact n4
    obtain ⟨M1, a1, a2, a3⟩ := up27_ok (M := T) (q := e.1) (by rw [qT.al _ (by decide)]; exact n0)
    obtain ⟨M2, b1, b2, b3⟩ := rePs_ok M1
    obtain ⟨M3, e1, e2, e3⟩ := reWi_ok M2
    obtain ⟨M4, f1, f2, f3⟩ := reSe_ok M3
    obtain ⟨M5, j1, j2, j3⟩ := reWb_ok M4
    obtain ⟨M6, k1, k2, k3⟩ := restore_101_lp 3 FU 0 M5 rfl (by rw [FU_v]; decide) (fun i hi => absurd hi (Nat.not_lt_zero i))
    have q1 : Fr [1016, 1017] [1013, 1014, 1015] [1018, 1008] [1012, 1016, 1017] [] T M1 := a2.mono (by decide) (by decide) (by decide) (by decide) (by decide)
    have q2 : Fr [1016, 1017] [1013, 1014, 1015] [1018, 1008] [1012, 1016, 1017] [] T M2 := q1.trans (b2.mono (by decide) (by decide) (by decide) (by decide) (by decide))
    have q3 : Fr [1016, 1017] [1013, 1014, 1015] [1018, 1008] [1012, 1016, 1017] [] T M3 := q2.trans (e2.mono (by decide) (by decide) (by decide) (by decide) (by decide))
    have q4 : Fr [1016, 1017] [1013, 1014, 1015] [1018, 1008] [1012, 1016, 1017] [] T M4 := q3.trans (f2.mono (by decide) (by decide) (by decide) (by decide) (by decide))
    have q5 : Fr [1016, 1017] [1013, 1014, 1015] [1018, 1008] [1012, 1016, 1017] [] T M5 := q4.trans (j2.mono (by decide) (by decide) (by decide) (by decide) (by decide))
    have q6 : Fr [1016, 1017] [1013, 1014, 1015] [1018, 1008] [1012, 1016, 1017] [] T M6 := q5.trans (k2.mono (by decide) (by decide) (by decide) (by decide) (by decide))
    have q16 : Fr [] [] [1018, 1008] [1012, 1016, 1017] [] M1 M6 := (((((b2.mono (a' := []) (b' := []) (c' := [1018, 1008]) (d' := [1012, 1016, 1017]) (e' := []) (by decide) (by decide) (by decide) (by decide) (by decide)).trans (e2.mono (by decide) (by decide) (by decide) (by decide) (by decide))).trans (f2.mono (by decide) (by decide) (by decide) (by decide) (by decide))).trans (j2.mono (by decide) (by decide) (by decide) (by decide) (by decide))).trans (k2.mono (by decide) (by decide) (by decide) (by decide) (by decide)))
    have qa : Fr [1001, 1016, 1017, 1018, 1019, 1020, 1021] [1013, 1014, 1015] [1018, 1008] [1012, 1016, 1017] [] M M6 := Fr.trans (qT.mono (by decide) (by decide) (by decide) (by decide) (by decide)) (q6.mono (by decide) (by decide) (by decide) (by decide) (by decide))
    refine ⟨1, S', M6, ?_, ?_, t, f, Z, e, some e, h1, he, h3, ?_, ?_⟩
    · unfold F_w_restore
      rw [hC.im, if_neg (show ¬ bI (some e).isSome = 0 from (by decide : ¬ bI true = 0)), s1, b2_s, s2.gi _ (by decide), hC.im, ck_t (show b01 (bI (some e).isSome) = true from rfl)]
      rfl
    · unfold F_m_restore
      have eT : si (si (si (si (si M 1001 0) 1018 (gi (si M 1001 0) 1030)) 1019 (gi (si (si M 1001 0) 1018 (gi (si M 1001 0) 1030)) 1031)) 1020 (gi (si (si (si M 1001 0) 1018 (gi (si M 1001 0) 1030)) 1019 (gi (si (si M 1001 0) 1018 (gi (si M 1001 0) 1030)) 1031)) 1032)) 1021 (gi (si (si (si (si M 1001 0) 1018 (gi (si M 1001 0) 1030)) 1019 (gi (si (si M 1001 0) 1018 (gi (si M 1001 0) 1030)) 1031)) 1020 (gi (si (si (si M 1001 0) 1018 (gi (si M 1001 0) 1030)) 1019 (gi (si (si M 1001 0) 1018 (gi (si M 1001 0) 1030)) 1031)) 1032)) 1033) = T := hT
      rw [(hM.cd 0).im, if_neg (show ¬ bI (some e).isSome = 0 from (by decide : ¬ bI true = 0)), eT, a1, b2_s, b1, b2_s, e1, b2_s, f1, b2_s, j1, b2_s]
      exact k1
    · obtain ⟨x1, x2, x3, x4, x5, x6, x7⟩ := hC
      refine ⟨?_, ?_, ZC_fr x3 s2 (by decide) (by decide) (by decide), s3, ?_, fun k hk => ScC_fr (x6 k hk) s2 (by decide) (by decide) (by decide) (by decide), ?_⟩
      · unfold TpC at x1 ⊢
        rw [s2.gi 7 (by decide), s2.ai 2 (by decide)]
        exact x1
      · rw [s2.gi 8 (by decide)]; exact x2
      · rw [s2.gi 50 (by decide)]; exact x5
      · rw [s2.gr 48 (by decide), s2.gr 49 (by decide)]; exact x7
    · obtain ⟨x1, x2, x3, x4, x5, x6⟩ := hM
      refine ⟨?_, ?_, ZM_fr x3 qa (by decide) (by decide), ?_, ?_, fun k hk => ScN_fr (x6 k hk) qa (by decide) (by decide) (by decide)⟩
      · unfold TpM at x1 ⊢
        rw [qa.gi 1003 (by decide), qa.ai 1011 (by decide)]
        exact x1
      · rw [qa.gi 1012 (by decide)]; exact x2
      · obtain ⟨y1, y2, y3, y4, y5⟩ := a3
        refine ⟨by rw [q16.gl _ (by decide)]; exact y1, by rw [q16.gl _ (by decide)]; exact y2, by rw [q16.gi _ (by decide)]; exact y3, by rw [q16.gl _ (by decide)]; exact y4, by rw [q16.gi _ (by decide)]; exact y5, by rw [q6.gi _ (by decide)]; exact t30, by rw [q6.gi _ (by decide)]; exact t31, by rw [q6.gi _ (by decide)]; exact t32, by rw [q6.gi _ (by decide)]; exact t33, fun i hi => ?_, fun i hi => ?_, fun i hi => ?_, fun i hi => ?_⟩
        · rw [k2.al _ (by decide), j2.al _ (by decide), f2.al _ (by decide), e2.al _ (by decide)]
          refine pkd_cong (d1 i hi) (fun j hj => ?_)
          rw [b3 _ (by omega), q1.al _ (by decide), qT.al _ (by decide)]
        · rw [k2.al _ (by decide), j2.al _ (by decide), f2.al _ (by decide), e3 i (by omega), q2.al _ (by decide), qT.al _ (by decide), k2.ai _ (by decide), j3 i (by omega), q4.ai _ (by decide), qT.ai _ (by decide), (d2 i hi).1, (d2 i hi).2, vpn_b]
          exact ⟨rfl, rfl⟩
        · rw [k2.al _ (by decide), j2.al _ (by decide), f3 i (by omega), q3.al _ (by decide), qT.al _ (by decide)]
          exact d3 i hi
        · rw [k3 i hi, q5.ai _ (by decide), qT.ai _ (by decide)]
          exact d4 i hi
      · rw [qa.gi 1029 (by decide)]; exact x5
