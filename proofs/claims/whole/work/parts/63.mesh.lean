/-! ===== a new mesh ===== -/
def isMs (c : Scn) (m r i : Nat) : Prop := (sWn c i % m = r) ↔ sWb c i = true
theorem ms_lp {Z : Zt} {c : Scn} {S M : Sto} {m r : Nat} (hc : ScOk Z c) (hS : Sc0 c S) (hM : ScM c M) (h0 : 0 < m) (hm : m ≤ 999) (hr : r < 2147483648) : ∀ (j n n' k : Nat), k + j = sW c → j < n → j < n' →
    ((∀ i, k ≤ i → i < sW c → isMs c m r i) ∧ F_Sc_serves_2 n (nI m) (nI r) (nI k) S = some 1 ∧ F_m_isMesh_2 n' (nI m) (nI r) (nI k) M = some 1) ∨ ((∃ i, i < sW c ∧ ¬ isMs c m r i) ∧ F_Sc_serves_2 n (nI m) (nI r) (nI k) S = some 0 ∧ F_m_isMesh_2 n' (nI m) (nI r) (nI k) M = some 0) := by
  have hW : sW c ≤ 12 := hc.2.2.2.1
  have hv : ∀ i, i < sW c → sWn c i ≤ 1000000000000 := fun i hi => (hc.2.2.2.2.1 i hi).2
  obtain ⟨_, _, _, _, _, _, _, c8, c9, _⟩ := hS
  obtain ⟨_, _, _, _, _, _, m7, m8, _, _, d2, _, _⟩ := hM
  intro j
  induction j with
  | zero =>
    intro n n' k hk hn hn'
    obtain ⟨n, rfl⟩ : ∃ q, n = q + 1 := ⟨n - 1, by omega⟩
    obtain ⟨n', rfl⟩ : ∃ q, n' = q + 1 := ⟨n' - 1, by omega⟩
    refine Or.inl ⟨fun i a b => by omega, ?_, ?_⟩
    · rw [F_Sc_serves_2, c8, if_pos (nI_le (by omega) (by omega))]
    · rw [F_m_isMesh_2, m7, if_pos (nI_le (by omega) (by omega))]
  | succ j ih =>
    intro n n' k hk hn hn'
    obtain ⟨n, rfl⟩ : ∃ q, n = q + 1 := ⟨n - 1, by omega⟩
    obtain ⟨n', rfl⟩ : ∃ q, n' = q + 1 := ⟨n' - 1, by omega⟩
    have hvk := hv k (by omega)
    have hmm : sWn c k % m < m := Nat.mod_lt _ h0
    have eC : F_Sc_serves_2 (n + 1) (nI m) (nI r) (nI k) S = if bI (decide (sWn c k % m = r)) = bI (sWb c k) then F_Sc_serves_2 n (nI m) (nI r) (nI (k + 1)) S else some 0 := by
      rw [F_Sc_serves_2, c8, if_neg (nI_ge (by omega) (by omega)), (show (12 : Int32) = nI 12 from rfl), if_neg (nI_ge (by omega) (by omega)), ck_t (ib_nI (by omega) (by decide)), nI_clamp (by omega), (c9 k (by omega)).1, i2l_nI (by omega), i2l_nI hr, remW (by omega) h0 (by omega), b1_s]
      unfold F_Sc_serves_38
      rw [nI_clamp (by omega), (c9 k (by omega)).2, show nI k + (1 : Int32) = nI (k + 1) from nI_add k 1, ck_t (ib_nI (by omega) (by decide)), ck_t (ib_nI (by omega) (by decide))]
      by_cases w : sWn c k % m = r
      · rw [if_pos (by rw [w]), decide_eq_true w]; rfl
      · rw [if_neg (by rw [eq_lN (by omega) (by omega)]; exact w), decide_eq_false w]; rfl
    have eM : F_m_isMesh_2 (n' + 1) (nI m) (nI r) (nI k) M = if bI (decide (sWn c k % m = r)) = bI (sWb c k) then F_m_isMesh_2 n' (nI m) (nI r) (nI (k + 1)) M else some 0 := by
      rw [F_m_isMesh_2, m7, if_neg (nI_ge (by omega) (by omega)), ck_t (ib_nI (by omega) (by decide)), nI_clamp (by omega), (d2 k (by omega)).1, i2l_nI (by omega), i2l_nI hr, ck_t (nzL_lN h0 (by omega)), rem_lN (by omega) h0 (by omega)]
      unfold F_m_isMesh_30
      rw [nI_clamp (by omega), (d2 k (by omega)).2, show nI k + (1 : Int32) = nI (k + 1) from nI_add k 1, ck_t (ib_nI (by omega) (by decide)), ck_t (ib_nI (by omega) (by decide))]
      by_cases w : sWn c k % m = r
      · rw [if_pos (by rw [w]), decide_eq_true w]; rfl
      · rw [if_neg (by rw [eq_lN (by omega) (by omega)]; exact w), decide_eq_false w]; rfl
    rw [eC, eM]
    by_cases w : bI (decide (sWn c k % m = r)) = bI (sWb c k)
    · rw [if_pos w, if_pos w]
      rw [bI_inj] at w
      have hk1 : isMs c m r k := by
        unfold isMs
        rw [← w]
        exact ⟨fun q => decide_eq_true q, fun q => of_decide_eq_true q⟩
      rcases ih n n' (k + 1) (by omega) (by omega) (by omega) with ⟨e1, e2⟩ | e
      · refine Or.inl ⟨fun i a b => ?_, e2⟩
        by_cases u : i = k
        · rw [u]; exact hk1
        · exact e1 i (by omega) b
      · exact Or.inr e
    · rw [if_neg w, if_neg w]
      rw [bI_inj] at w
      refine Or.inr ⟨⟨k, by omega, fun q => w ?_⟩, rfl, rfl⟩
      unfold isMs at q
      cases hb : sWb c k
      · rw [hb] at q
        exact decide_eq_false (fun u => by have := q.mp u; cases this)
      · exact decide_eq_true (q.mpr hb)
theorem ms_ok {Z : Zt} {c : Scn} {S M : Sto} {m r : Nat} (hc : ScOk Z c) (hS : Sc0 c S) (hM : ScM c M) (h0 : 0 < m) (hm : m ≤ 999) (hr : r < 2147483648) :
    ((∀ i, i < sW c → isMs c m r i) ∧ F_Sc_serves (nI m) (nI r) S = some 1 ∧ F_m_isMesh (nI m) (nI r) M = some 1) ∨ ((∃ i, i < sW c ∧ ¬ isMs c m r i) ∧ F_Sc_serves (nI m) (nI r) S = some 0 ∧ F_m_isMesh (nI m) (nI r) M = some 0) := by
  have hW : sW c ≤ 12 := hc.2.2.2.1
  rcases ms_lp (Z := Z) hc hS hM h0 hm hr (sW c) FU FU 0 (Nat.zero_add _) (by rw [FU_v]; omega) (by rw [FU_v]; omega) with ⟨e1, e2⟩ | e
  · exact Or.inl ⟨fun i hi => e1 i (Nat.zero_le _) hi, e2⟩
  · exact Or.inr e
/-- the model's rests of a mesh -/
theorem m34_lp {Z : Zt} {c : Scn} {S M : Sto} {m : Nat} {top : Int32} {k27 : Int32 → Int32 → Sto → Option (Int32 × Sto)} (hc : ScOk Z c) (hS : Sc0 c S) (hM : ScM c M) (h0 : 0 < m) (hm : m ≤ 999) : ∀ (j n r : Nat), r + j = m → j < n → (∀ q, q < r → ∃ i, i < sW c ∧ ¬ isMs c m q i) →
    ((∀ q, q < m → ∃ i, i < sW c ∧ ¬ isMs c m q i) ∧ F_m_mesh_34 k27 n top (nI m) (nI r) M = k27 top (nI (m + 1)) M) ∨ (∃ q, q < m ∧ (∀ i, i < sW c → isMs c m q i) ∧ (∀ p, p < q → ∃ i, i < sW c ∧ ¬ isMs c m p i) ∧ F_m_mesh_34 k27 n top (nI m) (nI r) M = some (nI (1000 * m + q), M)) := by
  intro j
  induction j with
  | zero =>
    intro n r hr hn hq
    obtain ⟨n, rfl⟩ : ∃ q, n = q + 1 := ⟨n - 1, by omega⟩
    have : r = m := by omega
    subst this
    refine Or.inl ⟨hq, ?_⟩
    rw [F_m_mesh_34, if_pos (nI_le (by omega) (by omega)), (show (1 : Int32) = nI 1 from rfl), nI_add]
  | succ j ih =>
    intro n r hr hn hq
    obtain ⟨n, rfl⟩ : ∃ q, n = q + 1 := ⟨n - 1, by omega⟩
    rw [F_m_mesh_34, if_neg (nI_ge (by omega) (by omega))]
    rcases ms_ok (Z := Z) hc hS hM h0 hm (show r < 2147483648 by omega) with ⟨e1, _, e3⟩ | ⟨e1, _, e3⟩
    · rw [e3, b1_s, if_neg I1_0]
      refine Or.inr ⟨r, by omega, e1, hq, ?_⟩
      rw [show (1000 : Int32) = nI 1000 from rfl, pk_mul, nI_add]
    · rw [e3, b1_s, if_pos rfl, (show (1 : Int32) = nI 1 from rfl), nI_add]
      refine ih n (r + 1) (by omega) (by omega) (fun q hq2 => ?_)
      by_cases w : q = r
      · rw [w]; exact e1
      · exact hq q (by omega)
/-- the class's rests of a mesh without a number that is wished -/
theorem r61_lp {Z : Zt} {c : Scn} {S M : Sto} {m : Nat} (hc : ScOk Z c) (hS : Sc0 c S) (hM : ScM c M) (h0 : 0 < m) (hm : m ≤ 999) : ∀ (j n r : Nat), r + j = m → j < n → (∀ q, q < r → ∃ i, i < sW c ∧ ¬ isMs c m q i) →
    ((∀ q, q < m → ∃ i, i < sW c ∧ ¬ isMs c m q i) ∧ F_Sc_restThatServes_61 n (nI m) (nI r) S = some (-1)) ∨ (∃ q, q < m ∧ (∀ i, i < sW c → isMs c m q i) ∧ (∀ p, p < q → ∃ i, i < sW c ∧ ¬ isMs c m p i) ∧ F_Sc_restThatServes_61 n (nI m) (nI r) S = some (nI q)) := by
  intro j
  induction j with
  | zero =>
    intro n r hr hn hq
    obtain ⟨n, rfl⟩ : ∃ q, n = q + 1 := ⟨n - 1, by omega⟩
    have : r = m := by omega
    subst this
    refine Or.inl ⟨hq, ?_⟩
    rw [F_Sc_restThatServes_61, if_pos (nI_le (by omega) (by omega))]
  | succ j ih =>
    intro n r hr hn hq
    obtain ⟨n, rfl⟩ : ∃ q, n = q + 1 := ⟨n - 1, by omega⟩
    rw [F_Sc_restThatServes_61, if_neg (nI_ge (by omega) (by omega))]
    rcases ms_ok (Z := Z) hc hS hM h0 hm (show r < 2147483648 by omega) with ⟨e1, e3, _⟩ | ⟨e1, e3, _⟩
    · rw [e3, b1_s, if_neg I1_0]
      exact Or.inr ⟨r, by omega, e1, hq, rfl⟩
    · rw [e3, b1_s, if_pos rfl, (show (1 : Int32) = nI 1 from rfl), nI_add]
      refine ih n (r + 1) (by omega) (by omega) (fun q hq2 => ?_)
      by_cases w : q = r
      · rw [w]; exact e1
      · exact hq q (by omega)
theorem r2_lp {Z : Zt} {c : Scn} {S M : Sto} {m : Nat} (hc : ScOk Z c) (hS : Sc0 c S) (hM : ScM c M) (h0 : 0 < m) (hm : m ≤ 999) : ∀ (j n k : Nat), k + j = sW c → j < n → (∀ i, i < k → sWb c i = false) →
    ((∀ q, q < m → ∃ i, i < sW c ∧ ¬ isMs c m q i) ∧ F_Sc_restThatServes_2 n (nI m) (nI k) S = some (-1)) ∨ (∃ q, q < m ∧ (∀ i, i < sW c → isMs c m q i) ∧ (∀ p, p < q → ∃ i, i < sW c ∧ ¬ isMs c m p i) ∧ F_Sc_restThatServes_2 n (nI m) (nI k) S = some (nI q)) := by
  have hW : sW c ≤ 12 := hc.2.2.2.1
  have hv : ∀ i, i < sW c → sWn c i ≤ 1000000000000 := fun i hi => (hc.2.2.2.2.1 i hi).2
  have c8 : gi S 32 = nI (sW c) := hS.2.2.2.2.2.2.2.1
  have c9 := hS.2.2.2.2.2.2.2.2.1
  intro j
  induction j with
  | zero =>
    intro n k hk hn hb
    obtain ⟨n, rfl⟩ : ∃ q, n = q + 1 := ⟨n - 1, by omega⟩
    rw [F_Sc_restThatServes_2, c8, if_pos (nI_le (by omega) (by omega))]
    unfold F_Sc_restThatServes_59
    exact r61_lp hc hS hM h0 hm m FU 0 (Nat.zero_add _) (by rw [FU_v]; omega) (fun q hq => absurd hq (Nat.not_lt_zero q))
  | succ j ih =>
    intro n k hk hn hb
    obtain ⟨n, rfl⟩ : ∃ q, n = q + 1 := ⟨n - 1, by omega⟩
    have hvk := hv k (by omega)
    have hmm : sWn c k % m < m := Nat.mod_lt _ h0
    rw [F_Sc_restThatServes_2, c8, if_neg (nI_ge (by omega) (by omega)), (show (12 : Int32) = nI 12 from rfl), if_neg (nI_ge (by omega) (by omega)), ck_t (ib_nI (by omega) (by decide)), nI_clamp (by omega), (c9 k (by omega)).2]
    cases hw : sWb c k
    · rw [if_pos (show bI false = 0 from rfl), (show (1 : Int32) = nI 1 from rfl), nI_add]
      refine ih n (k + 1) (by omega) (by omega) (fun i hi => ?_)
      by_cases u : i = k
      · rw [u]; exact hw
      · exact hb i (by omega)
    · rw [if_neg (show ¬ bI true = 0 by decide), ck_t (ib_nI (by omega) (by decide)), (c9 k (by omega)).1, i2l_nI (by omega), remW (by omega) h0 (by omega), b1_s, l2i_lN]
      have hun : ∀ p, p ≠ sWn c k % m → ∃ i, i < sW c ∧ ¬ isMs c m p i := fun p hp => ⟨k, by omega, fun q => hp ((q.mpr hw).symm)⟩
      rcases ms_ok (Z := Z) hc hS hM h0 hm (show sWn c k % m < 2147483648 by omega) with ⟨e1, e3, _⟩ | ⟨e1, e3, _⟩
      · rw [e3, b1_s, if_neg I1_0]
        exact Or.inr ⟨sWn c k % m, hmm, e1, fun p hp => hun p (by omega), rfl⟩
      · rw [e3, b1_s, if_pos rfl]
        refine Or.inl ⟨fun q hq => ?_, rfl⟩
        by_cases u : q = sWn c k % m
        · rw [u]; exact e1
        · exact hun q u
theorem mesh_lp {Z : Zt} {c : Scn} {S M : Sto} {top : Nat} (hc : ScOk Z c) (hS : Sc0 c S) (hM : ScM c M) (ht : top ≤ 999) : ∀ (j n n' m : Nat), m + j = top + 1 → j < n → j < n' → 2 ≤ m →
    ∃ r, F_w_mesh_22 n (nI top) (nI m) S = some (.inl r) ∧ F_m_mesh_27 n' (nI top) (nI m) M = some (r, M) := by
  intro j
  induction j with
  | zero =>
    intro n n' m hm hn hn' h2
    obtain ⟨n, rfl⟩ : ∃ q, n = q + 1 := ⟨n - 1, by omega⟩
    obtain ⟨n', rfl⟩ : ∃ q, n' = q + 1 := ⟨n' - 1, by omega⟩
    refine ⟨-1, ?_, ?_⟩
    · rw [F_w_mesh_22, if_pos (nI_lt (by omega) (by omega))]
    · rw [F_m_mesh_27, if_pos (nI_lt (by omega) (by omega))]
  | succ j ih =>
    intro n n' m hm hn hn' h2
    obtain ⟨n, rfl⟩ : ∃ q, n = q + 1 := ⟨n - 1, by omega⟩
    obtain ⟨n', rfl⟩ : ∃ q, n' = q + 1 := ⟨n' - 1, by omega⟩
    obtain ⟨r, r1, r2⟩ := ih n n' (m + 1) (by omega) (by omega) (by omega) (by omega)
    rw [F_w_mesh_22, F_m_mesh_27, if_neg (by rw [lt_nI (by omega) (by omega)]; omega), if_neg (by rw [lt_nI (by omega) (by omega)]; omega)]
    have hC := r2_lp (Z := Z) (m := m) hc hS hM (by omega) (by omega) (sW c) FU 0 (Nat.zero_add _) (by rw [FU_v]; have := hc.2.2.2.1; omega) (fun i hi => absurd hi (Nat.not_lt_zero i))
    have hM2 := m34_lp (Z := Z) (m := m) (top := nI top) (k27 := F_m_mesh_27 n') hc hS hM (by omega) (by omega) m FU 0 (Nat.zero_add _) (by rw [FU_v]; omega) (fun q hq => absurd hq (Nat.not_lt_zero q))
    rcases hC with ⟨a1, a2⟩ | ⟨q, q1, q2, q3, q4⟩
    · have a2' : F_Sc_restThatServes (nI m) S = some (-1) := a2
      rw [a2', b1_s, if_pos rfl, show nI m + (1 : Int32) = nI (m + 1) from nI_add m 1]
      rcases hM2 with ⟨_, b2⟩ | ⟨p, p1, p2, _⟩
      · rw [(show (0 : Int32) = nI 0 from rfl), b2]; exact ⟨r, r1, r2⟩
      · obtain ⟨i, i1, i2⟩ := a1 p p1
        exact absurd (p2 i i1) i2
    · have q4' : F_Sc_restThatServes (nI m) S = some (nI q) := q4
      rw [q4', b1_s, if_neg (show ¬ nI q = -1 by rw [show (-1 : Int32) = zI (-1) from rfl, nI_z, eq_zI (by omega) (by omega) (by decide) (by decide)]; omega)]
      rcases hM2 with ⟨b1, _⟩ | ⟨p, p1, p2, p3, p4⟩
      · obtain ⟨i, i1, i2⟩ := b1 q q1
        exact absurd (q2 i i1) i2
      · have : p = q := by
          rcases Nat.lt_trichotomy p q with u | u | u
          · obtain ⟨i, i1, i2⟩ := q3 p u
            exact absurd (p2 i i1) i2
          · exact u
          · obtain ⟨i, i1, i2⟩ := p3 q u
            exact absurd (q2 i i1) i2
        subst this
        rw [(show (0 : Int32) = nI 0 from rfl), p4, show (1000 : Int32) = nI 1000 from rfl, pk_mul, nI_add]
        exact ⟨_, rfl, rfl⟩
theorem mesh_ok {S M O : Sto} (h : Rl S M) (x : Int32) : ∃ k O' b M', F_l_mesh x S O = some (k, O') ∧ F_m_mesh x M = some (b, M') ∧ gi M' 1001 = k ∧ (k = 0 → al O' 2000 (Int32.toNatClampNeg 0) = b.toInt64) ∧ Rl S M' := by
  obtain ⟨t, f, Z, c, i, h1, h2, h3, hC, hM⟩ := h
  by_cases hx : ∃ k, 2 ≤ k ∧ k ≤ 999 ∧ x = nI k
  · obtain ⟨k, k1, k2, rfl⟩ := hx
    obtain ⟨r, r1, r2⟩ := mesh_lp (Z := Z) h2 hC.sc (hM.cd 0).sc k2 (k - 1) FU FU 2 (by omega) (by rw [FU_v]; omega) (by rw [FU_v]; omega) (by decide)
    refine ⟨0, oW O r.toInt64, r, si M 1001 0, ?_, ?_, rfl, fun _ => rfl, t, f, Z, c, i, h1, h2, h3, hC, hM.cd 0⟩
    · unfold F_l_mesh F_w_mesh
      rw [(show (2 : Int32) = nI 2 from rfl), if_neg (by rw [lt_nI (by omega) (by decide)]; omega), show (999 : Int32) = nI 999 from rfl, if_pos (nI_le k2 (by decide)), r1, b1_s, su_l]
    · unfold F_m_mesh
      rw [i2l_nI (by omega), (show (2 : Int64) = lN 2 from rfl), (show (999 : Int64) = lN 999 from rfl), isIn_y k1 k2 (by decide), b1_s, if_neg I1_0]
      exact r2
  · have eC : F_w_mesh x S = some (.inr 0) := by
      unfold F_w_mesh F_w_mesh_12
      rcases I_cases x with q | ⟨k, hk, rfl⟩
      · rw [if_pos (by rw [(show (2 : Int32) = nI 2 from rfl), neg_lt q (by decide)]; trivial)]
      · by_cases w : k < 2
        · rw [if_pos (by rw [(show (2 : Int32) = nI 2 from rfl), lt_nI hk (by decide)]; exact w)]
        · rw [if_neg (by rw [(show (2 : Int32) = nI 2 from rfl), lt_nI hk (by decide)]; exact w), if_neg]
          rw [show (999 : Int32) = nI 999 from rfl, le_nI hk (by decide)]
          exact fun r => hx ⟨k, by omega, r, rfl⟩
    refine ⟨1, O, 0, si (si M 1001 0) 1001 1, ?_, ?_, rfl, fun e => absurd e (by decide), t, f, Z, c, i, h1, h2, h3, hC, (hM.cd 0).cd 1⟩
    · unfold F_l_mesh
      rw [eC, b1_s, su_r]
      rfl
    · unfold F_m_mesh
      rw [(show (2 : Int64) = lN 2 from rfl), (show (999 : Int64) = lN 999 from rfl), isIn_n (by decide) (by decide), b1_s, if_pos rfl]
      · rfl
      · rintro ⟨k, k1, k2, k3⟩
        rw [in_wide (by omega)] at k3
        exact hx ⟨k, k1, k2, k3⟩
