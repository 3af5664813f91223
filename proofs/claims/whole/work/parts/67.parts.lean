/-! ===== parts of a number ===== -/
def Lb (m : Nat) : Nat := if m = 0 then 2 else 2 * m + 1
def Wb : Nat → Nat
  | 0 => 1
  | m + 1 => Wb m * Lb m
theorem Wb_pos : ∀ m, 1 ≤ Wb m
  | 0 => Nat.le_refl _
  | m + 1 => Nat.mul_pos (Wb_pos m) (by unfold Lb; split <;> omega)
theorem Wb_mono : ∀ d m, Wb m ≤ Wb (m + d)
  | 0, m => Nat.le_refl _
  | d + 1, m => Nat.le_trans (Wb_mono d m) (Nat.le_mul_of_pos_right _ (by unfold Lb; split <;> omega))
theorem Wb_9 {m : Nat} (h : Wb m ≤ 1000000000) : m ≤ 9 := by
  refine Nat.not_lt.mp (fun r => ?_)
  have h1 := Wb_mono (m - 10) 10
  rw [show 10 + (m - 10) = m by omega] at h1
  have h2 : Wb 10 = 1309458150 := by decide
  omega
def PS (m : Nat) (fa ti : Nat → Nat) (S : Sto) : Prop := gi S 47 = nI m ∧ ∀ i, i < m → ai S 51 i = nI (fa i) ∧ ai S 52 i = nI (ti i)
def PM (m : Nat) (fa ti : Nat → Nat) (M : Sto) : Prop := gi M 1027 = nI m ∧ ∀ i, i < m → ai M 1020 i = nI (fa i) ∧ ai M 1021 i = nI (ti i)
def put (f : Nat → Nat) (m v : Nat) : Nat → Nat := fun i => if i = m then v else f i
theorem paC {m x t : Nat} {fa ti : Nat → Nat} {S : Sto} (h : PS m fa ti S) (hm : m < 10) (ht : 0 < t) (ht2 : t < 2147483648) : ∃ S', F_Pa_add (nI x) (nI t) S = some ((), S') ∧ Fr [47] [] [51, 52] [] [] S S' ∧ PS (m + 1) (put fa m x) (put ti m t) S' := by
  obtain ⟨h1, h2⟩ := h
  unfold F_Pa_add
  rw [h1, if_neg (nI_nle ht (by omega)), if_neg (nI_pos (by omega)), (show (10 : Int32) = nI 10 from rfl), if_neg (nI_ge hm (by decide)), ck_t (ib_nI hm (by decide)), nI_clamp (by omega), gi_ui, h1, ck_t (ib_nI hm (by decide)), nI_clamp (by omega), gi_ui, gi_ui, h1, (show (1 : Int32) = nI 1 from rfl), nI_add]
  refine ⟨_, rfl, ((Fr.rfl.ui (by decide)).ui (by decide)).si (by decide), rfl, fun i hi => ?_⟩
  show upd (ai S 51) m (nI x) i = nI (if i = m then x else fa i) ∧ upd (ai S 52) m (nI t) i = nI (if i = m then t else ti i)
  rw [upd_at, upd_at]
  by_cases q : i = m
  · rw [if_pos q, if_pos q, if_pos q, if_pos q]; exact ⟨rfl, rfl⟩
  · rw [if_neg q, if_neg q, if_neg q, if_neg q]; exact h2 i (by omega)
theorem paC0 {x : Nat} (S : Sto) : F_Pa_add (nI x) (nI 0) S = some ((), S) := by
  unfold F_Pa_add
  rw [if_pos (by decide)]
/-- a factor taken out as often as it is there, by both -/
theorem in_lp {p m : Nat} {k9 : Int32 → Int32 → Sto → Option (Unit × Sto)} {k9' : Int32 → Int32 → Sto → Option (Unit × Sto)} {fa ti : Nat → Nat} {S : Sto} (hp : 2 ≤ p) (hpb : p < 40000) (hm : m < 10) : ∀ (j n n' l t : Nat) (M : Sto), l ≤ j → j < n → j < n' → 1 ≤ l → l * 2 ^ t ≤ 1000000000 → gi M 1027 = nI m → ai M 1020 m = nI p → ai M 1021 m = nI t → (∀ i, i < m → ai M 1020 i = nI (fa i) ∧ ai M 1021 i = nI (ti i)) →
    ∃ l' t' M', 1 ≤ l' ∧ t ≤ t' ∧ t' < 32 ∧ l = l' * p ^ (t' - t) ∧ ¬ p ∣ l' ∧ F_Pa_take_26 k9 n (nI l) (nI p) (nI t) S = F_Pa_take_49 k9 (nI l') (nI p) (nI t') S ∧ F_m_tellParts_49 k9' n' (nI l) (nI p) M = k9' (nI l') (nI (p + 1)) M' ∧ Fr [1027] [] [1021] [] [] M M' ∧ PM (m + 1) (put fa m p) (put ti m t') M' := by
  intro j
  induction j with
  | zero => intro n n' l t M hl _ _ h1; omega
  | succ j ih =>
    intro n n' l t M hl hn hn' h1 hb hg hf ht hr
    obtain ⟨n, rfl⟩ : ∃ q, n = q + 1 := ⟨n - 1, by omega⟩
    obtain ⟨n', rfl⟩ : ∃ q, n' = q + 1 := ⟨n' - 1, by omega⟩
    have ht32 : t < 30 := by
      refine Nat.not_le.mp (fun r => ?_)
      have h2 : 2 ^ 30 ≤ 2 ^ t := Nat.pow_le_pow_right (by decide) r
      have h3 : 2 ^ t ≤ l * 2 ^ t := Nat.le_mul_of_pos_left _ h1
      omega
    have hlb : l ≤ 1000000000 := Nat.le_trans (Nat.le_mul_of_pos_right _ (Nat.two_pow_pos t)) hb
    have hmod : l % p < p := Nat.mod_lt _ (by omega)
    rw [F_Pa_take_26, F_m_tellParts_49, show (32 : Int32) = nI 32 from rfl, if_neg (nI_ge (by omega) (by decide)), ck_t (nzI_nI (by omega) (by omega)), ck_t (nzI_nI (by omega) (by omega)), rem_nI (by omega) (by omega) (by omega), (show (0 : Int32) = nI 0 from rfl)]
    by_cases q : l % p = 0
    · obtain ⟨c, hc⟩ : p ∣ l := Nat.dvd_of_mod_eq_zero q
      have hcd : l / p = c := by rw [hc]; exact Nat.mul_div_cancel_left c (by omega)
      have hc1 : 1 ≤ c := by
        rcases c with _ | c
        · omega
        · omega
      have hc2 : 2 * c ≤ l := by rw [hc]; exact Nat.mul_le_mul_right c hp
      rw [if_pos (by rw [q]), if_pos (by rw [q]), ck_t (nzI_nI (by omega) (by omega)), ck_t (nzI_nI (by omega) (by omega)), div_nI (by omega) (by omega) (by omega), hg, ck_t (ib_nI hm (by decide)), ck_t (ib_nI hm (by decide)), nI_clamp (by omega), ht, (show (1 : Int32) = nI 1 from rfl), nI_add, hcd]
      obtain ⟨l', t', M', a1, a2, a3, a4, a5, a6, a7, a8, a9⟩ := ih n n' c (t + 1) (ui M 1021 (upd (ai M 1021) m (nI (t + 1)))) (by omega) (by omega) (by omega) hc1 (by
        rw [Nat.pow_succ]
        have : c * (2 ^ t * 2) = 2 * c * 2 ^ t := by rw [Nat.mul_comm (2 ^ t) 2, ← Nat.mul_assoc, Nat.mul_comm c 2]
        rw [this]
        exact Nat.le_trans (Nat.mul_le_mul_right _ hc2) hb) hg hf (by
        show upd (ai M 1021) m (nI (t + 1)) m = _
        rw [upd_at, if_pos rfl]) (fun i hi => by
        refine ⟨(hr i hi).1, ?_⟩
        show upd (ai M 1021) m (nI (t + 1)) i = _
        rw [upd_at, if_neg (by omega)]
        exact (hr i hi).2)
      refine ⟨l', t', M', a1, by omega, a3, ?_, a5, a6, a7, Fr.trans (Fr.rfl.ui (by decide)) a8, a9⟩
      rw [hc, a4, show t' - t = (t' - (t + 1)) + 1 by omega, Nat.pow_succ, Nat.mul_comm p, Nat.mul_assoc]
    · rw [if_neg (by rw [eq_nI (by omega) (by decide)]; exact q), ck_t (nzI_nI (by omega) (by omega)), if_neg (by rw [eq_nI (by omega) (by decide)]; exact q), hg, (show (1 : Int32) = nI 1 from rfl), nI_add]
      unfold F_m_tellParts_85
      rw [(show (1 : Int32) = nI 1 from rfl), nI_add]
      refine ⟨l, t, si M 1027 (nI (m + 1)), h1, Nat.le_refl _, by omega, ?_, fun h => q (Nat.mod_eq_zero_of_dvd h), rfl, rfl, Fr.rfl.si (by decide), rfl, fun i hi => ?_⟩
      · rw [Nat.sub_self, Nat.pow_zero, Nat.mul_one]
      · show ai M 1020 i = nI (if i = m then p else fa i) ∧ ai M 1021 i = nI (if i = m then t else ti i)
        by_cases w : i = m
        · rw [if_pos w, if_pos w, w]; exact ⟨hf, ht⟩
        · rw [if_neg w, if_neg w]; exact hr i (by omega)
/-- what of 2 is told -/
def H2 (x m : Nat) (fa ti : Nat → Nat) : Prop := (∃ h o, x = 2 ^ h * o ∧ o % 2 = 1 ∧ h < 32 ∧ ((0 < h ∧ 0 < m ∧ fa 0 = 2 ∧ ti 0 = h) ∨ (h = 0 ∧ (0 < m → fa 0 ≠ 2)))) ∧ ∀ i, i < m → fa i < 2147483648 ∧ ti i < 64
theorem H2_put {x m : Nat} {fa ti : Nat → Nat} {p t : Nat} (h : H2 x m fa ti) (hp : p ≠ 2) (hpb : p < 2147483648) (ht : t < 64) : H2 x (m + 1) (put fa m p) (put ti m t) := by
  obtain ⟨⟨e, o, e1, e2, e3, e4⟩, e5⟩ := h
  refine ⟨⟨e, o, e1, e2, e3, ?_⟩, fun i hi => ?_⟩
  rotate_left
  · show (if i = m then p else fa i) < _ ∧ (if i = m then t else ti i) < _
    by_cases w : i = m
    · rw [if_pos w, if_pos w]; exact ⟨hpb, ht⟩
    · rw [if_neg w, if_neg w]; exact e5 i (by omega)
  rcases e4 with ⟨g1, g2, g3, g4⟩ | ⟨g1, g2⟩
  · refine Or.inl ⟨g1, by omega, ?_, ?_⟩
    · show (if 0 = m then p else fa 0) = 2
      rw [if_neg (by omega)]; exact g3
    · show (if 0 = m then t else ti 0) = e
      rw [if_neg (by omega)]; exact g4
  · refine Or.inr ⟨g1, fun _ => ?_⟩
    show (if 0 = m then p else fa 0) ≠ 2
    by_cases w : 0 = m
    · rw [if_pos w]; exact hp
    · rw [if_neg w]; exact g2 (by omega)
theorem end_ok {x m l p : Nat} {fa ti : Nat → Nat} {S M : Sto} (hS : PS m fa ti S) (hM : PM m fa ti M) (hx : x ≤ 1000000000) (hl : 1 ≤ l) (hw : l * Wb m ≤ x) (hp : Lb m ≤ p) (hno : ∀ d, 2 ≤ d → d < p → ¬ d ∣ l) (hH : H2 x m fa ti) (h3 : l ≠ 1 → l ≠ 2 ∨ (m = 0 ∧ x = 2)) :
    ∃ m' fa' ti' S', F_Pa_take_72 (nI l) S = some ((), S') ∧ Fr [47] [] [51, 52] [] [] S S' ∧ PS m' fa' ti' S' ∧ m' ≤ 9 ∧ H2 x m' fa' ti' ∧ ((l = 1 ∧ m' = m ∧ fa' = fa ∧ ti' = ti) ∨ (l ≠ 1 ∧ m < 10 ∧ m' = m + 1 ∧ fa' = put fa m l ∧ ti' = put ti m 1)) := by
  have hlb : l ≤ 1000000000 := Nat.le_trans (Nat.le_mul_of_pos_right _ (Wb_pos m)) (Nat.le_trans hw hx)
  unfold F_Pa_take_72 F_Pa_take_84
  by_cases q : l = 1
  · subst q
    rw [if_pos (by decide), (show (0 : Int32) = nI 0 from rfl), paC0, b2_s]
    refine ⟨m, fa, ti, S, rfl, Fr.rfl, hS, Wb_9 (by omega), hH, Or.inl ⟨rfl, rfl, rfl, rfl⟩⟩
  · have hle : p ≤ l := by
      refine Nat.not_lt.mp (fun r => hno l (by omega) r (Nat.dvd_refl l))
    have hW : Wb (m + 1) ≤ 1000000000 := by
      show Wb m * Lb m ≤ _
      rw [Nat.mul_comm]
      exact Nat.le_trans (Nat.mul_le_mul_right _ (Nat.le_trans hp hle)) (Nat.le_trans hw hx)
    have hm9 := Wb_9 hW
    rw [(show (1 : Int32) = nI 1 from rfl), if_neg (by rw [le_nI (by omega) (by decide)]; omega)]
    obtain ⟨S', s1, s2, s3⟩ := paC (x := l) (t := 1) hS (by omega) (by decide) (by decide)
    rw [s1, b2_s]
    refine ⟨m + 1, _, _, S', rfl, s2, s3, hm9, ?_, Or.inr ⟨q, by omega, rfl, rfl, rfl⟩⟩
    rcases h3 q with u | ⟨u1, u2⟩
    · exact H2_put hH u (by omega) (by decide)
    · subst u1
      by_cases v : l = 2
      · refine ⟨⟨1, 1, by rw [u2], rfl, by decide, Or.inl ⟨by decide, by decide, ?_, rfl⟩⟩, fun i hi => ?_⟩
        · show (if 0 = 0 then l else fa 0) = 2
          rw [if_pos rfl]; exact v
        · have : i = 0 := by omega
          subst this
          show (if 0 = 0 then l else fa 0) < _ ∧ (if 0 = 0 then 1 else ti 0) < _
          rw [if_pos rfl, if_pos rfl]; exact ⟨by omega, by decide⟩
      · exact H2_put hH v (by omega) (by decide)
theorem endM {l m : Nat} {fa ti : Nat → Nat} {M : Sto} (hM : PM m fa ti M) (hm : m < 10) : ∃ M', ck (ib (gi M 1027) 10) (ck (ib (gi (ui M 1020 (upd (ai M 1020) (Int32.toNatClampNeg (gi M 1027)) (nI l))) 1027) 10) (some ((), si (ui (ui M 1020 (upd (ai M 1020) (Int32.toNatClampNeg (gi M 1027)) (nI l))) 1021 (upd (ai (ui M 1020 (upd (ai M 1020) (Int32.toNatClampNeg (gi M 1027)) (nI l))) 1021) (Int32.toNatClampNeg (gi (ui M 1020 (upd (ai M 1020) (Int32.toNatClampNeg (gi M 1027)) (nI l))) 1027)) 1)) 1027 (gi (ui (ui M 1020 (upd (ai M 1020) (Int32.toNatClampNeg (gi M 1027)) (nI l))) 1021 (upd (ai (ui M 1020 (upd (ai M 1020) (Int32.toNatClampNeg (gi M 1027)) (nI l))) 1021) (Int32.toNatClampNeg (gi (ui M 1020 (upd (ai M 1020) (Int32.toNatClampNeg (gi M 1027)) (nI l))) 1027)) 1)) 1027 + 1)))) = some ((), M') ∧ Fr [1027] [] [1020, 1021] [] [] M M' ∧ PM (m + 1) (put fa m l) (put ti m 1) M' := by
  obtain ⟨h1, h2⟩ := hM
  rw [h1, nI_clamp (by omega), ck_t (ib_nI hm (by decide)), gi_ui, h1, nI_clamp (by omega), ck_t (ib_nI hm (by decide)), gi_ui, gi_ui, h1, (show (1 : Int32) = nI 1 from rfl), nI_add]
  refine ⟨_, rfl, ((Fr.rfl.ui (by decide)).ui (by decide)).si (by decide), rfl, fun i hi => ?_⟩
  show upd (ai M 1020) m (nI l) i = nI (if i = m then l else fa i) ∧ upd (ai M 1021) m (nI 1) i = nI (if i = m then 1 else ti i)
  rw [upd_at, upd_at]
  by_cases q : i = m
  · rw [if_pos q, if_pos q, if_pos q, if_pos q]; exact ⟨rfl, rfl⟩
  · rw [if_neg q, if_neg q, if_neg q, if_neg q]; exact h2 i (by omega)
def TP (x : Nat) (S M : Sto) (c m : Option (Unit × Sto)) : Prop := ∃ k fa ti S' M', c = some ((), S') ∧ m = some ((), M') ∧ Fr [47] [] [51, 52] [] [] S S' ∧ Fr [1027] [] [1020, 1021] [] [] M M' ∧ PS k fa ti S' ∧ PM k fa ti M' ∧ k ≤ 9 ∧ H2 x k fa ti
/-- both end: the class sees p, the model q -/
theorem tp_end {x m l p q r n n' : Nat} {fa ti : Nat → Nat} {S M : Sto} (hS : PS m fa ti S) (hM : PM m fa ti M) (hx : x ≤ 1000000000) (hl : 1 ≤ l) (hw : l * Wb m ≤ x) (hp : Lb m ≤ r) (hno : ∀ d, 2 ≤ d → d < r → ¬ d ∣ l) (hH : H2 x m fa ti) (h3 : l ≠ 1 → l ≠ 2 ∨ (m = 0 ∧ x = 2)) (hq : l < q * q) (hpq : q ≤ p) (hpb : p < 40000) : TP x S M (F_Pa_take_9 (n + 1) (nI l) (nI p) S) (F_m_tellParts_9 (n' + 1) (nI l) (nI q) M) := by
  have hlb : l ≤ 1000000000 := Nat.le_trans (Nat.le_mul_of_pos_right _ (Wb_pos m)) (Nat.le_trans hw hx)
  have hpp : p * p < 1600000000 := Nat.lt_of_le_of_lt (Nat.mul_le_mul (show p ≤ 39999 by omega) (show p ≤ 39999 by omega)) (by decide)
  have hqp : q * q ≤ p * p := Nat.mul_le_mul hpq hpq
  obtain ⟨m', fa', ti', S', e1, e2, e3, e4, e5, e6⟩ := end_ok hS hM hx hl hw hp hno hH h3
  have eC : F_Pa_take_9 (n + 1) (nI l) (nI p) S = some ((), S') := by
    rw [F_Pa_take_9]
    by_cases u : (31623 : Int32) < nI p
    · rw [if_pos u]; exact e1
    · rw [if_neg u, pk_mul, if_pos (nI_lt (by omega) (by omega))]; exact e1
  have eM : ∃ M', F_m_tellParts_9 (n' + 1) (nI l) (nI q) M = some ((), M') ∧ Fr [1027] [] [1020, 1021] [] [] M M' ∧ PM m' fa' ti' M' := by
    rw [F_m_tellParts_9, i2l_nI (by omega), i2l_nI (by omega), lN_mul, if_pos (by rw [lt_lN (by omega) (by omega)]; exact hq)]
    rcases e6 with ⟨g1, g2, g3, g4⟩ | ⟨g1, g2, g3, g4, g5⟩
    · subst g1 g2 g3 g4
      rw [if_pos (show nI 1 = (1 : Int32) from rfl)]
      exact ⟨M, rfl, Fr.rfl, hM⟩
    · subst g3 g4 g5
      rw [if_neg (by rw [(show (1 : Int32) = nI 1 from rfl), eq_nI (by omega) (by decide)]; exact g1)]
      exact endM hM g2
  obtain ⟨M', f1, f2, f3⟩ := eM
  exact ⟨m', fa', ti', S', M', eC, f1, e2, f2, e3, f3, e4, e5⟩
theorem TP.mv {x : Nat} {S M S1 M1 : Sto} {c m : Option (Unit × Sto)} (h : TP x S1 M1 c m) (h1 : Fr [47] [] [51, 52] [] [] S S1) (h2 : Fr [1027] [] [1020, 1021] [] [] M M1) : TP x S M c m := by
  obtain ⟨k, fa, ti, S', M', a1, a2, a3, a4, a5⟩ := h
  exact ⟨k, fa, ti, S', M', a1, a2, h1.trans a3, h2.trans a4, a5⟩
/-- one factor of both: behind it the class is at its next, the model at the next number -/
theorem tp_one {x m l p nx : Nat} {fa ti : Nat → Nat} {S M : Sto} {k9 k9' : Int32 → Int32 → Sto → Option (Unit × Sto)} (hS : PS m fa ti S) (hM : PM m fa ti M) (hx : x ≤ 1000000000) (hl : 1 ≤ l) (hw : l * Wb m ≤ x) (hp2 : 2 ≤ p) (hp : Lb m ≤ p) (hpb : p < 40000) (hno : ∀ d, 2 ≤ d → d < p → ¬ d ∣ l) (hnx : nx = if p = 2 then 3 else p + 2)
    (hk : ∀ (l' m' : Nat) (fa' ti' : Nat → Nat) (S1 M1 : Sto), PS m' fa' ti' S1 → PM m' fa' ti' M1 → 1 ≤ l' → l' * Wb m' ≤ x → (m' = m ∨ m' = m + 1) → (∀ d, 2 ≤ d → d < p + 1 → ¬ d ∣ l') → ((m' = m ∧ l' = l ∧ fa' = fa ∧ ti' = ti) ∨ ∃ t, 0 < t ∧ t < 32 ∧ m' = m + 1 ∧ l = l' * p ^ t ∧ fa' = put fa m p ∧ ti' = put ti m t) → TP x S1 M1 (k9 (nI l') (nI nx) S1) (k9' (nI l') (nI (p + 1)) M1)) :
    TP x S M (F_Pa_take_26 k9 FU (nI l) (nI p) 0 S) (ck (nzI (nI p)) (if (nI l - nI l / nI p * nI p) = 0 then ck (ib (gi M 1027) 10) (ck (ib (gi (ui M 1020 (upd (ai M 1020) (Int32.toNatClampNeg (gi M 1027)) (nI p))) 1027) 10) (F_m_tellParts_49 k9' FU (nI l) (nI p) (ui (ui M 1020 (upd (ai M 1020) (Int32.toNatClampNeg (gi M 1027)) (nI p))) 1021 (upd (ai (ui M 1020 (upd (ai M 1020) (Int32.toNatClampNeg (gi M 1027)) (nI p))) 1021) (Int32.toNatClampNeg (gi (ui M 1020 (upd (ai M 1020) (Int32.toNatClampNeg (gi M 1027)) (nI p))) 1027)) 0)))) else F_m_tellParts_85 k9' (nI l) (nI p) M)) := by
  have hlb : l ≤ 1000000000 := Nat.le_trans (Nat.le_mul_of_pos_right _ (Wb_pos m)) (Nat.le_trans hw hx)
  have hmod : l % p < p := Nat.mod_lt _ (by omega)
  have e49 : ∀ (l' : Nat) (S1 : Sto), (if nI p = 2 then F_Pa_take_67 k9 (nI l') (nI p) 1 S1 else F_Pa_take_67 k9 (nI l') (nI p) 2 S1) = k9 (nI l') (nI nx) S1 := by
    intro l' S1
    unfold F_Pa_take_67
    rw [hnx]
    by_cases w : p = 2
    · rw [if_pos (by rw [w]; rfl), if_pos w, w]; rfl
    · rw [if_neg (by rw [(show (2 : Int32) = nI 2 from rfl), eq_nI (by omega) (by decide)]; exact w), if_neg w, (show (2 : Int32) = nI 2 from rfl), nI_add]
  rw [ck_t (nzI_nI (by omega) (by omega)), rem_nI (by omega) (by omega) (by omega), show (0 : Int32) = nI 0 from rfl]
  by_cases q : l % p = 0
  · have hple : p ≤ l := Nat.le_of_dvd (by omega) (Nat.dvd_of_mod_eq_zero q)
    have hW : Wb (m + 1) ≤ 1000000000 := by
      show Wb m * Lb m ≤ _
      rw [Nat.mul_comm]
      exact Nat.le_trans (Nat.mul_le_mul_right _ (Nat.le_trans hp hple)) (Nat.le_trans hw hx)
    have hm9 := Wb_9 hW
    rw [if_pos (by rw [q]), hM.1, nI_clamp (by omega), ck_t (ib_nI (by omega) (by decide)), gi_ui, hM.1, nI_clamp (by omega), ck_t (ib_nI (by omega) (by decide))]
    have qM : Fr [1027] [] [1020, 1021] [] [] M (ui (ui M 1020 (upd (ai M 1020) m (nI p))) 1021 (upd (ai (ui M 1020 (upd (ai M 1020) m (nI p))) 1021) m (nI 0))) := (Fr.rfl.ui (by decide)).ui (by decide)
    obtain ⟨l', t', M', a1, a2, a3, a4, a5, a6, a7, a8, a9⟩ := in_lp (k9 := k9) (k9' := k9') (fa := fa) (ti := ti) (S := S) hp2 hpb (by omega : m < 10) l FU FU l 0 (ui (ui M 1020 (upd (ai M 1020) m (nI p))) 1021 (upd (ai (ui M 1020 (upd (ai M 1020) m (nI p))) 1021) m (nI 0))) (Nat.le_refl _) (by rw [FU_v]; omega) (by rw [FU_v]; omega) hl (by rw [Nat.pow_zero, Nat.mul_one]; exact hlb) hM.1 (by
        show upd (ai M 1020) m (nI p) m = _
        rw [upd_at, if_pos rfl]) (by
        show upd (ai M 1021) m (nI 0) m = _
        rw [upd_at, if_pos rfl]) (fun i hi => by
        show upd (ai M 1020) m (nI p) i = _ ∧ upd (ai M 1021) m (nI 0) i = _
        rw [upd_at, upd_at, if_neg (by omega), if_neg (by omega)]
        exact hM.2 i hi)
    rw [Nat.sub_zero] at a4
    have ht0 : 0 < t' := by
      refine Nat.pos_of_ne_zero (fun r => ?_)
      subst r
      rw [Nat.pow_zero, Nat.mul_one] at a4
      subst a4
      exact a5 (Nat.dvd_of_mod_eq_zero q)
    obtain ⟨S', s1, s2, s3⟩ := paC (x := p) (t := t') hS (by omega) ht0 (by omega)
    rw [a6, a7]
    unfold F_Pa_take_49
    rw [s1, b2_s, e49]
    have hpow : p ≤ p ^ t' := by
      obtain ⟨c, rfl⟩ : ∃ c, t' = c + 1 := ⟨t' - 1, by omega⟩
      rw [Nat.pow_succ]
      exact Nat.le_mul_of_pos_left _ (Nat.pow_pos (by omega))
    refine TP.mv (hk l' (m + 1) _ _ S' M' s3 a9 a1 ?_ (Or.inr rfl) (fun d d1 d2 hd => ?_) (Or.inr ⟨t', ht0, a3, rfl, a4, rfl, rfl⟩)) s2 (qM.trans (a8.mono (by decide) (by decide) (by decide) (by decide) (by decide)))
    · show l' * (Wb m * Lb m) ≤ x
      have h1 : l' * (Wb m * Lb m) = (l' * Lb m) * Wb m := by rw [Nat.mul_comm (Wb m), Nat.mul_assoc]
      rw [h1]
      refine Nat.le_trans (Nat.mul_le_mul_right _ ?_) hw
      rw [a4]
      exact Nat.mul_le_mul_left _ (Nat.le_trans hp hpow)
    · by_cases w : d = p
      · rw [w] at hd; exact a5 hd
      · exact hno d d1 (by omega) (by rw [a4]; exact Nat.dvd_trans hd (Nat.dvd_mul_right _ _))
  · rw [if_neg (by rw [eq_nI (by omega) (by decide)]; exact q)]
    obtain ⟨r, hr⟩ : ∃ r, FU = r + 1 := ⟨1099511627775, rfl⟩
    rw [hr, F_Pa_take_26, if_neg (by decide), ck_t (nzI_nI (by omega) (by omega)), rem_nI (by omega) (by omega) (by omega), if_neg (by rw [(show (0 : Int32) = nI 0 from rfl), eq_nI (by omega) (by decide)]; exact q)]
    unfold F_Pa_take_49 F_m_tellParts_85
    rw [paC0, b2_s, e49, (show (1 : Int32) = nI 1 from rfl), nI_add]
    refine hk l m fa ti S M hS hM hl hw (Or.inl rfl) (fun d d1 d2 hd => ?_) (Or.inl ⟨rfl, rfl, rfl, rfl⟩)
    by_cases w : d = p
    · rw [w] at hd; exact q (Nat.mod_eq_zero_of_dvd hd)
    · exact hno d d1 (by omega) hd
theorem Lb_s {m m' p : Nat} (h : Lb m ≤ p) (h3 : 3 ≤ p) (hm : m' = m ∨ m' = m + 1) : Lb m' ≤ p + 2 := by
  unfold Lb at h ⊢
  rcases hm with rfl | rfl
  · omega
  · rw [if_neg (by omega)]
    by_cases w : m = 0
    · omega
    · rw [if_neg w] at h; omega
theorem tp_lp {x : Nat} (hx : x ≤ 1000000000) : ∀ (j n n' l p m : Nat) (fa ti : Nat → Nat) (S M : Sto), 31630 ≤ p + j → 2 * j + 2 < n → 2 * j + 2 < n' → p < 39000 → 3 ≤ p → p % 2 = 1 → PS m fa ti S → PM m fa ti M → 1 ≤ l → l * Wb m ≤ x → Lb m ≤ p → (∀ d, 2 ≤ d → d < p → ¬ d ∣ l) → H2 x m fa ti →
    TP x S M (F_Pa_take_9 n (nI l) (nI p) S) (F_m_tellParts_9 n' (nI l) (nI p) M) := by
  intro j
  induction j with
  | zero =>
    intro n n' l p m fa ti S M hj hn hn' hpb h3 ho hS hM hl hw hL hno hH
    obtain ⟨n, rfl⟩ : ∃ q, n = q + 1 := ⟨n - 1, by omega⟩
    obtain ⟨n', rfl⟩ : ∃ q, n' = q + 1 := ⟨n' - 1, by omega⟩
    have hlb : l ≤ 1000000000 := Nat.le_trans (Nat.le_mul_of_pos_right _ (Wb_pos m)) (Nat.le_trans hw hx)
    have hpp : 31630 * 31630 ≤ p * p := Nat.mul_le_mul (by omega) (by omega)
    exact tp_end hS hM hx hl hw hL hno hH (fun _ => Or.inl (fun h => hno 2 (by decide) (by omega) (by rw [h]; exact Nat.dvd_refl 2))) (by omega) (Nat.le_refl _) (by omega)
  | succ j ih =>
    intro n n' l p m fa ti S M hj hn hn' hpb h3 ho hS hM hl hw hL hno hH
    obtain ⟨n, rfl⟩ : ∃ q, n = q + 1 := ⟨n - 1, by omega⟩
    obtain ⟨n', rfl⟩ : ∃ q, n' = q + 1 := ⟨n' - 1, by omega⟩
    have hlb : l ≤ 1000000000 := Nat.le_trans (Nat.le_mul_of_pos_right _ (Wb_pos m)) (Nat.le_trans hw hx)
    have hpp : p * p < 1600000000 := Nat.lt_of_le_of_lt (Nat.mul_le_mul (show p ≤ 39999 by omega) (show p ≤ 39999 by omega)) (by decide)
    by_cases q : l < p * p
    · exact tp_end hS hM hx hl hw hL hno hH (fun _ => Or.inl (fun h => hno 2 (by decide) (by omega) (by rw [h]; exact Nat.dvd_refl 2))) q (Nat.le_refl _) (by omega)
    · have hp2 : p ≤ 31623 := by
        refine Nat.not_lt.mp (fun r => ?_)
        have : 31624 * 31624 ≤ p * p := Nat.mul_le_mul r r
        omega
      have eC : F_Pa_take_9 (n + 1) (nI l) (nI p) S = F_Pa_take_26 (F_Pa_take_9 n) FU (nI l) (nI p) 0 S := by
        rw [F_Pa_take_9, show (31623 : Int32) = nI 31623 from rfl, if_neg (by rw [lt_nI (by decide) (by omega)]; omega), pk_mul, if_neg (by rw [lt_nI (by omega) (by omega)]; exact q)]
      rw [eC, F_m_tellParts_9, i2l_nI (by omega), i2l_nI (by omega), lN_mul, if_neg (by rw [lt_lN (by omega) (by omega)]; exact q)]
      refine tp_one (nx := p + 2) hS hM hx hl hw (by omega) hL (by omega) hno (by rw [if_neg (by omega)]) (fun l' m' fa' ti' S1 M1 hS1 hM1 hl' hw' hm' hno' hcase => ?_)
      have hlb' : l' ≤ 1000000000 := Nat.le_trans (Nat.le_mul_of_pos_right _ (Wb_pos m')) (Nat.le_trans hw' hx)
      have hL' : Lb m' ≤ p + 2 := Lb_s hL h3 hm'
      have hH' : H2 x m' fa' ti' := by
        rcases hcase with ⟨g1, g2, g3, g4⟩ | ⟨t, g1, g2, g3, g4, g5, g6⟩
        · rw [g1, g3, g4]; exact hH
        · rw [g3, g5, g6]; exact H2_put hH (by omega) (by omega) (by omega)
      have hno2 : ∀ d, 2 ≤ d → d < p + 2 → ¬ d ∣ l' := by
        intro d d1 d2 hd
        by_cases w : d = p + 1
        · exact hno' 2 (by decide) (by omega) (Nat.dvd_trans ⟨(p + 1) / 2, by omega⟩ hd)
        · exact hno' d d1 (by omega) hd
      have h2l : l' ≠ 2 := fun h => hno' 2 (by decide) (by omega) (by rw [h]; exact Nat.dvd_refl 2)
      obtain ⟨n', rfl⟩ : ∃ q, n' = q + 1 := ⟨n' - 1, by omega⟩
      obtain ⟨n, rfl⟩ : ∃ q, n = q + 1 := ⟨n - 1, by omega⟩
      by_cases u : l' < (p + 1) * (p + 1)
      · exact tp_end hS1 hM1 hx hl' hw' hL' hno2 hH' (fun _ => Or.inl h2l) u (by omega) (by omega)
      · have hpp1 : (p + 1) * (p + 1) < 1600000000 := Nat.lt_of_le_of_lt (Nat.mul_le_mul (show p + 1 ≤ 39999 by omega) (show p + 1 ≤ 39999 by omega)) (by decide)
        have hm1 : l' % (p + 1) < p + 1 := Nat.mod_lt _ (by omega)
        have eM : F_m_tellParts_9 (n' + 1) (nI l') (nI (p + 1)) M1 = F_m_tellParts_9 n' (nI l') (nI (p + 2)) M1 := by
          rw [F_m_tellParts_9, i2l_nI (by omega), i2l_nI (by omega), lN_mul, if_neg (by rw [lt_lN (by omega) (by omega)]; exact u), ck_t (nzI_nI (by omega) (by omega)), rem_nI (by omega) (by omega) (by omega), if_neg (by rw [(show (0 : Int32) = nI 0 from rfl), eq_nI (by omega) (by decide)]; exact fun h => hno2 (p + 1) (by omega) (by omega) (Nat.dvd_of_mod_eq_zero h))]
          unfold F_m_tellParts_85
          rw [(show (1 : Int32) = nI 1 from rfl), nI_add]
        rw [eM]
        exact ih (n + 1) n' l' (p + 2) m' fa' ti' S1 M1 (by omega) (by omega) (by omega) (by omega) (by omega) (by omega) hS1 hM1 hl' hw' hL' hno2 hH'
theorem tp_ok {x : Nat} (h1 : 1 ≤ x) (hx : x ≤ 1000000000) (S M : Sto) : TP x S M (F_Pa_take (nI x) S) (F_m_tellParts (nI x) M) := by
  have q1 : Fr [47] [] [51, 52] [] [] S (si S 47 0) := Fr.rfl.si (by decide)
  have q2 : Fr [1027] [] [1020, 1021] [] [] M (si M 1027 0) := Fr.rfl.si (by decide)
  have hS : PS 0 (fun _ => 0) (fun _ => 0) (si S 47 0) := ⟨rfl, fun i hi => absurd hi (Nat.not_lt_zero i)⟩
  have hM : PM 0 (fun _ => 0) (fun _ => 0) (si M 1027 0) := ⟨rfl, fun i hi => absurd hi (Nat.not_lt_zero i)⟩
  unfold F_Pa_take F_m_tellParts
  refine TP.mv ?_ q1 q2
  have hF : FU = 1099511627775 + 1 := rfl
  have eF : FU = 1099511627774 + 1 + 1 := rfl
  have h0 : H2 x 0 (fun _ => 0) (fun _ => 0) ∨ x % 2 = 0 := by
    by_cases q : x % 2 = 0
    · exact Or.inr q
    · exact Or.inl ⟨⟨0, x, by rw [Nat.pow_zero, Nat.one_mul], by omega, by decide, Or.inr ⟨rfl, fun h => absurd h (Nat.not_lt_zero 0)⟩⟩, fun i hi => absurd hi (Nat.not_lt_zero i)⟩
  by_cases q : x < 2 * 2
  · have hc : x = 1 ∨ x = 2 ∨ x = 3 := by omega
    have h2 : x = 2 → F_Pa_take_9 FU (nI x) 2 (si S 47 0) = F_Pa_take_72 (nI 2) (si S 47 0) := by
      intro e
      rw [e, hF, F_Pa_take_9, if_neg (by decide), if_pos (by decide)]
    rcases h0 with h0 | h0
    · have := tp_end (p := 2) (q := 2) (r := 2) (n := 1099511627775) (n' := 1099511627775) hS hM hx h1 (by show x * 1 ≤ x; omega) (by decide) (fun d d1 d2 => by omega) h0 (fun _ => Or.inl (by intro h; rcases h0 with ⟨⟨e, o, e1, e2, e3, e4⟩, _⟩; rcases e4 with ⟨g1, g2, _⟩ | ⟨g1, _⟩; exact absurd g2 (Nat.not_lt_zero 0); rw [g1, Nat.pow_zero, Nat.one_mul] at e1; omega)) q (Nat.le_refl _) (by decide)
      exact this
    · have x2 : x = 2 := by omega
      subst x2
      obtain ⟨S', s1, s2, s3⟩ := paC (x := 2) (t := 1) hS (by decide) (by decide) (by decide)
      obtain ⟨M', m1, m2, m3⟩ := endM (l := 2) hM (by decide)
      refine ⟨1, put (fun _ => 0) 0 2, put (fun _ => 0) 0 1, S', M', ?_, ?_, s2, m2, s3, m3, by decide, ⟨1, 1, rfl, rfl, by decide, Or.inl ⟨by decide, by decide, rfl, rfl⟩⟩, fun i hi => by
        have : i = 0 := by omega
        subst this
        decide⟩
      · rw [h2 rfl]
        unfold F_Pa_take_72 F_Pa_take_84
        rw [if_neg (by decide), (show (1 : Int32) = nI 1 from rfl), s1, b2_s]
      · rw [hF, F_m_tellParts_9, if_pos (by decide), if_neg (by decide)]
        exact m1
  · have eC : F_Pa_take_9 FU (nI x) 2 (si S 47 0) = F_Pa_take_26 (F_Pa_take_9 1099511627775) FU (nI x) (nI 2) 0 (si S 47 0) := by
      rw [show F_Pa_take_9 FU (nI x) 2 (si S 47 0) = F_Pa_take_9 (1099511627775 + 1) (nI x) (nI 2) (si S 47 0) from rfl, F_Pa_take_9, if_neg (by decide), pk_mul, if_neg (by rw [lt_nI (by omega) (by decide)]; exact q)]
    rw [eC, show F_m_tellParts_9 FU (nI x) 2 (si M 1027 0) = F_m_tellParts_9 (1099511627775 + 1) (nI x) (nI 2) (si M 1027 0) from rfl, F_m_tellParts_9, i2l_nI (by omega), i2l_nI (by omega), lN_mul, if_neg (by rw [lt_lN (by omega) (by decide)]; exact q)]
    refine tp_one (nx := 3) hS hM hx h1 (by show x * 1 ≤ x; omega) (by decide) (by decide) (by decide) (fun d d1 d2 => by omega) rfl (fun l' m' fa' ti' S1 M1 hS1 hM1 hl' hw' hm' hno' hcase => ?_)
    have hL' : Lb m' ≤ 3 := by rcases hm' with rfl | rfl <;> decide
    refine tp_lp hx 31630 1099511627775 1099511627775 l' 3 m' fa' ti' S1 M1 (by decide) (by decide) (by decide) (by decide) (by decide) (by decide) hS1 hM1 hl' hw' hL' hno' ?_
    rcases hcase with ⟨g1, g2, g3, g4⟩ | ⟨t, g1, g1b, g2, g3, g4, g5⟩
    · subst g1 g2 g3 g4
      rcases h0 with h0 | h0
      · exact h0
      · exact absurd (Nat.dvd_of_mod_eq_zero h0) (hno' 2 (by decide) (by decide))
    · subst g2 g4 g5
      refine ⟨⟨t, l', by rw [g3, Nat.mul_comm], ?_, g1b, Or.inl ⟨g1, by decide, rfl, rfl⟩⟩, fun i hi => by
        have : i = 0 := by omega
        subst this
        exact ⟨by decide, Nat.lt_trans g1b (by decide)⟩⟩
      have := hno' 2 (by decide) (by decide)
      rcases Nat.mod_two_eq_zero_or_one l' with u | u
      · exact absurd (Nat.dvd_of_mod_eq_zero u) this
      · exact u
