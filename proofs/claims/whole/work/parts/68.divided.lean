/-! ===== parts, divided ===== -/
theorem paH_y {m k : Nat} {fa ti : Nat → Nat} {S : Sto} (h : PS m fa ti S) (hm : m ≤ 9) (hk : k < m) : F_Pa_has (nI k) S = some 1 := by
  unfold F_Pa_has
  rw [h.1, if_neg (nI_pos (by omega)), if_neg (nI_ge hk (by omega)), (show (10 : Int32) = nI 10 from rfl), if_neg (nI_ge (by omega) (by decide))]
theorem paH_n {m : Nat} {x : Int32} {fa ti : Nat → Nat} {S : Sto} (h : PS m fa ti S) (hm : m ≤ 9) (hx : ¬ ∃ k, k < m ∧ x = nI k) : F_Pa_has x S = some 0 := by
  unfold F_Pa_has
  rw [h.1]
  by_cases q : x < 0
  · rw [if_pos q]
  · rw [if_neg q, if_pos]
    obtain ⟨k, hk, rfl⟩ := nI_of q
    rw [le_nI (by omega) hk]
    exact Nat.not_lt.mp (fun r => hx ⟨k, r, rfl⟩)
theorem paF_y {m k : Nat} {fa ti : Nat → Nat} {S : Sto} (h : PS m fa ti S) (hm : m ≤ 9) (hk : k < m) : F_Pa_factor (nI k) S = some (nI (fa k)) := by
  unfold F_Pa_factor
  rw [paH_y h hm hk, b1_s, if_neg I1_0, ck_t (ib_nI (by omega) (by decide)), nI_clamp (by omega), (h.2 k hk).1]
theorem paT_y {m k : Nat} {fa ti : Nat → Nat} {S : Sto} (h : PS m fa ti S) (hm : m ≤ 9) (hk : k < m) : F_Pa_times (nI k) S = some (nI (ti k)) := by
  unfold F_Pa_times
  rw [paH_y h hm hk, b1_s, if_neg I1_0, ck_t (ib_nI (by omega) (by decide)), nI_clamp (by omega), (h.2 k hk).2]
theorem parts_ok {S M O : Sto} (h : Rl S M) (x y : Int32) (w : Bool) : ∃ k S' O' b M', F_l_parts x y (bI w) S O = some (k, S', O') ∧ F_m_parts x y (bI w) M = some (b, M') ∧ gi M' 1001 = k ∧ (k = 0 → al O' 2000 (Int32.toNatClampNeg 0) = b.toInt64) ∧ Rl S' M' := by
  obtain ⟨t, f, Z, c, i, h1, h2, h3, hC, hM⟩ := h
  by_cases hx : isDv x
  · obtain ⟨v, v1, v2, rfl⟩ := hx
    obtain ⟨m, fa, ti, S', M', a1, a2, a3, a4, a5, a6, a7, a8⟩ := tp_ok v1 v2 S (si M 1001 0)
    have hC' := RC_fq hC a3 (by decide) (by decide) (by decide)
    have hM' := RM_fq (hM.cd 0) a4 (by decide) (by decide) (by decide) (by decide)
    have cd : gi M' 1001 = 0 := by rw [a4.gi _ (by decide)]; rfl
    have fin : ∀ r, F_w_parts (nI v) y (bI w) S = some (.inl r, S') → F_m_parts (nI v) y (bI w) M = some (r, M') → ∃ k S' O' b M', F_l_parts (nI v) y (bI w) S O = some (k, S', O') ∧ F_m_parts (nI v) y (bI w) M = some (b, M') ∧ gi M' 1001 = k ∧ (k = 0 → al O' 2000 (Int32.toNatClampNeg 0) = b.toInt64) ∧ Rl S' M' := by
      intro r r1 r2
      refine ⟨0, S', oW O r.toInt64, r, M', ?_, r2, cd, fun _ => rfl, t, f, Z, c, i, h1, h2, h3, hC', hM'⟩
      unfold F_l_parts
      rw [r1, b2_s, su_l]
    by_cases hy : y = -1
    · refine fin (nI m) ?_ ?_
      · unfold F_w_parts
        rw [wdv_y v1 v2, b1_s, if_neg I1_0, a1, b2_s, if_pos hy, a5.1]
      · unfold F_m_parts
        rw [msm_y v1 v2, b1_s, if_neg I1_0, a2, b2_s, if_pos hy, a6.1]
    · by_cases hk : ∃ k, k < m ∧ y = nI k
      · obtain ⟨k, k1, rfl⟩ := hk
        refine fin (if w then nI (ti k) else nI (fa k)) ?_ ?_
        · unfold F_w_parts
          rw [wdv_y v1 v2, b1_s, if_neg I1_0, a1, b2_s, if_neg hy, paH_y a5 a7 k1, b1_s, if_neg I1_0, paF_y a5 a7 k1, paT_y a5 a7 k1, b1_s, b1_s]
          cases w
          · rw [if_pos (show bI false = 0 from rfl), if_neg (by decide)]
          · rw [if_neg (show ¬ bI true = 0 by decide), if_pos rfl]
        · unfold F_m_parts
          rw [msm_y v1 v2, b1_s, if_neg I1_0, a2, b2_s, if_neg hy, a6.1, isNet_y k1 (by omega), b1_s, if_neg I1_0, ck_t (ib_nI (by omega) (by decide)), ck_t (ib_nI (by omega) (by decide)), nI_clamp (by omega), (a6.2 k k1).1, (a6.2 k k1).2]
          cases w
          · rw [if_pos (show bI false = 0 from rfl), if_neg (by decide)]
          · rw [if_neg (show ¬ bI true = 0 by decide), if_pos rfl]
      · refine ⟨1, S', O, 0, si M' 1001 1, ?_, ?_, rfl, fun e => absurd e (by decide), t, f, Z, c, i, h1, h2, h3, hC', hM'.cd 1⟩
        · unfold F_l_parts F_w_parts
          rw [wdv_y v1 v2, b1_s, if_neg I1_0, a1, b2_s, if_neg hy, paH_n a5 a7 hk, b1_s, if_pos rfl, b2_s, su_r]
          rfl
        · unfold F_m_parts
          rw [msm_y v1 v2, b1_s, if_neg I1_0, a2, b2_s, if_neg hy, a6.1, isNet_n (by omega) hk, b1_s, if_pos rfl]
          rfl
  · refine ⟨2, S, O, 0, si (si M 1001 0) 1001 2, ?_, ?_, rfl, fun e => absurd e (by decide), t, f, Z, c, i, h1, h2, h3, hC, (hM.cd 0).cd 2⟩
    · unfold F_l_parts F_w_parts
      rw [wdv_n hx, b1_s, if_pos rfl, b2_s, su_r]
      rfl
    · unfold F_m_parts
      rw [msm_n hx, b1_s, if_pos rfl]
      rfl
/-! what the powers add up to, and how many divide: one value of both -/
def pwr (f : Nat) : Nat → Int64 → Int64
  | 0, a => a
  | j + 1, a => pwr f j (a * (nI f).toInt64 + 1)
def adU (fa ti : Nat → Nat) : Nat → Int64
  | 0 => 1
  | i + 1 => adU fa ti i * pwr (fa i) (ti i) 1
def dvU (ti : Nat → Nat) : Nat → Int64
  | 0 => 1
  | i + 1 => dvU ti i * (nI (ti i + 1)).toInt64
theorem au18 {m i : Nat} {fa ti : Nat → Nat} {S : Sto} {k4 : Int64 → Int32 → Sto → Option Int64} (h : PS m fa ti S) (hm : m ≤ 9) (hi : i < m) (ht : ti i < 64) {x : Int64} : ∀ (j n k : Nat) (a : Int64), k + j = ti i → j < n → F_Pa_addedUp_18 k4 n x (nI i) a (nI k) S = k4 (x * pwr (fa i) j a) (nI (i + 1)) S := by
  intro j
  induction j with
  | zero =>
    intro n k a hk hn
    obtain ⟨n, rfl⟩ : ∃ q, n = q + 1 := ⟨n - 1, by omega⟩
    rw [F_Pa_addedUp_18, paT_y h hm hi, b1_s, if_pos (nI_le (by omega) (by omega)), (show (1 : Int32) = nI 1 from rfl), nI_add]
    rfl
  | succ j ih =>
    intro n k a hk hn
    obtain ⟨n, rfl⟩ : ∃ q, n = q + 1 := ⟨n - 1, by omega⟩
    rw [F_Pa_addedUp_18, paT_y h hm hi, b1_s, if_neg (nI_ge (by omega) (by omega)), paF_y h hm hi, b1_s, (show (1 : Int32) = nI 1 from rfl), nI_add, ih n (k + 1) _ (by omega) (by omega)]
    rfl
theorem au4 {m : Nat} {fa ti : Nat → Nat} {S : Sto} (h : PS m fa ti S) (hm : m ≤ 9) (ht : ∀ i, i < m → ti i < 64) : ∀ (j n i : Nat), i + j = m → j < n → F_Pa_addedUp_4 n (adU fa ti i) (nI i) S = some (adU fa ti m) := by
  intro j
  induction j with
  | zero =>
    intro n i hi hn
    obtain ⟨n, rfl⟩ : ∃ q, n = q + 1 := ⟨n - 1, by omega⟩
    have : i = m := by omega
    subst this
    rw [F_Pa_addedUp_4, h.1, if_pos (nI_le (by omega) (by omega))]
  | succ j ih =>
    intro n i hi hn
    obtain ⟨n, rfl⟩ : ∃ q, n = q + 1 := ⟨n - 1, by omega⟩
    have hti := ht i (by omega)
    rw [F_Pa_addedUp_4, h.1, if_neg (nI_ge (by omega) (by omega)), (show (0 : Int32) = nI 0 from rfl), au18 h hm (by omega) hti (ti i) FU 0 1 (by omega) (by rw [FU_v]; omega)]
    exact ih n (i + 1) (by omega) (by omega)
theorem dv4 {m : Nat} {fa ti : Nat → Nat} {S : Sto} (h : PS m fa ti S) (hm : m ≤ 9) : ∀ (j n i : Nat), i + j = m → j < n → F_Pa_dividers_4 n (dvU ti i) (nI i) S = some (dvU ti m) := by
  intro j
  induction j with
  | zero =>
    intro n i hi hn
    obtain ⟨n, rfl⟩ : ∃ q, n = q + 1 := ⟨n - 1, by omega⟩
    have : i = m := by omega
    subst this
    rw [F_Pa_dividers_4, h.1, if_pos (nI_le (by omega) (by omega))]
  | succ j ih =>
    intro n i hi hn
    obtain ⟨n, rfl⟩ : ∃ q, n = q + 1 := ⟨n - 1, by omega⟩
    rw [F_Pa_dividers_4, h.1, if_neg (nI_ge (by omega) (by omega)), paT_y h hm (by omega), b1_s, (show (1 : Int32) = nI 1 from rfl), nI_add, nI_add]
    exact ih n (i + 1) (by omega) (by omega)
theorem md47 {m i : Nat} {fa ti : Nat → Nat} {M : Sto} {k32 : Int32 → Int32 → Int64 → Int64 → Int32 → Sto → Option (Int64 × Sto)} (h : PM m fa ti M) (hm : m ≤ 9) (hi : i < m) (ht : ti i < 64) {u v : Int32} {x y : Int64} : ∀ (j n k : Nat) (a : Int64), k + j = ti i → j < n → F_m_divided_47 k32 n u v x y (nI i) a (nI k) M = k32 u v (x * (nI (ti i + 1)).toInt64) (y * pwr (fa i) j a) (nI (i + 1)) M := by
  obtain ⟨h1, h2⟩ := h
  intro j
  induction j with
  | zero =>
    intro n k a hk hn
    obtain ⟨n, rfl⟩ : ∃ q, n = q + 1 := ⟨n - 1, by omega⟩
    rw [F_m_divided_47, ck_t (ib_nI (by omega) (by decide)), nI_clamp (by omega), (h2 i hi).2, if_pos (nI_le (by omega) (by omega)), ck_t (ib_nI (by omega) (by decide)), (show (1 : Int32) = nI 1 from rfl), nI_add, nI_add]
    rfl
  | succ j ih =>
    intro n k a hk hn
    obtain ⟨n, rfl⟩ : ∃ q, n = q + 1 := ⟨n - 1, by omega⟩
    rw [F_m_divided_47, ck_t (ib_nI (by omega) (by decide)), nI_clamp (by omega), (h2 i hi).2, if_neg (nI_ge (by omega) (by omega)), ck_t (ib_nI (by omega) (by decide)), (h2 i hi).1, show nI k + (1 : Int32) = nI (k + 1) from nI_add k 1]
    exact ih n (k + 1) _ (by omega) (by omega)
theorem md32 {m : Nat} {fa ti : Nat → Nat} {M : Sto} (h : PM m fa ti M) (hm : m ≤ 9) (ht : ∀ i, i < m → ti i < 64) {x u : Int32} : ∀ (j n i : Nat), i + j = m → j < n → F_m_divided_32 n x u (dvU ti i) (adU fa ti i) (nI i) M = F_m_divided_119 FU x u (dvU ti m) (adU fa ti m - x.toInt64) 0 x M := by
  intro j
  induction j with
  | zero =>
    intro n i hi hn
    obtain ⟨n, rfl⟩ : ∃ q, n = q + 1 := ⟨n - 1, by omega⟩
    have : i = m := by omega
    subst this
    rw [F_m_divided_32, h.1, if_pos (nI_le (by omega) (by omega))]
  | succ j ih =>
    intro n i hi hn
    obtain ⟨n, rfl⟩ : ∃ q, n = q + 1 := ⟨n - 1, by omega⟩
    have hti := ht i (by omega)
    rw [F_m_divided_32, h.1, if_neg (nI_ge (by omega) (by omega)), (show (0 : Int32) = nI 0 from rfl), md47 h hm (by omega) hti (ti i) FU 0 1 (by omega) (by rw [FU_v]; omega)]
    exact ih n (i + 1) (by omega) (by omega)
theorem md119 {o : Nat} (ho : o % 2 = 1) {x u : Int32} {d s : Int64} {M : Sto} : ∀ (j n k : Nat), j < n → 2 ^ j * o < 2147483648 → F_m_divided_119 n x u d s (nI k) (nI (2 ^ j * o)) M = F_m_divided_119 1 x u d s (nI (k + j)) (nI o) M := by
  intro j
  induction j with
  | zero =>
    intro n k hn hb
    obtain ⟨n, rfl⟩ : ∃ q, n = q + 1 := ⟨n - 1, by omega⟩
    rw [Nat.pow_zero, Nat.one_mul] at hb ⊢
    have e : ¬ (nI o - nI o / 2 * 2) = 0 := by
      rw [(show (2 : Int32) = nI 2 from rfl), rem_nI hb (by decide) (by decide), (show (0 : Int32) = nI 0 from rfl), eq_nI (by omega) (by decide)]
      omega
    rw [F_m_divided_119, F_m_divided_119, if_neg e, if_neg e]
    rfl
  | succ j ih =>
    intro n k hn hb
    obtain ⟨n, rfl⟩ : ∃ q, n = q + 1 := ⟨n - 1, by omega⟩
    have e2 : 2 ^ (j + 1) * o = 2 * (2 ^ j * o) := by rw [Nat.pow_succ, Nat.mul_comm (2 ^ j) 2, Nat.mul_assoc]
    rw [e2] at hb ⊢
    have e : (nI (2 * (2 ^ j * o)) - nI (2 * (2 ^ j * o)) / 2 * 2) = 0 := by
      rw [(show (2 : Int32) = nI 2 from rfl), rem_nI hb (by decide) (by decide), Nat.mul_mod_right]
      rfl
    have e3 : nI (2 * (2 ^ j * o)) / 2 = nI (2 ^ j * o) := by
      rw [(show (2 : Int32) = nI 2 from rfl), div_nI hb (by decide) (by decide), Nat.mul_div_cancel_left _ (by decide)]
    rw [F_m_divided_119, if_pos e, e3, show nI k + (1 : Int32) = nI (k + 1) from nI_add k 1, ih n (k + 1) (by omega) (by omega), show k + 1 + j = k + (j + 1) by omega]
theorem half_ok {x m : Nat} {fa ti : Nat → Nat} {S : Sto} (h : PS m fa ti S) (hm : m ≤ 9) (hf : ∀ i, i < m → fa i < 2147483648) {e : Nat} (hc : (0 < e ∧ 0 < m ∧ fa 0 = 2 ∧ ti 0 = e) ∨ (e = 0 ∧ (0 < m → fa 0 ≠ 2))) : F_Pa_halvings S = some (nI e) := by
  unfold F_Pa_halvings
  rcases hc with ⟨g1, g2, g3, g4⟩ | ⟨g1, g2⟩
  · rw [(show (0 : Int32) = nI 0 from rfl), paF_y h hm g2, b1_s, g3, if_pos (show nI 2 = (2 : Int32) from rfl), paT_y h hm g2, b1_s, g4]
  · subst g1
    by_cases w : 0 < m
    · rw [(show (0 : Int32) = nI 0 from rfl), paF_y h hm w, b1_s, if_neg (by rw [(show (2 : Int32) = nI 2 from rfl), eq_nI (hf 0 w) (by decide)]; exact g2 w)]
    · unfold F_Pa_factor
      rw [paH_n h hm (by rintro ⟨k, k1, _⟩; omega), b1_s, if_pos rfl, b1_s, if_neg (by decide)]
      rfl
theorem divided_ok {S M O : Sto} (h : Rl S M) (x y : Int32) : ∃ k S' O' b M', F_l_divided x y S O = some (k, S', O') ∧ F_m_divided x y M = some (b, M') ∧ gi M' 1001 = k ∧ (k = 0 → al O' 2000 (Int32.toNatClampNeg 0) = b) ∧ Rl S' M' := by
  obtain ⟨t, f, Z, c, i, h1, h2, h3, hC, hM⟩ := h
  by_cases hx : isDv x
  · obtain ⟨v, v1, v2, rfl⟩ := hx
    obtain ⟨m, fa, ti, S', M', a1, a2, a3, a4, a5, a6, a7, ⟨e, o, e1, e2, e3, e4⟩, a9⟩ := tp_ok v1 v2 S (si M 1001 0)
    have hC' := RC_fq hC a3 (by decide) (by decide) (by decide)
    have hM' := RM_fq (hM.cd 0) a4 (by decide) (by decide) (by decide) (by decide)
    have cd : gi M' 1001 = 0 := by rw [a4.gi _ (by decide)]; rfl
    have fin : ∀ r, F_w_divided (nI v) y S = some (.inl r, S') → F_m_divided (nI v) y M = some (r, M') → ∃ k S' O' b M', F_l_divided (nI v) y S O = some (k, S', O') ∧ F_m_divided (nI v) y M = some (b, M') ∧ gi M' 1001 = k ∧ (k = 0 → al O' 2000 (Int32.toNatClampNeg 0) = b) ∧ Rl S' M' := by
      intro r r1 r2
      refine ⟨0, S', oW O r, r, M', ?_, r2, cd, fun _ => rfl, t, f, Z, c, i, h1, h2, h3, hC', hM'⟩
      unfold F_l_divided
      rw [r1, b2_s, su_l]
    have hti : ∀ i, i < m → ti i < 64 := fun i hi => (a9 i hi).2
    have hA : F_Pa_addedUp S' = some (adU fa ti m) := au4 a5 a7 hti m FU 0 (Nat.zero_add _) (by rw [FU_v]; omega)
    have hD : F_Pa_dividers S' = some (dvU ti m) := dv4 a5 a7 m FU 0 (Nat.zero_add _) (by rw [FU_v]; omega)
    have hH : F_Pa_halvings S' = some (nI e) := half_ok (x := v) a5 a7 (fun i hi => (a9 i hi).1) e4
    have hob : o ≤ v := by rw [e1]; exact Nat.le_mul_of_pos_left _ (Nat.two_pow_pos e)
    have hs : nI v >>> (nI e &&& 31) = nI o := by
      rw [pk_shrN (by omega) (nI e &&& 31) e (s_l e e3), e1, Nat.mul_div_cancel_left _ (Nat.two_pow_pos e)]
    have hM1 : F_m_divided (nI v) y M = F_m_divided_119 1 (nI v) y (dvU ti m) (adU fa ti m - (nI v).toInt64) (nI e) (nI o) M' := by
      unfold F_m_divided
      rw [msm_y v1 v2, b1_s, if_neg I1_0, a2, b2_s]
      refine (md32 a6 a7 hti m FU 0 (Nat.zero_add _) (by rw [FU_v]; omega)).trans ?_
      have h5 := md119 (o := o) e2 (x := nI v) (u := y) (d := dvU ti m) (s := adU fa ti m - (nI v).toInt64) (M := M') e FU 0 (by rw [FU_v]; omega) (by rw [← e1]; omega)
      rw [← e1, Nat.zero_add] at h5
      exact h5
    have hodd : ¬ (nI o - nI o / 2 * 2) = 0 := by
      rw [(show (2 : Int32) = nI 2 from rfl), rem_nI (by omega) (by decide) (by decide), (show (0 : Int32) = nI 0 from rfl), eq_nI (by omega) (by decide)]
      omega
    have hW : F_w_divided (nI v) y S = (if y = 0 then b1 (F_Pa_dividers S') (fun r8 => some ((.inl r8) , S')) else (if y = 1 then some ((.inl (adU fa ti m - (Int32.toInt64 (nI v)))) , S') else (if y = 2 then if (Int32.toInt64 (nI v)) ≤ (adU fa ti m - (Int32.toInt64 (nI v))) then if (adU fa ti m - (Int32.toInt64 (nI v))) = (Int32.toInt64 (nI v)) then some ((.inl 1) , S') else some ((.inl 2) , S') else some ((.inl 0) , S') else (if y = 3 then b1 (F_Pa_halvings S') (fun r10 => some ((.inl (Int32.toInt64 r10)) , S')) else (if y = 4 then b1 (F_Pa_halvings S') (fun r12 => some ((.inl (Int32.toInt64 ((nI v) >>> (r12 &&& 31)))) , S')) else (some ((.inr 1) , S'))))))) := by
      unfold F_w_divided
      rw [wdv_y v1 v2, b1_s, if_neg I1_0, a1, b2_s, hA, b1_s]
    have hM2 : F_m_divided (nI v) y M = (if y = 0 then some (dvU ti m, M') else (if y = 1 then some (adU fa ti m - (nI v).toInt64, M') else (if y = 2 then if (Int32.toInt64 (nI v)) ≤ (adU fa ti m - (nI v).toInt64) then if (adU fa ti m - (nI v).toInt64) = (Int32.toInt64 (nI v)) then some (1, M') else some (2, M') else some (0, M') else (if y = 3 then some ((Int32.toInt64 (nI e)) , M') else (if y = 4 then some ((Int32.toInt64 (nI o)) , M') else (b2 (F_m_fail 1 M') (fun r1 M3 => some ((Int32.toInt64 r1) , M3)))))))) := by
      rw [hM1, F_m_divided_119, if_neg hodd]
    by_cases y0 : y = 0
    · refine fin (dvU ti m) ?_ ?_
      · rw [hW, if_pos y0, hD, b1_s]
      · rw [hM2, if_pos y0]
    by_cases y1 : y = 1
    · refine fin (adU fa ti m - (nI v).toInt64) ?_ ?_
      · rw [hW, if_neg y0, if_pos y1]
      · rw [hM2, if_neg y0, if_pos y1]
    by_cases y2 : y = 2
    · rw [if_neg y0, if_neg y1, if_pos y2] at hW hM2
      by_cases u : (Int32.toInt64 (nI v)) ≤ (adU fa ti m - (nI v).toInt64)
      · rw [if_pos u] at hW hM2
        by_cases u2 : (adU fa ti m - (nI v).toInt64) = (Int32.toInt64 (nI v))
        · rw [if_pos u2] at hW hM2
          exact fin 1 hW hM2
        · rw [if_neg u2] at hW hM2
          exact fin 2 hW hM2
      · rw [if_neg u] at hW hM2
        exact fin 0 hW hM2
    by_cases y3 : y = 3
    · refine fin (nI e).toInt64 ?_ ?_
      · rw [hW, if_neg y0, if_neg y1, if_neg y2, if_pos y3, hH, b1_s]
      · rw [hM2, if_neg y0, if_neg y1, if_neg y2, if_pos y3]
    by_cases y4 : y = 4
    · refine fin (nI o).toInt64 ?_ ?_
      · rw [hW, if_neg y0, if_neg y1, if_neg y2, if_neg y3, if_pos y4, hH, b1_s, hs]
      · rw [hM2, if_neg y0, if_neg y1, if_neg y2, if_neg y3, if_pos y4]
    · refine ⟨1, S', O, 0, si M' 1001 1, ?_, ?_, rfl, fun e => absurd e (by decide), t, f, Z, c, i, h1, h2, h3, hC', hM'.cd 1⟩
      · unfold F_l_divided
        rw [hW, if_neg y0, if_neg y1, if_neg y2, if_neg y3, if_neg y4, b2_s, su_r]
        rfl
      · rw [hM2, if_neg y0, if_neg y1, if_neg y2, if_neg y3, if_neg y4]
        rfl
  · refine ⟨2, S, O, 0, si (si M 1001 0) 1001 2, ?_, ?_, rfl, fun e => absurd e (by decide), t, f, Z, c, i, h1, h2, h3, hC, (hM.cd 0).cd 2⟩
    · unfold F_l_divided F_w_divided
      rw [wdv_n hx, b1_s, if_pos rfl, b2_s, su_r]
      rfl
    · unfold F_m_divided
      rw [msm_n hx, b1_s, if_pos rfl]
      rfl
