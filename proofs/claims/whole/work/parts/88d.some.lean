/-! ===== some, just, haul, most ===== -/
section
variable {Z : Zt} {c : Scn} {S M : Sto} {lo hi set k : Nat}
def Cts (Z : Zt) (lo hi : Nat) (S : Sto) : Prop := ∀ q, q < 2 ^ zN Z → al S 26 q = lN (nC Z q lo hi)
theorem me_lp (hz : ZOk Z) (h1 : 1 ≤ lo) (hl : lo ≤ 1000000000000) (hh : hi ≤ 1000000000000) : ∀ (j n q : Nat) (S : Sto), q + j = 2 ^ zN Z → j < n → ShC Z S → (∀ p, p < q → al S 26 p = lN (nC Z p lo hi)) → ∃ S', F_Sh_measure_3 n (lN lo) (lN hi) (nI q) S = some ((), S') ∧ Fr [] [] [] [26] [] S S' ∧ Cts Z lo hi S' := by
  have p := p2N hz
  intro j
  induction j with
  | zero =>
    intro n q S hq hn hS h
    obtain ⟨n, rfl⟩ : ∃ q, n = q + 1 := ⟨n - 1, by omega⟩
    have : q = 2 ^ zN Z := by omega
    subst this
    refine ⟨S, ?_, Fr.rfl, h⟩
    rw [F_Sh_measure_3, hS.1, if_pos (nI_le (Nat.le_refl _) (by omega))]
  | succ j ih =>
    intro n q S hq hn hS h
    obtain ⟨n, rfl⟩ : ∃ q, n = q + 1 := ⟨n - 1, by omega⟩
    obtain ⟨g, r, f, t, e1, e2, e3, e4, hsh⟩ := hS.2 q (by omega)
    have fT : Fr [] [] [] [26] [] S (ul S 26 (vp_updL (al S 26) q (lN (nC Z q lo hi)))) := Fr.rfl.ul (by decide)
    obtain ⟨U, u1, u2, u3⟩ := ih n (q + 1) _ (by omega) (by omega) (ShC_q hS fT (by decide) (by decide)) (fun p hp => by
      show vp_updL (al S 26) q (lN (nC Z q lo hi)) p = _
      rw [updL_at]
      by_cases w : p = q
      · rw [if_pos w, w]
      · rw [if_neg w]; exact h p (by omega))
    refine ⟨U, ?_, fT.trans u2, u3⟩
    rw [F_Sh_measure_3, hS.1, if_neg (nI_ge (by omega) (by omega)), show (256 : Int32) = nI 256 from rfl, if_neg (nI_ge (by omega) (by decide)), amount_ok hz hS.1 (by omega) ⟨e1, e2, e3, e4⟩ hsh h1 hl hh, b1_s, ck_t (ib_nI (by omega) (by omega)), nI_clamp (by omega), show nI q + (1 : Int32) = nI (q + 1) from nI_add q 1]
    exact u1
theorem me_ok (hz : ZOk Z) (hS : ShC Z S) (h1 : 1 ≤ lo) (hl : lo ≤ 1000000000000) (hh : hi ≤ 1000000000000) : ∃ S', F_Sh_measure (lN lo) (lN hi) S = some ((), S') ∧ Fr [] [] [] [26] [] S S' ∧ Cts Z lo hi S' := by
  unfold F_Sh_measure
  exact me_lp hz h1 hl hh (2 ^ zN Z) FU 0 S (Nat.zero_add _) (by rw [FU_v]; have := p2N hz; omega) hS (fun p hp => absurd hp (Nat.not_lt_zero p))
theorem sub_i {q : Nat} (hq : q < 256) : (nI q &&& nI set = nI q) = (q &&& set = q) := by
  have : q &&& set ≤ q := Nat.and_le_left
  rw [fa_and, eq_nI (by omega) (by omega)]
theorem bs_lp (hset : set < 2 ^ zN Z) (hz : ZOk Z) (hc : Cts Z lo hi S) : ∀ (j n q : Nat), q + j = set + 1 → 1 ≤ q → j < n → F_Sh_bySome_5 n (nI set) (zL (((hi + 1 - lo : Nat) : Int) - sm (trm Z lo hi set 0) q)) (nI q) S = some (zL (sv Z lo hi set)) := by
  have p := p2N hz
  intro j
  induction j with
  | zero =>
    intro n q hq q1 hn
    obtain ⟨n, rfl⟩ : ∃ q, n = q + 1 := ⟨n - 1, by omega⟩
    have : q = set + 1 := by omega
    subst this
    rw [F_Sh_bySome_5, if_pos (nI_lt (by omega) (by omega))]
    rfl
  | succ j ih =>
    intro n q hq q1 hn
    obtain ⟨n, rfl⟩ : ∃ q, n = q + 1 := ⟨n - 1, by omega⟩
    have e := ih n (q + 1) (by omega) (by omega) (by omega)
    rw [sm_s] at e
    rw [F_Sh_bySome_5, if_neg (by rw [lt_nI (by omega) (by omega)]; omega), show (256 : Int32) = nI 256 from rfl, if_neg (nI_ge (by omega) (by decide))]
    have n1 : nI q + (1 : Int32) = nI (q + 1) := nI_add q 1
    by_cases w : q &&& set = q
    · have hpc : pc q ≤ 8 := pc256 (by omega)
      rw [if_pos (by rw [sub_i (by omega)]; exact w), bitCountI_ok q (by omega), b1_s]
      have ep : nI (pc q) &&& (1 : Int32) = nI (pc q % 2) := by
        rw [show (1 : Int32) = nI 1 from rfl, fa_and, Nat.and_one_is_mod]
      have et : trm Z lo hi set 0 q = if pc q % 2 = 0 then ((nC Z q lo hi : Nat) : Int) else -((nC Z q lo hi : Nat) : Int) := by
        unfold trm
        rw [if_pos ⟨w, Nat.zero_le _⟩, Nat.sub_zero, show chs (pc q) 0 = 1 from rfl, Nat.one_mul]
      rw [et] at e
      have hq26 : al S 26 (Int32.toNatClampNeg (nI q)) = lN (nC Z q lo hi) := by rw [nI_clamp (by omega)]; exact hc q (by omega)
      rw [ep, hq26, ck_t (ib_nI (by omega) (by omega)), ck_t (ib_nI (by omega) (by omega))]
      unfold F_Sh_bySome_58 F_Sh_bySome_60
      rw [n1]
      by_cases u : pc q % 2 = 0
      · rw [if_pos u] at e
        rw [u, if_neg (by decide), lN_z (nC Z q lo hi), neg_zL, add_zL]
        rw [← e]
        exact congrArg (fun x => F_Sh_bySome_5 n (nI set) (zL x) (nI (q + 1)) S) (by omega)
      · rw [if_neg u] at e
        have u1 : pc q % 2 = 1 := by omega
        rw [u1, if_pos (show nI 1 = 1 from rfl), lN_z (nC Z q lo hi), add_zL]
        rw [← e]
        exact congrArg (fun x => F_Sh_bySome_5 n (nI set) (zL x) (nI (q + 1)) S) (by omega)
    · unfold trm at e
      rw [if_neg (fun z => w z.1), Int.add_zero] at e
      rw [if_neg (by rw [sub_i (by omega)]; exact w)]
      unfold F_Sh_bySome_60
      rw [n1]
      exact e
theorem bs_ok (hset : set < 2 ^ zN Z) (hz : ZOk Z) (hc : Cts Z lo hi S) : F_Sh_bySome (nI set) S = some (zL (sv Z lo hi set)) := by
  have e := bs_lp hset hz hc set FU 1 (by omega) (by omega) (by rw [FU_v]; have := p2N hz; omega)
  have e0 : ((hi + 1 - lo : Nat) : Int) - sm (trm Z lo hi set 0) 1 = 0 := by
    have t0 : trm Z lo hi set 0 0 = ((hi + 1 - lo : Nat) : Int) := by
      unfold trm
      rw [if_pos ⟨Nat.zero_and _, Nat.zero_le _⟩, Nat.sub_zero, pc_z, if_pos rfl, nC_0]
      show ((1 * _ : Nat) : Int) = _
      rw [Nat.one_mul]
    rw [sm_s, t0]
    show _ - (0 + _) = (0 : Int)
    omega
  rw [e0] at e
  exact e
theorem par_i {m : Nat} (hm : k ≤ m) : (nI m - nI k) &&& (1 : Int32) = nI ((m - k) % 2) := by
  rw [sub_nI hm, show (1 : Int32) = nI 1 from rfl, fa_and, Nat.and_one_is_mod]
theorem bj_lp (hset : set < 2 ^ zN Z) (hz : ZOk Z) (hk : k ≤ 8) (hc : Cts Z lo hi S) : ∀ (j n q : Nat), q + j = set + 1 → j < n → F_Sh_byJust_5 n (nI set) (nI k) (zL (sm (trm Z lo hi set k) q)) (nI q) S = some (zL (sm (trm Z lo hi set k) (set + 1))) := by
  have p := p2N hz
  intro j
  induction j with
  | zero =>
    intro n q hq hn
    obtain ⟨n, rfl⟩ : ∃ q, n = q + 1 := ⟨n - 1, by omega⟩
    have : q = set + 1 := by omega
    subst this
    rw [F_Sh_byJust_5, if_pos (nI_lt (by omega) (by omega))]
  | succ j ih =>
    intro n q hq hn
    obtain ⟨n, rfl⟩ : ∃ q, n = q + 1 := ⟨n - 1, by omega⟩
    have e := ih n (q + 1) (by omega) (by omega)
    rw [sm_s] at e
    have n1 : nI q + (1 : Int32) = nI (q + 1) := nI_add q 1
    have hpc : pc q ≤ 8 := pc256 (by omega)
    rw [F_Sh_byJust_5, if_neg (by rw [lt_nI (by omega) (by omega)]; omega), show (256 : Int32) = nI 256 from rfl, if_neg (nI_ge (by omega) (by decide)), bitCountI_ok q (by omega), b1_s]
    by_cases w : q &&& set = q
    · rw [if_pos (by rw [sub_i (by omega)]; exact w)]
      by_cases v : k ≤ pc q
      · have hq26 : al S 26 (Int32.toNatClampNeg (nI q)) = lN (nC Z q lo hi) := by rw [nI_clamp (by omega)]; exact hc q (by omega)
        unfold trm at e
        rw [if_pos ⟨w, v⟩] at e
        rw [if_neg (by rw [lt_nI (by omega) (by omega)]; omega), choC (pc q) (by omega) k (by omega) v, b1_s, ck_t (ib_nI (by omega) (by omega)), par_i v, hq26, lN_mul]
        unfold F_Sh_byJust_75 F_Sh_byJust_77
        rw [n1]
        by_cases u : (pc q - k) % 2 = 0
        · rw [if_pos u] at e
          rw [u, if_pos (show nI 0 = 0 from rfl), lN_z (chs _ _ * _), add_zL]
          exact e
        · rw [if_neg u] at e
          have u1 : (pc q - k) % 2 = 1 := by omega
          rw [u1, if_neg (by decide), lN_z (chs _ _ * _), neg_zL, add_zL]
          exact e
      · unfold trm at e
        rw [if_neg (fun z => v z.2), Int.add_zero] at e
        rw [if_pos (nI_lt (by omega) (by omega))]
        unfold F_Sh_byJust_77
        rw [n1]
        exact e
    · unfold trm at e
      rw [if_neg (fun z => w z.1), Int.add_zero] at e
      rw [if_neg (by rw [sub_i (by omega)]; exact w)]
      unfold F_Sh_byJust_77
      rw [n1]
      exact e
theorem bj_ok (hset : set < 2 ^ zN Z) (hz : ZOk Z) (hk : k ≤ 8) (hc : Cts Z lo hi S) : F_Sh_byJust (nI set) (nI k) S = some (zL (sm (trm Z lo hi set k) (set + 1))) := by
  unfold F_Sh_byJust
  exact bj_lp hset hz hk hc (set + 1) FU 0 (Nat.zero_add _) (by rw [FU_v]; have := p2N hz; omega)
theorem jo_lp (hset : set < 2 ^ zN Z) (hz : ZOk Z) (hc : SnOk Z c.1) (hk : k ≤ 8) : ∀ (j n q : Nat) (M : Sto), q + j = set + 1 → j < n → ZM Z M → ScM c M → ∃ M', F_m_justOf_5 n (nI set) (nI k) (zL (sm (trm Z (sLo c) (sHi c) set k) q)) (nI q) M = some (zL (sm (trm Z (sLo c) (sHi c) set k) (set + 1)), M') ∧ oF M M' := by
  have p := p2N hz
  intro j
  induction j with
  | zero =>
    intro n q M hq hn hZ hM
    obtain ⟨n, rfl⟩ : ∃ q, n = q + 1 := ⟨n - 1, by omega⟩
    have : q = set + 1 := by omega
    subst this
    refine ⟨M, ?_, Fr.rfl⟩
    rw [F_m_justOf_5, if_pos (nI_lt (by omega) (by omega))]
  | succ j ih =>
    intro n q M hq hn hZ hM
    obtain ⟨n, rfl⟩ : ∃ q, n = q + 1 := ⟨n - 1, by omega⟩
    have n1 : nI q + (1 : Int32) = nI (q + 1) := nI_add q 1
    have hpc : pc q ≤ 8 := pc256 (by omega)
    rw [F_m_justOf_5, if_neg (by rw [lt_nI (by omega) (by omega)]; omega), i2l_nI (by omega), bitsOf_ok (by omega), b1_s]
    by_cases w : q &&& set = q
    · rw [if_pos ((andn_0 _ _).mpr (by rw [sub_i (by omega)]; exact w))]
      by_cases v : k ≤ pc q
      · obtain ⟨T, t1, t2⟩ := allOf_ok (s := q) hz hc hZ hM (by omega)
        obtain ⟨U, e, u2⟩ := ih n (q + 1) T (by omega) (by omega) (ZM_o hZ t2) (ScM_fr hM t2 (by decide) (by decide) (by decide) (by decide))
        rw [sm_s] at e
        unfold trm at e
        rw [if_pos ⟨w, v⟩] at e
        refine ⟨U, ?_, t2.trans u2⟩
        have pr : (nI (pc q) - nI k) - (nI (pc q) - nI k) / 2 * 2 = nI ((pc q - k) % 2) := by
          rw [sub_nI v, show (2 : Int32) = nI 2 from rfl, rem_nI (by omega) (by decide) (by decide)]
        rw [if_pos (by rw [le_nI (by omega) (by omega)]; exact v), choM (pc q) (by omega) k (by omega) v, b1_s, t1, b2_s, pr, lN_mul]
        unfold F_m_justOf_70 F_m_justOf_72
        rw [n1]
        by_cases u : (pc q - k) % 2 = 0
        · rw [if_pos u] at e
          rw [u, if_pos (show nI 0 = 0 from rfl), lN_z (chs _ _ * _), add_zL]
          exact e
        · rw [if_neg u] at e
          have u1 : (pc q - k) % 2 = 1 := by omega
          rw [u1, if_neg (by decide), lN_z (chs _ _ * _), neg_zL, add_zL]
          exact e
      · obtain ⟨U, e, u2⟩ := ih n (q + 1) M (by omega) (by omega) hZ hM
        rw [sm_s] at e
        unfold trm at e
        rw [if_neg (fun z => v z.2), Int.add_zero] at e
        refine ⟨U, ?_, u2⟩
        rw [if_neg (by rw [le_nI (by omega) (by omega)]; exact v)]
        unfold F_m_justOf_72
        rw [n1]
        exact e
    · obtain ⟨U, e, u2⟩ := ih n (q + 1) M (by omega) (by omega) hZ hM
      rw [sm_s] at e
      unfold trm at e
      rw [if_neg (fun z => w z.1), Int.add_zero] at e
      refine ⟨U, ?_, u2⟩
      rw [if_neg (fun z => w (by rw [← sub_i (set := set) (show q < 256 by omega)]; exact (andn_0 _ _).mp z))]
      unfold F_m_justOf_72
      rw [n1]
      exact e
theorem jo_ok (hset : set < 2 ^ zN Z) (hz : ZOk Z) (hc : SnOk Z c.1) (hk : k ≤ 8) (hZ : ZM Z M) (hM : ScM c M) : ∃ M', F_m_justOf (nI set) (nI k) M = some (zL (sm (trm Z (sLo c) (sHi c) set k) (set + 1)), M') ∧ oF M M' := by
  unfold F_m_justOf
  exact jo_lp hset hz hc hk (set + 1) FU 0 M (Nat.zero_add _) (by rw [FU_v]; have := p2N hz; omega) hZ hM
theorem so_ok (hset : set < 2 ^ zN Z) (hz : ZOk Z) (hc : SnOk Z c.1) (hZ : ZM Z M) (hM : ScM c M) : ∃ M', F_m_someOf (nI set) M = some (zL (sv Z (sLo c) (sHi c) set), M') ∧ oF M M' := by
  have c2 : sLo c ≤ sHi c := hc.2.1
  have c3 : sHi c ≤ 1000000000000 := hc.2.2.1
  obtain ⟨T, t1, t2⟩ := jo_ok (k := 0) hset hz hc (by omega) hZ hM
  refine ⟨T, ?_, t2⟩
  unfold F_m_someOf
  rw [show (0 : Int32) = nI 0 from rfl, t1, b2_s, hM.1, hM.2.1, sub_lN c2, show lN (sHi c - sLo c) + (1 : Int64) = lN (sHi c - sLo c + 1) from lN_add _ 1, lN_z (sHi c - sLo c + 1), sub_zL]
  unfold sv
  rw [show sHi c - sLo c + 1 = sHi c + 1 - sLo c by omega]
end
