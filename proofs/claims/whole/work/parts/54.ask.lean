/-! ===== fault, count, net, pond, nets ===== -/
theorem bitC_ok {x p : Nat} (hx : x < 18446744073709551616) (hp : p < 64) : F_w_bit (lN x) (nI p) = some (nI (x / 2 ^ p % 2)) := by
  unfold F_w_bit
  rw [wb_bit hx hp, l2i_lN]
theorem bitM_ok {x p : Nat} (hx : x < 4611686018427387904) (hp : p < 64) : ((lN x) >>> ((nI p).toInt64 &&& 63)) &&& (1 : Int64) = lN (x / 2 ^ p % 2) := by
  have h1 : (lN p).toBitVec.smod 64 = BitVec.ofNat 64 p := wb_sm p hp
  rw [wb_c p hp, pf_shr (d := p) (by rw [h1, BitVec.toNat_ofNat]; omega) hx, wb_a1 (Nat.lt_of_le_of_lt (Nat.div_le_self _ _) (by omega))]
theorem tb_eq (x p : Nat) : (x / 2 ^ p % 2 = 1) = (x.testBit p = true) := by
  rw [Nat.testBit_eq_decide_div_mod_eq]
  simp
theorem tb_z (x p : Nat) : (x / 2 ^ p % 2 = 0) = (x.testBit p = false) := by
  rw [Nat.testBit_eq_decide_div_mod_eq]
  simp
def Sc0 (c : Scn) (S : Sto) : Prop := gl S 26 = lN (sLo c) ∧ gl S 27 = lN (sHi c) ∧ gi S 28 = nI (sLw c) ∧ gl S 29 = lN (sPd c) ∧ gi S 30 = sYs c ∧
  gi S 31 = nI (sA c) ∧ (∀ i, i < sA c → Dif (ai S 28 i) (al S 29 i) (al S 30 i) (sAc c i) (nxt c i)) ∧
  gi S 32 = nI (sW c) ∧ (∀ i, i < sW c → al S 31 i = lN (sWn c i) ∧ ai S 32 i = bI (sWb c i)) ∧
  gi S 33 = nI (sE c) ∧ (∀ i, i < sE c → al S 33 i = lN (sEn c i)) ∧ (∀ i, i < 3 → ai S 34 i = sSt c i)
theorem Sc0_of {c : Scn} {S : Sto} (h : ScC 0 c S) : Sc0 c S := h
theorem Sc0_to {c : Scn} {S : Sto} (h : Sc0 c S) : ScC 0 c S := h
section Parts
variable {t : Tp} {f : Int32} {Z : Zt} {c : Scn} {i : Option Scn} {S M : Sto}
theorem RC.tp (h : RC t f Z c i S) : TpC t S := h.1
theorem RC.fa (h : RC t f Z c i S) : gi S 8 = f := h.2.1
theorem RC.z (h : RC t f Z c i S) : ZC Z S := h.2.2.1
theorem RC.sc (h : RC t f Z c i S) : Sc0 c S := h.2.2.2.1
theorem RC.im (h : RC t f Z c i S) : gi S 50 = bI i.isSome := h.2.2.2.2.1
theorem RC.ik (h : RC t f Z c i S) : ∀ k, i = some k → ScC 1 k S := h.2.2.2.2.2.1
theorem RC.gr (h : RC t f Z c i S) : (gr S 48 = 54 ∧ gr S 49 = 55) ∨ (gr S 48 = 55 ∧ gr S 49 = 54) := h.2.2.2.2.2.2
theorem RM.tp (h : RM t f Z c i M) : TpM t M := h.1
theorem RM.fa (h : RM t f Z c i M) : gi M 1012 = f := h.2.1
theorem RM.z (h : RM t f Z c i M) : ZM Z M := h.2.2.1
theorem RM.sc (h : RM t f Z c i M) : ScM c M := h.2.2.2.1
theorem RM.im (h : RM t f Z c i M) : gi M 1029 = bI i.isSome := h.2.2.2.2.1
theorem RM.ik (h : RM t f Z c i M) : ∀ k, i = some k → ScN k M := h.2.2.2.2.2
theorem RM.cd (h : RM t f Z c i M) (v : Int32) : RM t f Z c i (si M 1001 v) := RM_q h (Fr.rfl.si (by decide))
end Parts
theorem QM_cd (M : Sto) (v : Int32) : QM M (si M 1001 v) := Fr.rfl.si (by decide)
theorem out_at (O : Sto) (v : Int64) : al (ul O 2000 (vp_updL (al O 2000) (Int32.toNatClampNeg 0) v)) 2000 (Int32.toNatClampNeg 0) = v := rfl
theorem fault_ok {S M : Sto} (h : Rl S M) : ∃ r M', F_w_fault S = some r ∧ F_m_fault M = some (r, M') ∧ Rl S M' := by
  obtain ⟨t, f, Z, c, i, h1, h2, h3, hC, hM⟩ := h
  refine ⟨f, si M 1001 0, ?_, ?_, t, f, Z, c, i, h1, h2, h3, hC, hM.cd 0⟩
  · unfold F_w_fault; rw [hC.fa]
  · unfold F_m_fault; rw [(hM.cd 0).fa]
/-! count -/
theorem wT_lp {W : Nat} {wb : Nat → Bool} {S : Sto} (hW : gi S 32 = nI W) (hb : ∀ i, i < W → ai S 32 i = bI (wb i)) (h12 : W ≤ 12) (v : Bool) : ∀ (j n k : Nat), k + j = W → j < n → F_Sc_wishesThat_4 n (bI v) (nI (fb_ct (fun i => wb i == v) k)) (nI k) S = some (nI (fb_ct (fun i => wb i == v) W)) := by
  intro j
  induction j with
  | zero =>
    intro n k hk hn
    obtain ⟨n, rfl⟩ : ∃ q, n = q + 1 := ⟨n - 1, by omega⟩
    have : k = W := by omega
    subst this
    rw [F_Sc_wishesThat_4, hW, if_pos (nI_le (Nat.le_refl _) (by omega))]
  | succ j ih =>
    intro n k hk hn
    obtain ⟨n, rfl⟩ : ∃ q, n = q + 1 := ⟨n - 1, by omega⟩
    have e := ih n (k + 1) (by omega) (by omega)
    rw [fb_ct_succ] at e
    rw [F_Sc_wishesThat_4, hW, if_neg (nI_ge (by omega) (by omega)), (show (12 : Int32) = nI 12 from rfl), if_neg (nI_ge (by omega) (by omega)), ck_t (ib_nI (by omega) (by omega)), nI_clamp (by omega), hb k (by omega)]
    unfold F_Sc_wishesThat_31
    rw [(show (1 : Int32) = nI 1 from rfl), nI_add, nI_add]
    by_cases q : wb k = v
    · rw [if_pos (by rw [bI_inj]; exact q)]
      rw [show (wb k == v) = true from beq_iff_eq.mpr q] at e
      exact e
    · rw [if_neg (by rw [bI_inj]; exact q)]
      rw [show (wb k == v) = false from beq_eq_false_iff_ne.mpr q] at e
      exact e
theorem wT_ok {W : Nat} {wb : Nat → Bool} {S : Sto} (hW : gi S 32 = nI W) (hb : ∀ i, i < W → ai S 32 i = bI (wb i)) (h12 : W ≤ 12) (v : Bool) : F_Sc_wishesThat (bI v) S = some (nI (fb_ct (fun i => wb i == v) W)) := by
  unfold F_Sc_wishesThat
  exact wT_lp hW hb h12 v W FU 0 (Nat.zero_add W) (by rw [FU_v]; omega)
theorem ct_tr (wb : Nat → Bool) (W : Nat) : fb_ct (fun i => wb i == true) W = fb_ct wb W := fb_ct_cong (fun k _ => by cases wb k <;> rfl)
theorem ct_fa (wb : Nat → Bool) (W : Nat) : fb_ct (fun i => wb i == false) W = W - fb_ct wb W := by
  have h1 := fb_ct_not wb W
  have h2 : fb_ct (fun i => wb i == false) W = fb_ct (fun k => !wb k) W := fb_ct_cong (fun k _ => by cases wb k <;> rfl)
  omega
theorem ref_ok {S : Sto} {s : Nat → Int32} (h : ∀ i, i < 3 → ai S 34 i = s i) (k : Nat) (hk : k < 3) : F_Sc_refusals (nI k) S = some (s k) := by
  unfold F_Sc_refusals
  rw [if_neg (nI_pos (by omega)), (show (3 : Int32) = nI 3 from rfl), if_neg (nI_ge hk (by decide)), ck_t (ib_nI hk (by decide)), nI_clamp (by omega), h k hk]
theorem count_ok {S M O : Sto} (h : Rl S M) (x : Int32) : ∃ k O' b M', F_l_count x S O = some (k, O') ∧ F_m_count x M = some (b, M') ∧ gi M' 1001 = k ∧ (k = 0 → al O' 2000 (Int32.toNatClampNeg 0) = b) ∧ Rl S M' := by
  obtain ⟨t, f, Z, c, i, h1, h2, h3, hC, hM⟩ := h
  have hq : ∀ v, Rl S (si M 1001 v) := fun v => ⟨t, f, Z, c, i, h1, h2, h3, hC, hM.cd v⟩
  obtain ⟨c1, c2, c3, c4, c5, c6, c7, c8, c9, c10, c11, c12⟩ := hC.sc
  obtain ⟨m1, m2, m3, m4, m5, m6, m7, m8, m9, m10⟩ := (hM.cd 0).sc
  have zc := hC.z
  have zm := (hM.cd 0).z
  have hW : sW c ≤ 12 := h2.2.2.2.1
  have hpd : sPd c < 4611686018427387904 := by
    have q1 : sPd c < 2 ^ zP Z := h2.1.2.2.2.2
    exact Nat.lt_of_lt_of_le q1 (Nat.le_trans (Nat.pow_le_pow_right (by decide) h1.2.2.1.2) (by decide))
  have e0 : gi (si M 1001 0) 1001 = 0 := rfl
  have lst : ∀ v, (F_w_count x S = some (.inl v) ∧ F_m_count x M = some (v, si M 1001 0)) → ∃ k O' b M', F_l_count x S O = some (k, O') ∧ F_m_count x M = some (b, M') ∧ gi M' 1001 = k ∧ (k = 0 → al O' 2000 (Int32.toNatClampNeg 0) = b) ∧ Rl S M' := by
    intro v hv
    refine ⟨0, _, v, _, ?_, hv.2, rfl, fun _ => out_at O v, hq 0⟩
    unfold F_l_count
    rw [hv.1, b1_s, su_l]
  by_cases n0 : x = 0
  · refine lst (lN (sLo c)) ⟨?_, ?_⟩
    · unfold F_w_count
      rw [if_pos n0]
      rw [c1]
    · unfold F_m_count
      rw [if_pos n0]
      rw [m1]
  by_cases n1 : x = 1
  · refine lst (lN (sHi c)) ⟨?_, ?_⟩
    · unfold F_w_count
      rw [if_neg n0, if_pos n1]
      rw [c2]
    · unfold F_m_count
      rw [if_neg n0, if_pos n1]
      rw [m2]
  by_cases n2 : x = 2
  · refine lst ((nI (zN Z)).toInt64) ⟨?_, ?_⟩
    · unfold F_w_count
      rw [if_neg n0, if_neg n1, if_pos n2]
      rw [zc.1]
    · unfold F_m_count
      rw [if_neg n0, if_neg n1, if_pos n2]
      rw [show ai (si M 1001 0) 1003 (Int32.toNatClampNeg 0) = nI (zN Z) from zm.1]
  by_cases n3 : x = 3
  · refine lst ((nI (sLw c)).toInt64) ⟨?_, ?_⟩
    · unfold F_w_count
      rw [if_neg n0, if_neg n1, if_neg n2, if_pos n3]
      rw [c3]
    · unfold F_m_count
      rw [if_neg n0, if_neg n1, if_neg n2, if_pos n3]
      rw [m3]
  by_cases n4 : x = 4
  · refine lst ((nI (zP Z)).toInt64) ⟨?_, ?_⟩
    · unfold F_w_count
      rw [if_neg n0, if_neg n1, if_neg n2, if_neg n3, if_pos n4]
      rw [zc.2.2.1]
    · unfold F_m_count
      rw [if_neg n0, if_neg n1, if_neg n2, if_neg n3, if_pos n4]
      rw [show ai (si M 1001 0) 1003 (Int32.toNatClampNeg 1) = nI (zP Z) from zm.2.1]
  by_cases n5 : x = 5
  · refine lst ((nI (pc (sPd c))).toInt64) ⟨?_, ?_⟩
    · unfold F_w_count
      rw [if_neg n0, if_neg n1, if_neg n2, if_neg n3, if_neg n4, if_pos n5]
      rw [c4, bitCountJ_ok (by omega), b1_s]
    · unfold F_m_count
      rw [if_neg n0, if_neg n1, if_neg n2, if_neg n3, if_neg n4, if_pos n5]
      rw [m4, bitsOf_ok (by omega), b1_s]
  by_cases n6 : x = 6
  · refine lst ((sYs c).toInt64) ⟨?_, ?_⟩
    · unfold F_w_count
      rw [if_neg n0, if_neg n1, if_neg n2, if_neg n3, if_neg n4, if_neg n5, if_pos n6]
      rw [c5]
    · unfold F_m_count
      rw [if_neg n0, if_neg n1, if_neg n2, if_neg n3, if_neg n4, if_neg n5, if_pos n6]
      rw [m5]
  by_cases n7 : x = 7
  · refine lst ((nI (sA c)).toInt64) ⟨?_, ?_⟩
    · unfold F_w_count
      rw [if_neg n0, if_neg n1, if_neg n2, if_neg n3, if_neg n4, if_neg n5, if_neg n6, if_pos n7]
      rw [c6]
    · unfold F_m_count
      rw [if_neg n0, if_neg n1, if_neg n2, if_neg n3, if_neg n4, if_neg n5, if_neg n6, if_pos n7]
      rw [m6]
  by_cases n8 : x = 8
  · refine lst ((nI (wCt (sWb c) (sW c))).toInt64) ⟨?_, ?_⟩
    · unfold F_w_count
      rw [if_neg n0, if_neg n1, if_neg n2, if_neg n3, if_neg n4, if_neg n5, if_neg n6, if_neg n7, if_pos n8]
      rw [show (1 : Int32) = bI true from rfl, wT_ok c8 (fun i hi => (c9 i hi).2) hW true, b1_s, ct_tr]; rfl
    · unfold F_m_count
      rw [if_neg n0, if_neg n1, if_neg n2, if_neg n3, if_neg n4, if_neg n5, if_neg n6, if_neg n7, if_pos n8]
      rw [m8]
  by_cases n9 : x = 9
  · refine lst ((nI (sW c - wCt (sWb c) (sW c))).toInt64) ⟨?_, ?_⟩
    · unfold F_w_count
      rw [if_neg n0, if_neg n1, if_neg n2, if_neg n3, if_neg n4, if_neg n5, if_neg n6, if_neg n7, if_neg n8, if_pos n9]
      rw [show (0 : Int32) = bI false from rfl, wT_ok c8 (fun i hi => (c9 i hi).2) hW false, b1_s, ct_fa]; rfl
    · unfold F_m_count
      rw [if_neg n0, if_neg n1, if_neg n2, if_neg n3, if_neg n4, if_neg n5, if_neg n6, if_neg n7, if_neg n8, if_pos n9]
      rw [m7, m8, sub_nI (show wCt (sWb c) (sW c) ≤ sW c from fb_ct_le _ _)]
  by_cases n10 : x = 10
  · refine lst ((nI (sE c)).toInt64) ⟨?_, ?_⟩
    · unfold F_w_count
      rw [if_neg n0, if_neg n1, if_neg n2, if_neg n3, if_neg n4, if_neg n5, if_neg n6, if_neg n7, if_neg n8, if_neg n9, if_pos n10]
      rw [c10]
    · unfold F_m_count
      rw [if_neg n0, if_neg n1, if_neg n2, if_neg n3, if_neg n4, if_neg n5, if_neg n6, if_neg n7, if_neg n8, if_neg n9, if_pos n10]
      rw [m9]
  by_cases n11 : x = 11
  · refine lst ((nI t.1).toInt64) ⟨?_, ?_⟩
    · unfold F_w_count
      rw [if_neg n0, if_neg n1, if_neg n2, if_neg n3, if_neg n4, if_neg n5, if_neg n6, if_neg n7, if_neg n8, if_neg n9, if_neg n10, if_pos n11]
      rw [hC.tp.1]
    · unfold F_m_count
      rw [if_neg n0, if_neg n1, if_neg n2, if_neg n3, if_neg n4, if_neg n5, if_neg n6, if_neg n7, if_neg n8, if_neg n9, if_neg n10, if_pos n11]
      rw [(hM.cd 0).tp.1]
  by_cases n12 : x = 12
  · refine lst ((sSt c 0).toInt64) ⟨?_, ?_⟩
    · unfold F_w_count
      rw [if_neg n0, if_neg n1, if_neg n2, if_neg n3, if_neg n4, if_neg n5, if_neg n6, if_neg n7, if_neg n8, if_neg n9, if_neg n10, if_neg n11, if_pos n12]
      rw [show (0 : Int32) = nI 0 from rfl, ref_ok c12 0 (by decide), b1_s]
    · unfold F_m_count
      rw [if_neg n0, if_neg n1, if_neg n2, if_neg n3, if_neg n4, if_neg n5, if_neg n6, if_neg n7, if_neg n8, if_neg n9, if_neg n10, if_neg n11, if_pos n12]
      rw [n12]; unfold F_m_count_162; rw [show (12 : Int32) - 12 = nI 0 from rfl, ck_t (by decide), show ai (si M 1001 0) 1008 (Int32.toNatClampNeg (nI 0)) = sSt c 0 from m10.2.2.2 0 (by decide)]
  by_cases n13 : x = 13
  · refine lst ((sSt c 1).toInt64) ⟨?_, ?_⟩
    · unfold F_w_count
      rw [if_neg n0, if_neg n1, if_neg n2, if_neg n3, if_neg n4, if_neg n5, if_neg n6, if_neg n7, if_neg n8, if_neg n9, if_neg n10, if_neg n11, if_neg n12, if_pos n13]
      rw [show (1 : Int32) = nI 1 from rfl, ref_ok c12 1 (by decide), b1_s]
    · unfold F_m_count
      rw [if_neg n0, if_neg n1, if_neg n2, if_neg n3, if_neg n4, if_neg n5, if_neg n6, if_neg n7, if_neg n8, if_neg n9, if_neg n10, if_neg n11, if_neg n12, if_pos n13]
      rw [n13]; unfold F_m_count_162; rw [show (13 : Int32) - 12 = nI 1 from rfl, ck_t (by decide), show ai (si M 1001 0) 1008 (Int32.toNatClampNeg (nI 1)) = sSt c 1 from m10.2.2.2 1 (by decide)]
  by_cases n14 : x = 14
  · refine lst ((sSt c 2).toInt64) ⟨?_, ?_⟩
    · unfold F_w_count
      rw [if_neg n0, if_neg n1, if_neg n2, if_neg n3, if_neg n4, if_neg n5, if_neg n6, if_neg n7, if_neg n8, if_neg n9, if_neg n10, if_neg n11, if_neg n12, if_neg n13, if_pos n14]
      rw [show (2 : Int32) = nI 2 from rfl, ref_ok c12 2 (by decide), b1_s]
    · unfold F_m_count
      rw [if_neg n0, if_neg n1, if_neg n2, if_neg n3, if_neg n4, if_neg n5, if_neg n6, if_neg n7, if_neg n8, if_neg n9, if_neg n10, if_neg n11, if_neg n12, if_neg n13, if_pos n14]
      rw [n14]; unfold F_m_count_162; rw [show (14 : Int32) - 12 = nI 2 from rfl, ck_t (by decide), show ai (si M 1001 0) 1008 (Int32.toNatClampNeg (nI 2)) = sSt c 2 from m10.2.2.2 2 (by decide)]
  refine ⟨1, O, 0, si (si M 1001 0) 1001 1, ?_, ?_, rfl, fun e => absurd e (by decide), ⟨t, f, Z, c, i, h1, h2, h3, hC, (hM.cd 0).cd 1⟩⟩
  · unfold F_l_count F_w_count
    rw [if_neg n0, if_neg n1, if_neg n2, if_neg n3, if_neg n4, if_neg n5, if_neg n6, if_neg n7, if_neg n8, if_neg n9, if_neg n10, if_neg n11, if_neg n12, if_neg n13, if_neg n14]
    rfl
  · unfold F_m_count
    rw [if_neg n0, if_neg n1, if_neg n2, if_neg n3, if_neg n4, if_neg n5, if_neg n6, if_neg n7, if_neg n8, if_neg n9, if_neg n10, if_neg n11, if_neg n12, if_neg n13, if_neg n14]
    rfl
/-! net, pond -/
theorem isIn_y {k a b : Nat} (h1 : a ≤ k) (h2 : k ≤ b) (hb : b < 9223372036854775808) : F_m_isIn (lN k) (lN a) (lN b) = some 1 := by
  unfold F_m_isIn
  rw [if_neg (by rw [lt_lN (by omega) (by omega)]; omega), if_neg (by rw [lt_lN (by omega) (by omega)]; omega)]
theorem isIn_n {x : Int64} {a b : Nat} (ha : a < 9223372036854775808) (hb : b < 9223372036854775808) (h : ¬ ∃ k, a ≤ k ∧ k ≤ b ∧ x = lN k) : F_m_isIn x (lN a) (lN b) = some 0 := by
  unfold F_m_isIn
  rcases L_cases x with q | ⟨k, hk, rfl⟩
  · rw [if_pos (by rw [neg_ltL q ha]; trivial)]
  · by_cases h1 : k < a
    · rw [if_pos (by rw [lt_lN hk ha]; exact h1)]
    · rw [if_neg (by rw [lt_lN hk ha]; exact h1), if_pos]
      rw [lt_lN hb hk]
      refine Nat.not_le.mp (fun q => h ⟨k, by omega, q, rfl⟩)
theorem isIn_m {x : Int64} {a : Nat} (ha : a < 9223372036854775808) : F_m_isIn x (lN a) (-1) = some 0 := by
  unfold F_m_isIn
  by_cases h : x < lN a
  · rw [if_pos h]
  · rw [if_neg h, if_pos]
    rcases L_cases x with q | ⟨k, hk, rfl⟩
    · rw [neg_ltL q ha] at h; exact absurd trivial h
    · rw [show (-1 : Int64) = zL (-1) from rfl, lN_z, lt_zL (by decide) (by decide) (by omega) (by omega)]
      omega
theorem in_wide {x : Int32} {k : Nat} (hk : k < 2147483648) : (x.toInt64 = lN k) = (x = nI k) := by
  rw [← i2l_nI hk, fa_wide_eq]
theorem isNet_y {k n : Nat} (h : k < n) (hn : n ≤ 256) : F_m_isIn (nI k).toInt64 0 (nI n - 1).toInt64 = some 1 := by
  obtain ⟨m, rfl⟩ : ∃ m, n = m + 1 := ⟨n - 1, by omega⟩
  rw [nI_pred, i2l_nI (by omega), i2l_nI (by omega), (show (0 : Int64) = lN 0 from rfl)]
  exact isIn_y (by omega) (by omega) (by omega)
theorem isNet_n {x : Int32} {n : Nat} (hn : n ≤ 256) (h : ¬ ∃ k, k < n ∧ x = nI k) : F_m_isIn x.toInt64 0 (nI n - 1).toInt64 = some 0 := by
  cases n with
  | zero => rw [show ((nI 0 : Int32) - 1).toInt64 = -1 from by decide, (show (0 : Int64) = lN 0 from rfl), isIn_m (by decide)]
  | succ n =>
    rw [nI_pred, i2l_nI (by omega), (show (0 : Int64) = lN 0 from rfl)]
    refine isIn_n (by decide) (by omega) ?_
    rintro ⟨k, q1, q2, q3⟩
    rw [in_wide (by omega)] at q3
    exact h ⟨k, by omega, q3⟩
theorem has_y {S : Sto} {k n : Nat} (h : gi S 22 = nI n) (hn : n ≤ 8) (hk : k < n) : F_Se_has (nI k) S = some 1 := by
  unfold F_Se_has
  rw [h, if_neg (nI_pos (by omega)), if_neg (nI_ge hk (by omega)), (show (8 : Int32) = nI 8 from rfl), if_neg (nI_ge (by omega) (by decide))]
theorem has_n {S : Sto} {n : Nat} (h : gi S 22 = nI n) (hn : n ≤ 8) {x : Int32} (hx : ¬ ∃ k, k < n ∧ x = nI k) : F_Se_has x S = some 0 := by
  unfold F_Se_has
  rw [h]
  by_cases q : x < 0
  · rw [if_pos q]
  · rw [if_neg q, if_pos]
    obtain ⟨k, hk, rfl⟩ := nI_of q
    rw [le_nI (by omega) hk]
    exact Nat.not_lt.mp (fun r => hx ⟨k, r, rfl⟩)
theorem I1_0 : ¬ (1 : Int32) = 0 := by decide
theorem fromOf_ok {M : Sto} {Z : Zt} (h : ZM Z M) {k : Nat} (hk : k < zN Z) (h8 : zN Z ≤ 8) : F_m_fromOf (nI k) M = some (lN (zF Z k)) := by
  obtain ⟨_, _, _, q, _⟩ := h
  obtain ⟨_, _, _, ⟨v, v1, v2, v3⟩, _⟩ := q k hk
  unfold F_m_fromOf
  rw [nI_clamp (by omega), v2, v3, ck_t (ib_nI (by omega) (by decide))]
  by_cases e : v = 0
  · subst e; rw [if_pos (show nI 0 = (0 : Int32) from rfl), if_pos rfl]; rfl
  · rw [if_neg (nI_ne0 (by omega) (by omega)), if_neg e, ck_t (ib_nI (by omega) (by decide)), i2l_nI (by omega)]
theorem toOf_ok {M : Sto} {Z : Zt} (h : ZM Z M) {k : Nat} (hk : k < zN Z) (h8 : zN Z ≤ 8) : F_m_toOf (nI k) M = some (lN (zT Z k)) := by
  obtain ⟨_, _, _, q, _⟩ := h
  obtain ⟨_, _, _, _, ⟨v, v1, v2, v3⟩⟩ := q k hk
  unfold F_m_toOf
  rw [nI_clamp (by omega), v2, v3, ck_t (ib_nI (by omega) (by decide))]
  by_cases e : v = 0
  · subst e; rw [if_pos (show nI 0 = (0 : Int32) from rfl), if_pos rfl]; rfl
  · rw [if_neg (nI_ne0 (by omega) (by omega)), if_neg e, ck_t (ib_nI (by omega) (by decide)), i2l_nI (by omega)]
theorem net_ok {S M O : Sto} (h : Rl S M) (x y : Int32) : ∃ k O' b M', F_l_net x y S O = some (k, O') ∧ F_m_net x y M = some (b, M') ∧ gi M' 1001 = k ∧ (k = 0 → al O' 2000 (Int32.toNatClampNeg 0) = b) ∧ Rl S M' := by
  obtain ⟨t, f, Z, c, i, h1, h2, h3, hC, hM⟩ := h
  have hq : ∀ v, Rl S (si M 1001 v) := fun v => ⟨t, f, Z, c, i, h1, h2, h3, hC, hM.cd v⟩
  have zc := hC.z
  have zm := (hM.cd 0).z
  have h8 : zN Z ≤ 8 := h1.1
  have e3 : ai (si M 1001 0) 1003 (Int32.toNatClampNeg 0) = nI (zN Z) := zm.1
  have lst : ∀ v, (F_w_net x y S = some (.inl v) ∧ F_m_net x y M = some (v, si M 1001 0)) → ∃ k O' b M', F_l_net x y S O = some (k, O') ∧ F_m_net x y M = some (b, M') ∧ gi M' 1001 = k ∧ (k = 0 → al O' 2000 (Int32.toNatClampNeg 0) = b) ∧ Rl S M' := by
    intro v hv
    refine ⟨0, _, v, _, ?_, hv.2, rfl, fun _ => out_at O v, hq 0⟩
    unfold F_l_net
    rw [hv.1, b1_s, su_l]
  have bad : (F_w_net x y S = some (.inr 1) ∧ F_m_net x y M = some (0, si (si M 1001 0) 1001 1)) → ∃ k O' b M', F_l_net x y S O = some (k, O') ∧ F_m_net x y M = some (b, M') ∧ gi M' 1001 = k ∧ (k = 0 → al O' 2000 (Int32.toNatClampNeg 0) = b) ∧ Rl S M' := by
    intro hv
    refine ⟨1, O, 0, _, ?_, hv.2, rfl, fun e => absurd e (by decide), ⟨t, f, Z, c, i, h1, h2, h3, hC, (hM.cd 0).cd 1⟩⟩
    unfold F_l_net
    rw [hv.1, b1_s, su_r]
    rfl
  by_cases hx : ∃ k, k < zN Z ∧ x = nI k
  · obtain ⟨k, hk, rfl⟩ := hx
    obtain ⟨d1, d2, d3, d4, d5⟩ := zc.2.1 k hk
    obtain ⟨g1, g2, g3, _, _⟩ := zm.2.2.2.1 k hk
    have h1' : (∀ v, F_Se_told (nI k) y S = some v → ¬ y < 0 → y ≤ 4 → F_w_net (nI k) y S = some (.inl v)) := by
      intro v hv a b
      unfold F_w_net
      rw [has_y zc.1 h8 hk, b1_s, if_neg I1_0, if_neg a, if_pos b, hv, b1_s]
    by_cases n0 : y = 0
    · refine lst ((nI (zK Z k)).toInt64) ⟨h1' _ ?_ (by rw [n0]; decide) (by rw [n0]; decide), ?_⟩
      · unfold F_Se_told
        rw [has_y zc.1 h8 hk, b1_s, if_neg I1_0, if_pos n0, ck_t (ib_nI (by omega) (by decide)), nI_clamp (by omega), d1]
      · unfold F_m_net
        rw [e3, isNet_y hk (by omega), b1_s, if_neg I1_0, if_pos n0, ck_t (ib_nI (by omega) (by decide)), nI_clamp (by omega), g1]
    by_cases n1 : y = 1
    · refine lst (lN (zM Z k)) ⟨h1' _ ?_ (by rw [n1]; decide) (by rw [n1]; decide), ?_⟩
      · unfold F_Se_told
        rw [has_y zc.1 h8 hk, b1_s, if_neg I1_0, if_neg n0, if_pos n1, ck_t (ib_nI (by omega) (by decide)), nI_clamp (by omega), d2]
      · unfold F_m_net
        rw [e3, isNet_y hk (by omega), b1_s, if_neg I1_0, if_neg n0, if_pos n1, ck_t (ib_nI (by omega) (by decide)), nI_clamp (by omega), g2]
    by_cases n2 : y = 2
    · refine lst (lN (zR Z k)) ⟨h1' _ ?_ (by rw [n2]; decide) (by rw [n2]; decide), ?_⟩
      · unfold F_Se_told
        rw [has_y zc.1 h8 hk, b1_s, if_neg I1_0, if_neg n0, if_neg n1, if_pos n2, ck_t (ib_nI (by omega) (by decide)), nI_clamp (by omega), d3]
      · unfold F_m_net
        rw [e3, isNet_y hk (by omega), b1_s, if_neg I1_0, if_neg n0, if_neg n1, if_pos n2, ck_t (ib_nI (by omega) (by decide)), nI_clamp (by omega), g3]
    by_cases n3 : y = 3
    · refine lst (lN (zF Z k)) ⟨h1' _ ?_ (by rw [n3]; decide) (by rw [n3]; decide), ?_⟩
      · unfold F_Se_told
        rw [has_y zc.1 h8 hk, b1_s, if_neg I1_0, if_neg n0, if_neg n1, if_neg n2, if_pos n3, ck_t (ib_nI (by omega) (by decide)), nI_clamp (by omega), d4]
      · unfold F_m_net
        rw [e3, isNet_y hk (by omega), b1_s, if_neg I1_0, if_neg n0, if_neg n1, if_neg n2, if_pos n3, fromOf_ok zm hk h8, b1_s]
    by_cases n4 : y = 4
    · refine lst (lN (zT Z k)) ⟨h1' _ ?_ (by rw [n4]; decide) (by rw [n4]; decide), ?_⟩
      · unfold F_Se_told
        rw [has_y zc.1 h8 hk, b1_s, if_neg I1_0, if_neg n0, if_neg n1, if_neg n2, if_neg n3, ck_t (ib_nI (by omega) (by decide)), nI_clamp (by omega), d5]
      · unfold F_m_net
        rw [e3, isNet_y hk (by omega), b1_s, if_neg I1_0, if_neg n0, if_neg n1, if_neg n2, if_neg n3, if_pos n4, toOf_ok zm hk h8, b1_s]
    refine bad ⟨?_, ?_⟩
    · unfold F_w_net F_w_net_20
      rw [has_y zc.1 h8 hk, b1_s, if_neg I1_0]
      by_cases a : y < 0
      · rw [if_pos a]
      · rw [if_neg a, if_neg]
        rcases I_cases y with q | ⟨j, hj, rfl⟩
        · exact absurd q a
        · rw [(show (4 : Int32) = nI 4 from rfl), le_nI hj (by decide)]
          intro q
          have : j = 0 ∨ j = 1 ∨ j = 2 ∨ j = 3 ∨ j = 4 := by omega
          rcases this with r | r | r | r | r <;> subst r
          · exact n0 rfl
          · exact n1 rfl
          · exact n2 rfl
          · exact n3 rfl
          · exact n4 rfl
    · unfold F_m_net
      rw [e3, isNet_y hk (by omega), b1_s, if_neg I1_0, if_neg n0, if_neg n1, if_neg n2, if_neg n3, if_neg n4]
      rfl
  · refine bad ⟨?_, ?_⟩
    · unfold F_w_net F_w_net_20
      rw [has_n zc.1 h8 hx, b1_s, if_pos rfl]
    · unfold F_m_net
      rw [e3, isNet_n (by omega) hx, b1_s, if_pos rfl]
      rfl
