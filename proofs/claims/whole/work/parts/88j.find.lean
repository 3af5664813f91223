/-! ===== the class looks; find ===== -/
section
variable {Z : Zt} {n : Nat} {S : Sto}
abbrev lkF (S T : Sto) : Prop := Fr [44, 45, 46] [] [49] [48] [] S T
abbrev cfF (S T : Sto) : Prop := Fr [] [] [] [48] [] S T
def Cgt (Z : Zt) (N m : Nat) (S : Sto) : Prop := ∀ k, k < N → al S 48 k = lN (2 * cgt Z m k)
theorem two_or (a b : Nat) : 2 * (a ||| b) = 2 * a ||| 2 * b := by
  apply Nat.eq_of_testBit_eq
  intro i
  cases i with
  | zero => rw [Nat.testBit_or, two_b0, two_b0, two_b0]; rfl
  | succ i => rw [Nat.testBit_or, two_bit, two_bit, two_bit, Nat.testBit_or]
theorem cbN_b {k v : Nat} (hk : k < zN Z) : cbN Z v / 2 ^ k % 2 = if catB Z k v then 1 else 0 := by
  have e : (cbN Z v).testBit k = catB Z k v := by
    unfold cbN
    rw [nb_bit, decide_eq_true hk, Bool.true_and]
  have e2 := tb_eq (cbN Z v) k
  have h2 : cbN Z v / 2 ^ k % 2 < 2 := Nat.mod_lt _ (by decide)
  rw [e] at e2
  cases c : catB Z k v
  · rw [c] at e2
    rw [if_neg (by decide)]
    have : ¬ cbN Z v / 2 ^ k % 2 = 1 := fun w => by rw [e2] at w; cases w
    omega
  · rw [c] at e2
    rw [if_pos rfl]
    have : cbN Z v / 2 ^ k % 2 = 1 := by rw [e2]
    exact this
theorem cf_in (hz : ZOk Z) {m : Nat} (hm : m < 60) (k31 : Int32 → Int32 → Sto → Option (Unit × Sto)) : ∀ (j n' i : Nat) (S : Sto), i + j = 8 → j < n' → (∀ k, k < zN Z → al S 48 k = lN (2 * cgt Z (if k < i then m + 1 else m) k)) → ∃ S', F_Fi_look_53 k31 n' (nI n) (nI (m + 1)) (nI (cbN Z (m + 1))) (nI i) S = k31 (nI n) (nI (m + 1 + 1)) S' ∧ cfF S S' ∧ Cgt Z (zN Z) (m + 1) S' := by
  have h8 := hz.1
  have hcb := cbN_lt hz (m + 1)
  intro j
  induction j with
  | zero =>
    intro n' i S hi hn' h
    obtain ⟨n', rfl⟩ : ∃ q, n' = q + 1 := ⟨n' - 1, by omega⟩
    refine ⟨S, ?_, Fr.rfl, fun k hk => ?_⟩
    · rw [F_Fi_look_53, show (8 : Int32) = nI 8 from rfl, if_pos (nI_le (by omega) (by omega)), show nI (m + 1) + (1 : Int32) = nI (m + 1 + 1) from nI_add _ 1]
    · have := h k hk
      rw [if_pos (show k < i by omega)] at this
      exact this
  | succ j ih =>
    intro n' i S hi hn' h
    obtain ⟨n', rfl⟩ : ∃ q, n' = q + 1 := ⟨n' - 1, by omega⟩
    have hb2 : cbN Z (m + 1) / 2 ^ i % 2 < 2 := Nat.mod_lt _ (by decide)
    rw [F_Fi_look_53, show (8 : Int32) = nI 8 from rfl, if_neg (nI_ge (by omega) (by omega)), ck_t (ib_nI (by omega) (by omega)), i2l_nI (by omega), bitC_ok (by omega) (by omega), b1_s, ck_t (ib_nI (by omega) (by omega)), nI_clamp (by omega), i2l_nI (by omega), wb_shl _ (by omega), show nI i + (1 : Int32) = nI (i + 1) from nI_add i 1]
    generalize hV : (al S 48 i ||| lN (cbN Z (m + 1) / 2 ^ i % 2 * 2 ^ (m + 1))) = V
    have f1 : cfF S (ul S 48 (vp_updL (al S 48) i V)) := Fr.rfl.ul (by decide)
    obtain ⟨U, u1, u2, u3⟩ := ih n' (i + 1) (ul S 48 (vp_updL (al S 48) i V)) (by omega) (by omega) (fun k hk => by
      show vp_updL (al S 48) i V k = _
      rw [updL_at]
      by_cases q : k = i
      · subst q
        have e := h k hk
        rw [if_neg (Nat.lt_irrefl k)] at e
        have hlt := cgt_lt Z (show m ≤ 60 by omega) k
        have p2 : 2 ^ (m + 1) < 2 ^ 62 := Nat.pow_lt_pow_right (by decide) (by omega)
        rw [if_pos rfl, if_pos (show k < k + 1 by omega), ← hV, e, cbN_b hk, cgt_s, two_or]
        cases catB Z k (m + 1)
        · rw [if_neg (by decide), if_neg (by decide), Nat.zero_mul, wb_or (by omega) (by omega)]
        · rw [if_pos rfl, if_pos rfl, Nat.one_mul, wb_or (by omega) (by omega), Nat.pow_succ, Nat.mul_comm (2 ^ m) 2]
      · rw [if_neg q, h k hk]
        by_cases w : k < i
        · rw [if_pos w, if_pos (show k < i + 1 by omega)]
        · rw [if_neg w, if_neg (show ¬ k < i + 1 by omega)])
    exact ⟨U, u1, f1.trans u2, u3⟩
theorem cf_out (hz : ZOk Z) (hn : n ≤ 60) : ∀ (j n' m : Nat) (S : Sto), m + j = n → j < n' → ZC Z S → Cgt Z (zN Z) m S → ∃ S', F_Fi_look_31 n' (nI n) (nI (m + 1)) S = F_Fi_look_98 (nI n) S' ∧ cfF S S' ∧ Cgt Z (zN Z) n S' := by
  intro j
  induction j with
  | zero =>
    intro n' m S hm hn' hZ h
    obtain ⟨n', rfl⟩ : ∃ q, n' = q + 1 := ⟨n' - 1, by omega⟩
    have : m = n := by omega
    subst this
    refine ⟨S, ?_, Fr.rfl, h⟩
    rw [F_Fi_look_31, if_pos (nI_lt (by omega) (by omega))]
  | succ j ih =>
    intro n' m S hm hn' hZ h
    obtain ⟨n', rfl⟩ : ∃ q, n' = q + 1 := ⟨n' - 1, by omega⟩
    obtain ⟨T, t1, t2, t3⟩ := cf_in (n := n) hz (show m < 60 by omega) (F_Fi_look_31 n') 8 FU 0 S (Nat.zero_add _) (by rw [FU_v]; omega) (fun k hk => by rw [if_neg (Nat.not_lt_zero k)]; exact h k hk)
    obtain ⟨U, u1, u2, u3⟩ := ih n' (m + 1) T (by omega) (by omega) (ZC_fr hZ t2 (by decide) (by decide) (by decide)) t3
    refine ⟨U, ?_, t2.trans u2, u3⟩
    rw [F_Fi_look_31, if_neg (by rw [lt_nI (by omega) (by omega)]; omega), show (60 : Int32) = nI 60 from rfl, if_neg (by rw [lt_nI (by omega) (by omega)]; omega), i2l_nI (by omega), cat_ok hz hZ (by omega), b1_s]
    exact t1.trans u1
theorem lk10 : ∀ (j n' i : Nat) (S : Sto), i + j = 8 → j < n' → (∀ k, k < i → al S 48 k = 0) → ∃ S', F_Fi_look_10 n' (nI n) (nI i) S = F_Fi_look_31 FU (nI n) 1 S' ∧ cfF S S' ∧ (∀ k, k < 8 → al S' 48 k = 0) := by
  intro j
  induction j with
  | zero =>
    intro n' i S hi hn' h
    obtain ⟨n', rfl⟩ : ∃ q, n' = q + 1 := ⟨n' - 1, by omega⟩
    refine ⟨S, ?_, Fr.rfl, fun k hk => h k (by omega)⟩
    rw [F_Fi_look_10, show (8 : Int32) = nI 8 from rfl, if_pos (nI_le (by omega) (by omega))]
  | succ j ih =>
    intro n' i S hi hn' h
    obtain ⟨n', rfl⟩ : ∃ q, n' = q + 1 := ⟨n' - 1, by omega⟩
    have f1 : cfF S (ul S 48 (vp_updL (al S 48) i 0)) := Fr.rfl.ul (by decide)
    obtain ⟨U, u1, u2, u3⟩ := ih n' (i + 1) (ul S 48 (vp_updL (al S 48) i 0)) (by omega) (by omega) (fun k hk => by
      show vp_updL (al S 48) i 0 k = _
      rw [updL_at]
      by_cases q : k = i
      · rw [if_pos q]
      · rw [if_neg q]; exact h k (by omega))
    refine ⟨U, ?_, f1.trans u2, u3⟩
    rw [F_Fi_look_10, show (8 : Int32) = nI 8 from rfl, if_neg (nI_ge (by omega) (by omega)), ck_t (ib_nI (by omega) (by omega)), nI_clamp (by omega), show nI i + (1 : Int32) = nI (i + 1) from nI_add i 1]
    exact u1
def lkE (n : Nat) (S : Sto) : Option (Unit × Sto) := nm ((((1 : Int64) <<< (Int32.toInt64 (nI n) &&& 63)) - 1) <<< (Int32.toInt64 (1 : Int32) &&& 63)) (fun t1 => b2 (F_Fi_fewestHauls 12 t1 0 0 S) (fun r3 S5 => if gi (si S5 45 r3) 45 ≤ 0 then F_Fi_look_164 (si S5 45 r3) else if (99 : Int32) ≤ gi (si S5 45 r3) 45 then F_Fi_look_164 (si S5 45 r3) else b2 (F_Fi_firstNet t1 (si S5 45 r3)) (fun r6 S8 => F_Fi_look_165 r6 S8)))
theorem lk100 : ∀ (j n' i : Nat) (S : Sto), i + j = 6561 → j < n' → (∀ k, k < i → ai S 49 k = 0) → ∃ S', F_Fi_look_100 n' (nI n) (nI i) S = lkE n S' ∧ kF S S' ∧ (∀ k, k < 6561 → ai S' 49 k = 0) := by
  intro j
  induction j with
  | zero =>
    intro n' i S hi hn' h
    obtain ⟨n', rfl⟩ : ∃ q, n' = q + 1 := ⟨n' - 1, by omega⟩
    refine ⟨S, ?_, Fr.rfl, fun k hk => h k (by omega)⟩
    rw [F_Fi_look_100, show (6561 : Int32) = nI 6561 from rfl, if_pos (nI_le (by omega) (by omega))]
    rfl
  | succ j ih =>
    intro n' i S hi hn' h
    obtain ⟨n', rfl⟩ : ∃ q, n' = q + 1 := ⟨n' - 1, by omega⟩
    have f1 : kF S (ui S 49 (upd (ai S 49) i 0)) := Fr.rfl.ui (by decide)
    obtain ⟨U, u1, u2, u3⟩ := ih n' (i + 1) (ui S 49 (upd (ai S 49) i 0)) (by omega) (by omega) (fun k hk => by
      show upd (ai S 49) i 0 k = _
      rw [upd_at]
      by_cases q : k = i
      · rw [if_pos q]
      · rw [if_neg q]; exact h k (by omega))
    refine ⟨U, ?_, f1.trans u2, u3⟩
    rw [F_Fi_look_100, show (6561 : Int32) = nI 6561 from rfl, if_neg (nI_ge (by omega) (by omega)), ck_t (ib_nI (by omega) (by omega)), nI_clamp (by omega), show nI i + (1 : Int32) = nI (i + 1) from nI_add i 1]
    exact u1
theorem fn_lp {A N : Nat} {C : Nat → Nat} (hC : ∀ k, C k < 2 ^ 60) (hN : N ≤ 8) (hA : A < 2 ^ 60) {f8 : Nat} (hf : f8 ≤ 99) : ∀ (j n' i : Nat) (S : Sto), i + j = N → j < n' → KNo A C N S → CgC C N S → gi S 45 = nI f8 → ∃ S', F_Fi_firstNet_5 n' (lN (2 * A)) (nI (3 ^ i)) (nI i) S = some (fiN (fun k => decide (hb (fF C N 7) C A k = f8)) i j, S') ∧ kF S S' := by
  intro j
  induction j with
  | zero =>
    intro n' i S hi hn' hK hc h45
    obtain ⟨n', rfl⟩ : ∃ q, n' = q + 1 := ⟨n' - 1, by omega⟩
    refine ⟨S, ?_, Fr.rfl⟩
    rw [F_Fi_firstNet_5, hc.1, if_pos (nI_le (by omega) (by omega))]
    rfl
  | succ j ih =>
    intro n' i S hi hn' hK hc h45
    obtain ⟨n', rfl⟩ : ∃ q, n' = q + 1 := ⟨n' - 1, by omega⟩
    have d0 : ∀ k, dgz 0 k = 0 := fun k => by unfold dgz; rw [Nat.zero_div]
    have n0 : nz 0 = 0 := fb_ct_zero.mpr (fun k _ => decide_eq_false (fun w => w (d0 k)))
    have L0 : Lft A C 0 A := fun b => ⟨fun h => ⟨h, fun k _ => by rw [d0 k]; exact ⟨fun z => by omega, fun z => by omega⟩⟩, fun h => h.1⟩
    obtain ⟨T, t1, t2, t3⟩ := hb_ok hC (fh_ok hC hN 7 12 (by omega) (by omega)) hN (show i < N by omega) (by decide) (by rw [n0]) L0 hA hK hc
    have h99 := hb_99 (fF C N 7) C A i
    rw [F_Fi_firstNet_5, hc.1, if_neg (nI_ge (by omega) (by omega)), show (8 : Int32) = nI 8 from rfl, if_neg (nI_ge (by omega) (by decide))]
    have t1' : F_Fi_haulsBy (F_Fi_fewestHauls 12) (nI i) (nI (3 ^ i)) (lN (2 * A)) 0 0 S = some (nI (hb (fF C N 7) C A i), T) := t1
    rw [t1', b2_s, t2.gi 45 (by decide), h45, fiN]
    by_cases q : hb (fF C N 7) C A i = f8
    · refine ⟨T, ?_, t2⟩
      rw [if_pos (by rw [q]), decide_eq_true q, if_pos rfl]
    · obtain ⟨U, u1, u2⟩ := ih n' (i + 1) T (by omega) (by omega) t3 (hc.fr t2) ((t2.gi 45 (by decide)).trans h45)
      refine ⟨U, ?_, t2.trans u2⟩
      rw [if_neg (by rw [eq_nI (by omega) (by omega)]; exact q), decide_eq_false q, if_neg (by decide), show (3 : Int32) = nI 3 from rfl, pk_mul, ← Nat.pow_succ, show nI i + (1 : Int32) = nI (i + 1) from nI_add i 1]
      exact u1
def hauS (f8 : Nat) : Int32 := if f8 < 99 then nI f8 else -1
theorem l165 {W : Sto} {r : Int32} {f8 : Nat} (h : gi W 45 = nI f8) (hf : f8 ≤ 99) : F_Fi_look_165 r W = some ((), si (si W 46 r) 45 (hauS f8)) := by
  unfold F_Fi_look_165 F_Fi_look_186 hauS
  have e : gi (si W 46 r) 45 = nI f8 := h
  rw [e, show (99 : Int32) = nI 99 from rfl]
  by_cases q : f8 < 99
  · rw [if_neg (nI_ge q (by decide)), if_pos q]
  · rw [if_pos (nI_le (by omega) (by omega)), if_neg q]
theorem look_ok (hz : ZOk Z) (hn : n ≤ 60) (hZ : ZC Z S) : ∃ S', F_Fi_look (nI n) S = some ((), S') ∧ lkF S S' ∧ gi S' 45 = hauS (fF (cgt Z n) (zN Z) 8 (2 ^ n - 1)) ∧
    gi S' 46 = (if 0 < fF (cgt Z n) (zN Z) 8 (2 ^ n - 1) ∧ fF (cgt Z n) (zN Z) 8 (2 ^ n - 1) < 99 then fiN (fun k => decide (hb (fF (cgt Z n) (zN Z) 7) (cgt Z n) (2 ^ n - 1) k = fF (cgt Z n) (zN Z) 8 (2 ^ n - 1))) 0 (zN Z) else -1) := by
  have h8 := hz.1
  have hC : ∀ k, cgt Z n k < 2 ^ 60 := fun k => cgt_lt Z hn k
  have p2 : 2 ^ n ≤ 2 ^ 60 := Nat.pow_le_pow_right (by decide) hn
  have p0 : 0 < 2 ^ n := Nat.pow_pos (by decide)
  have hA : 2 ^ n - 1 < 2 ^ 60 := by omega
  have f0 : lkF S (si S 44 (gi S 22)) := Fr.rfl.si (by decide)
  obtain ⟨T, t1, t2, t3⟩ := lk10 (n := n) 8 FU 0 (si S 44 (gi S 22)) (Nat.zero_add _) (by rw [FU_v]; omega) (fun k hk => absurd hk (Nat.not_lt_zero k))
  have f1 : lkF S T := f0.trans (t2.mono (by decide) (by decide) (by decide) (by decide) (by decide))
  have zT := ZC_fr hZ f1 (by decide) (by decide) (by decide)
  obtain ⟨U, u1, u2, u3⟩ := cf_out hz hn n FU 0 T (Nat.zero_add _) (by rw [FU_v]; omega) zT (fun k hk => by rw [t3 k (by omega)]; rfl)
  obtain ⟨V, v1, v2, v3⟩ := lk100 (n := n) 6561 FU 0 U (Nat.zero_add _) (by rw [FU_v]; omega) (fun k hk => absurd hk (Nat.not_lt_zero k))
  have f3 : lkF S V := (f1.trans (u2.mono (by decide) (by decide) (by decide) (by decide) (by decide))).trans (v2.mono (by decide) (by decide) (by decide) (by decide) (by decide))
  have cV : CgC (cgt Z n) (zN Z) V := by
    refine ⟨?_, fun k hk => ?_⟩
    · rw [v2.gi 44 (by decide), u2.gi 44 (by decide), t2.gi 44 (by decide), gi_si, if_pos rfl]
      exact hZ.1
    · rw [v2.al 48 (by decide)]
      exact u3 k hk
  have kV : KNo (2 ^ n - 1) (cgt Z n) (zN Z) V := fun t ht => ⟨0, by rw [v3 t ht]; rfl, by omega, Or.inl rfl⟩
  have d0 : ∀ k, dgz 0 k = 0 := fun k => by unfold dgz; rw [Nat.zero_div]
  have n0 : nz 0 = 0 := fb_ct_zero.mpr (fun k _ => decide_eq_false (fun w => w (d0 k)))
  have L0 : Lft (2 ^ n - 1) (cgt Z n) 0 (2 ^ n - 1) := fun b => ⟨fun h => ⟨h, fun k _ => by rw [d0 k]; exact ⟨fun z => by omega, fun z => by omega⟩⟩, fun h => h.1⟩
  obtain ⟨W, w1, w2, w3⟩ := fh_ok hC h8 8 12 (by omega) (by omega) 0 (2 ^ n - 1) V (by decide) (by rw [n0]) L0 hA kV cV
  have h99 := fF_99 (C := cgt Z n) (N := zN Z) 8 (2 ^ n - 1)
  have f4 : lkF S W := f3.trans (w2.mono (by decide) (by decide) (by decide) (by decide) (by decide))
  have eL : F_Fi_look (nI n) S = lkE n V := by
    unfold F_Fi_look
    exact t1.trans (u1.trans v1)
  have w1' : F_Fi_fewestHauls 12 (lN (2 * (2 ^ n - 1))) 0 0 V = some (nI (fF (cgt Z n) (zN Z) 8 (2 ^ n - 1)), W) := w1
  have et : ((((1 : Int64) <<< (Int32.toInt64 (nI n) &&& 63)) - 1) <<< (Int32.toInt64 (1 : Int32) &&& 63)) = lN (2 * (2 ^ n - 1)) := by
    rw [(show (1 : Int64) = lN 1 from rfl), wb_shl 1 (by omega), Nat.one_mul, lN_sub (by omega), show (1 : Int32) = nI 1 from rfl, wb_shl _ (by omega), Nat.mul_comm]
  rw [eL]
  unfold lkE
  rw [nm_q et, w1', b2_s, gi_si, if_pos rfl]
  generalize hf : fF (cgt Z n) (zN Z) 8 (2 ^ n - 1) = f8 at *
  have end1 : ∀ (r : Int32) (X : Sto), lkF S X → gi X 45 = nI f8 → r = (if 0 < f8 ∧ f8 < 99 then fiN (fun k => decide (hb (fF (cgt Z n) (zN Z) 7) (cgt Z n) (2 ^ n - 1) k = f8)) 0 (zN Z) else -1) → ∃ S', F_Fi_look_165 r X = some ((), S') ∧ lkF S S' ∧ gi S' 45 = hauS f8 ∧ gi S' 46 = (if 0 < f8 ∧ f8 < 99 then fiN (fun k => decide (hb (fF (cgt Z n) (zN Z) 7) (cgt Z n) (2 ^ n - 1) k = f8)) 0 (zN Z) else -1) := by
    intro r X fX hX hr
    refine ⟨_, l165 hX h99, (fX.si (by decide)).si (by decide), ?_, ?_⟩
    · rw [gi_si, if_pos rfl]
    · rw [gi_si, if_neg (by decide), gi_si, if_pos rfl]; exact hr
  by_cases q0 : f8 = 0
  · rw [if_pos (by rw [q0]; decide)]
    exact end1 (-1) _ (f4.si (by decide)) rfl (by rw [if_neg (by omega)])
  · rw [if_neg (by rw [show (0 : Int32) = nI 0 from rfl, le_nI (by omega) (by decide)]; omega), show (99 : Int32) = nI 99 from rfl]
    by_cases q9 : 99 ≤ f8
    · rw [if_pos (nI_le q9 (by omega))]
      exact end1 (-1) _ (f4.si (by decide)) rfl (by rw [if_neg (by omega)])
    · rw [if_neg (by rw [le_nI (by decide) (by omega)]; exact q9)]
      have cW : CgC (cgt Z n) (zN Z) (si W 45 (nI f8)) := by
        have := cV.fr w2
        unfold CgC at this ⊢
        rw [gi_si, if_neg (by decide)]
        exact this
      obtain ⟨X, x1, x2⟩ := fn_lp (A := 2 ^ n - 1) hC h8 hA h99 (zN Z) FU 0 (si W 45 (nI f8)) (Nat.zero_add _) (by rw [FU_v]; omega) w3 cW (by rw [gi_si, if_pos rfl])
      have x1' : F_Fi_firstNet (lN (2 * (2 ^ n - 1))) (si W 45 (nI f8)) = some (fiN (fun k => decide (hb (fF (cgt Z n) (zN Z) 7) (cgt Z n) (2 ^ n - 1) k = f8)) 0 (zN Z), X) := x1
      rw [x1', b2_s]
      refine end1 _ X ((f4.si (by decide)).trans (x2.mono (by decide) (by decide) (by decide) (by decide) (by decide))) ?_ (by rw [if_pos (by omega)])
      rw [x2.gi 45 (by decide), gi_si, if_pos rfl]
theorem cgt_b {k a : Nat} (ha : a < n) : (cgt Z n k).testBit a = catB Z k (a + 1) := by
  unfold cgt
  rw [nb_bit, decide_eq_true ha, Bool.true_and]
theorem cbN_eq {a b : Nat} : cbN Z a = cbN Z b ↔ ∀ k, k < zN Z → catB Z k a = catB Z k b := by
  unfold cbN
  constructor
  · intro h k hk
    have e : (nb (fun i => catB Z i a) (zN Z)).testBit k = (nb (fun i => catB Z i b) (zN Z)).testBit k := by rw [h]
    rw [nb_bit, nb_bit, decide_eq_true hk, Bool.true_and, Bool.true_and] at e
    exact e
  · intro h
    apply Nat.eq_of_testBit_eq
    intro k
    rw [nb_bit, nb_bit]
    by_cases q : k < zN Z
    · rw [decide_eq_true q, Bool.true_and, Bool.true_and, h k q]
    · rw [decide_eq_false q]; rfl
end
theorem find_ok : Ok_find := by
  intro S M O h x y
  obtain ⟨t, f, Z, c, i, h1, h2, h3, hC, hM⟩ := h
  have zc := hC.z
  have zm := (hM.cd 0).z
  have h8 := h1.1
  by_cases hy : y < 0 ∨ ¬ y ≤ 1
  · refine ⟨1, S, O, 0, si (si M 1001 0) 1001 1, ?_, ?_, rfl, fun e => absurd e (by decide), t, f, Z, c, i, h1, h2, h3, hC, (hM.cd 0).cd 1⟩
    · unfold F_l_find F_w_find
      rcases hy with q | q
      · rw [if_pos q]; rfl
      · by_cases w : y < 0
        · rw [if_pos w]; rfl
        · rw [if_neg w, if_neg q]; rfl
    · unfold F_m_find
      rcases hy with q | q
      · rw [if_pos q]; rfl
      · by_cases w : y < 0
        · rw [if_pos w]; rfl
        · rw [if_neg w, if_neg q]; rfl
  have y0 : ¬ y < 0 := fun w => hy (Or.inl w)
  have y1 : y ≤ 1 := Classical.byContradiction fun w => hy (Or.inr w)
  by_cases hx : ∃ k, (1 ≤ k ∧ k ≤ 60) ∧ x = nI k
  · obtain ⟨n, ⟨n1, n60⟩, rfl⟩ := hx
    obtain ⟨T, t1, t2, t3, t4⟩ := look_ok h1 n60 zc
    obtain ⟨U, u1, u2, u3⟩ := mfo_lp h1 n60 y (zN Z) FU 0 (si M 1001 0) (Nat.zero_add _) (by rw [FU_v]; omega) zm (fun k hk => absurd hk (Nat.not_lt_zero k))
    have zU : ZM Z U := ZM_fr zm u2 (by decide) (by decide)
    have hCC : ∀ k, cgt Z n k < 2 ^ 60 := fun k => cgt_lt Z n60 k
    have p2 : 2 ^ n ≤ 2 ^ 60 := Nat.pow_le_pow_right (by decide) n60
    have p0 : 0 < 2 ^ n := Nat.pow_pos (by decide)
    have hA : 2 ^ n - 1 < 2 ^ 60 := by omega
    have cU : CgM (cgt Z n) (zN Z) U := ⟨zU.1, u3⟩
    have hb' : ∀ b, (2 ^ n - 1).testBit b = decide (b < n) := fun b => Nat.testBit_two_pow_sub_one n b
    have e1 := mp_out h1 zU n60 y n FU 1 (by omega) (by rw [FU_v]; omega)
    have h99 := fF_99 (C := cgt Z n) (N := zN Z) 8 (2 ^ n - 1)
    have key : ∃ r, (if y = 0 then gi T 45 else gi T 46) = r ∧ F_m_find_106 FU (nI n) y 1 U = some (r, U) := by
      have e1' : F_m_find_106 FU (nI n) y 1 U = if eqo Z n 1 n = true then some (-1, U) else F_m_find_161 FU y (lN (2 ^ n - 1)) 0 U := e1
      rw [e1', t3, t4]
      by_cases P : eqo Z n 1 n = true
      · obtain ⟨a, b, a1, a2, a3, a4⟩ := (eqo_iff Z n n 1 (by omega)).mp P
        have no := tT_same (C := cgt Z n) (N := zN Z) (a := a - 1) (b := b - 1) (by omega) (fun k hk => by
          rw [cgt_b (by omega), cgt_b (by omega), show a - 1 + 1 = a by omega, show b - 1 + 1 = b by omega]
          exact cbN_eq.mp a4 k hk) 8 (2 ^ n - 1) hA (by rw [hb']; exact decide_eq_true (by omega)) (by rw [hb']; exact decide_eq_true (by omega))
        have g9 : ¬ fF (cgt Z n) (zN Z) 8 (2 ^ n - 1) < 99 := fun w => no ((fF_le 8 8 _ (by omega) (by omega)).mp (fF_bd 8 _ (by omega) w))
        refine ⟨-1, ?_, ?_⟩
        · unfold hauS
          have g10 : ¬ (0 < fF (cgt Z n) (zN Z) 8 (2 ^ n - 1) ∧ fF (cgt Z n) (zN Z) 8 (2 ^ n - 1) < 99) := fun w => g9 w.2
          rw [if_neg g9, if_neg g10]
          split <;> rfl
        · rw [if_pos P]
      · have yes : tT (cgt Z n) (zN Z) (zN Z) (2 ^ n - 1) = true := tT_dis (zN Z) _ (Nat.le_refl _) (fun a b a1 b1 q => by
          rw [hb', decide_eq_true_iff] at a1 b1
          refine Classical.byContradiction fun no => P ((eqo_iff Z n n 1 (by omega)).mpr ?_)
          have same : cbN Z (a + 1) = cbN Z (b + 1) := cbN_eq.mpr (fun k hk => by
            refine Classical.byContradiction fun w => no ⟨k, by omega, hk, ?_⟩
            rw [cgt_b a1, cgt_b b1]
            exact w)
          by_cases w : a < b
          · exact ⟨a + 1, b + 1, by omega, by omega, by omega, same⟩
          · exact ⟨b + 1, a + 1, by omega, by omega, by omega, same.symm⟩)
        have g8 : fF (cgt Z n) (zN Z) 8 (2 ^ n - 1) ≤ 8 := by
          have := (fF_le 8 (zN Z) _ (by omega) h8).mpr yes
          omega
        have th := (fF_le (C := cgt Z n) (N := zN Z) 8 _ (2 ^ n - 1) (by omega) g8).mp (Nat.le_refl _)
        have tf : ∀ h, h < fF (cgt Z n) (zN Z) 8 (2 ^ n - 1) → ¬ tT (cgt Z n) (zN Z) h (2 ^ n - 1) = true := fun h hh w => by
          have := (fF_le 8 h (2 ^ n - 1) (by omega) (by omega)).mpr w
          omega
        have e2 := m161 hCC h8 cU (show fF (cgt Z n) (zN Z) 8 (2 ^ n - 1) ≤ 9 by omega) hA th tf y _ FU 0 (Nat.zero_add _) (by rw [FU_v]; omega)
        have e2' : F_m_find_161 FU y (lN (2 ^ n - 1)) 0 U = if y = 0 then some (nI (fF (cgt Z n) (zN Z) 8 (2 ^ n - 1)), U) else F_m_find_187 FU (lN (2 ^ n - 1)) (nI (fF (cgt Z n) (zN Z) 8 (2 ^ n - 1))) 0 U := e2
        rw [if_neg P, e2']
        by_cases yy : y = 0
        · refine ⟨_, rfl, ?_⟩
          rw [if_pos yy, if_pos yy]
          unfold hauS
          rw [if_pos (show fF (cgt Z n) (zN Z) 8 (2 ^ n - 1) < 99 by omega)]
        · refine ⟨_, rfl, ?_⟩
          rw [if_neg yy, if_neg yy]
          cases hh : fF (cgt Z n) (zN Z) 8 (2 ^ n - 1) with
          | zero =>
            rw [if_neg (by omega), show F_m_find_187 FU = F_m_find_187 (1099511627775 + 1) from rfl, F_m_find_187]
            by_cases q : ai U 1003 (Int32.toNatClampNeg 0) ≤ 0
            · rw [if_pos q]
            · rw [if_neg q, if_pos (show nI 0 ≤ 0 by decide)]
          | succ h =>
            have e3 := m187 hCC h8 cU (show h ≤ 9 by omega) hA (zN Z) FU 0 (Nat.zero_add _) (by rw [FU_v]; omega)
            have e3' : F_m_find_187 FU (lN (2 ^ n - 1)) (nI (h + 1)) 0 U = some (fiN (tF (cgt Z n) (zN Z) h (2 ^ n - 1)) 0 (zN Z), U) := e3
            rw [if_pos (by omega), e3']
            refine congrArg (fun r => some (r, U)) (fiN_cong _ _ (fun k _ k2 => ?_))
            have nf : ¬ pc (2 ^ n - 1) < 2 := fun w => by rw [fF_few w] at hh; omega
            have mn := hh
            rw [fF_s nf] at mn
            have lo : h + 1 ≤ hb (fF (cgt Z n) (zN Z) 7) (cgt Z n) (2 ^ n - 1) k := by
              refine Nat.not_lt.mp (fun w => ?_)
              have := (mnF_le (hb (fF (cgt Z n) (zN Z) 7) (cgt Z n) (2 ^ n - 1)) (hb (fF (cgt Z n) (zN Z) 7) (cgt Z n) (2 ^ n - 1) k) (zN Z) 0 99).mpr (Or.inr ⟨k, Nat.zero_le _, by omega, Nat.le_refl _⟩)
              omega
            have iff1 : hb (fF (cgt Z n) (zN Z) 7) (cgt Z n) (2 ^ n - 1) k = h + 1 ↔ tF (cgt Z n) (zN Z) h (2 ^ n - 1) k = true := by
              have a := hb_le (f := fF (cgt Z n) (zN Z) 7) (C := cgt Z n) (X := 2 ^ n - 1) (k := k) (h := h + 1) (by omega)
              have b := fF_le (C := cgt Z n) (N := zN Z) 7 h (2 ^ n - 1 &&& cgt Z n k) (by omega) (by omega)
              have c := fF_le (C := cgt Z n) (N := zN Z) 7 h (ou (2 ^ n - 1) (cgt Z n k)) (by omega) (by omega)
              unfold tF
              rw [Bool.and_eq_true, Bool.and_eq_true, spl_iff, ← b, ← c]
              constructor
              · intro w
                obtain ⟨w1, w2, w3⟩ := a.mp (by omega)
                exact ⟨w1, by omega, by omega⟩
              · rintro ⟨w1, w2, w3⟩
                have := a.mpr ⟨w1, by omega, by omega⟩
                omega
            show _ = decide _
            cases q : tF (cgt Z n) (zN Z) h (2 ^ n - 1) k
            · exact (decide_eq_false (fun w => by rw [iff1.mp w] at q; cases q)).symm
            · exact (decide_eq_true (iff1.mpr q)).symm
    obtain ⟨r, r1, r2⟩ := key
    refine ⟨0, T, oW O r.toInt64, r, U, ?_, ?_, ?_, fun _ => rfl, t, f, Z, c, i, h1, h2, h3, RC_q hC (t2.mono (by decide) (by decide) (by decide) (by decide) (by decide)) (by rw [t2.gr 48 (by decide), t2.gr 49 (by decide)]; exact hC.gr), RM_q (hM.cd 0) (u2.mono (by decide) (by decide) (by decide) (by decide) (by decide))⟩
    · unfold F_l_find F_w_find
      rw [if_neg y0, if_pos y1, if_neg (by rw [show (1 : Int32) = nI 1 from rfl, lt_nI (by omega) (by decide)]; omega), show (60 : Int32) = nI 60 from rfl, if_pos (nI_le n60 (by omega)), t1, b2_s]
      by_cases yy : y = 0
      · rw [if_pos yy] at r1 ⊢
        rw [r1, b2_s, su_l]
      · rw [if_neg yy] at r1 ⊢
        rw [r1, b2_s, su_l]
    · unfold F_m_find
      rw [if_neg y0, if_pos y1, i2l_nI (by omega), (show (1 : Int64) = lN 1 from rfl), (show (60 : Int64) = lN 60 from rfl), isIn_y n1 n60 (by decide), b1_s, if_neg I1_0]
      exact u1.trans r2
    · rw [u2.gi _ (by decide)]; rfl
  · refine ⟨2, S, O, 0, si (si M 1001 0) 1001 2, ?_, ?_, rfl, fun e => absurd e (by decide), t, f, Z, c, i, h1, h2, h3, hC, (hM.cd 0).cd 2⟩
    · unfold F_l_find F_w_find
      rw [if_neg y0, if_pos y1]
      by_cases q : x < 1
      · rw [if_pos q]; rfl
      · rw [if_neg q, if_neg]
        · rfl
        · intro w
          have q0 : ¬ x < 0 := fun u => q (by
            rw [Int32.lt_iff_toInt_lt] at u ⊢
            rw [show (0 : Int32).toInt = 0 from rfl] at u
            rw [show (1 : Int32).toInt = 1 from rfl]
            omega)
          obtain ⟨k, hk, rfl⟩ := nI_of q0
          rw [show (60 : Int32) = nI 60 from rfl, le_nI hk (by decide)] at w
          rw [show (1 : Int32) = nI 1 from rfl, lt_nI hk (by decide)] at q
          exact hx ⟨k, ⟨by omega, w⟩, rfl⟩
    · unfold F_m_find
      rw [if_neg y0, if_pos y1, (show (1 : Int64) = lN 1 from rfl), (show (60 : Int64) = lN 60 from rfl), isIn_n (by decide) (by decide) (fun ⟨k, k1, k2, k3⟩ => hx ⟨k, ⟨k1, k2⟩, by rw [in_wide (by omega)] at k3; exact k3⟩), b1_s, if_pos rfl]
      rfl
