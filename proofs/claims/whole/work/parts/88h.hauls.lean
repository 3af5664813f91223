/-! ===== the class: fewest hauls ===== -/
theorem mniN {a b : Nat} (ha : a < 2147483648) (hb : b < 2147483648) : mnI (nI a) (nI b) = nI (min a b) := by
  unfold mnI
  by_cases h : b < a
  · rw [if_pos (nI_lt h (by omega))]
    exact congrArg nI (by omega)
  · rw [if_neg (by rw [lt_nI hb ha]; exact h)]
    exact congrArg nI (by omega)
theorem mxiN {a b : Nat} (ha : a < 2147483648) (hb : b < 2147483648) : mxI (nI a) (nI b) = nI (max a b) := by
  unfold mxI
  by_cases h : a < b
  · rw [if_pos (nI_lt h (by omega))]
    exact congrArg nI (by omega)
  · rw [if_neg (by rw [lt_nI ha hb]; exact h)]
    exact congrArg nI (by omega)
/-- figures by three -/
def dgz (t i : Nat) : Nat := t / 3 ^ i % 3
theorem dgz_lt (t i : Nat) : dgz t i < 3 := Nat.mod_lt _ (by decide)
theorem dgz_at {t c i : Nat} (h : dgz t i = 0) (hc : c < 3) : dgz (t + c * 3 ^ i) i = c := by
  unfold dgz at h ⊢
  rw [Nat.add_mul_div_right _ _ (Nat.pow_pos (by decide))]
  omega
theorem dgz_ne {t c i j : Nat} (h : dgz t i = 0) (hc : c < 3) (hj : ¬ j = i) : dgz (t + c * 3 ^ i) j = dgz t j := by
  unfold dgz at h ⊢
  by_cases q : j < i
  · obtain ⟨m, rfl⟩ : ∃ m, i = j + (m + 1) := ⟨i - j - 1, by omega⟩
    have e : c * 3 ^ (j + (m + 1)) = 3 * (c * 3 ^ m) * 3 ^ j := by
      rw [Nat.pow_add, Nat.pow_succ, Nat.mul_comm (3 ^ j), ← Nat.mul_assoc, Nat.mul_comm (3 ^ m) 3, ← Nat.mul_assoc, Nat.mul_comm c 3, Nat.mul_assoc 3]
    rw [e, Nat.add_mul_div_right _ _ (Nat.pow_pos (by decide)), Nat.add_mul_mod_self_left]
  · obtain ⟨m, rfl⟩ : ∃ m, j = i + 1 + m := ⟨j - i - 1, by omega⟩
    have e : ∀ x, x / 3 ^ (i + 1 + m) = x / 3 ^ i / 3 / 3 ^ m := fun x => by
      rw [Nat.pow_add, ← Nat.div_div_eq_div_mul, Nat.pow_succ, ← Nat.div_div_eq_div_mul]
    rw [e, e, Nat.add_mul_div_right _ _ (Nat.pow_pos (by decide))]
    have : (t / 3 ^ i + c) / 3 = t / 3 ^ i / 3 := by omega
    rw [this]
theorem dgz_bd {t c i : Nat} (ht : t < 6561) (h : dgz t i = 0) (hc : c < 3) (hi : i < 8) : t + c * 3 ^ i < 6561 := by
  unfold dgz at h
  have : i = 0 ∨ i = 1 ∨ i = 2 ∨ i = 3 ∨ i = 4 ∨ i = 5 ∨ i = 6 ∨ i = 7 := by omega
  rcases this with rfl | rfl | rfl | rfl | rfl | rfl | rfl | rfl
  · rw [show 3 ^ 0 = 1 from rfl] at h ⊢; omega
  · rw [show 3 ^ 1 = 3 from rfl] at h ⊢; omega
  · rw [show 3 ^ 2 = 9 from rfl] at h ⊢; omega
  · rw [show 3 ^ 3 = 27 from rfl] at h ⊢; omega
  · rw [show 3 ^ 4 = 81 from rfl] at h ⊢; omega
  · rw [show 3 ^ 5 = 243 from rfl] at h ⊢; omega
  · rw [show 3 ^ 6 = 729 from rfl] at h ⊢; omega
  · rw [show 3 ^ 7 = 2187 from rfl] at h ⊢; omega
def nz (t : Nat) : Nat := fb_ct (fun i => decide (¬ dgz t i = 0)) 8
theorem nz_add {t c i : Nat} (h : dgz t i = 0) (hc : c < 3) (h0 : 0 < c) (hi : i < 8) : nz (t + c * 3 ^ i) = nz t + 1 := by
  unfold nz
  have e : fb_ct (fun k => decide (¬ dgz (t + c * 3 ^ i) k = 0)) 8 = fb_ct (fun k => if k = i then true else (fun k => decide (¬ dgz t k = 0)) k) 8 := fb_ct_cong (fun k _ => by
    by_cases q : k = i
    · rw [if_pos q, q, dgz_at h hc]
      exact decide_eq_true (by omega)
    · rw [if_neg q, dgz_ne h hc q])
  have u := fb_ct_upd (fun k => decide (¬ dgz t k = 0)) true hi
  rw [e]
  have n : ¬ (fun k => decide (¬ dgz t k = 0)) i = true := by
    show ¬ decide (¬ dgz t i = 0) = true
    rw [h]; decide
  rw [if_neg n, if_pos rfl] at u
  omega
theorem nz_le (t : Nat) : nz t ≤ 8 := fb_ct_le _ 8
/-- what is left of A, as a number by three tells it -/
def Lft (A : Nat) (C : Nat → Nat) (t X : Nat) : Prop := ∀ b, X.testBit b = true ↔ A.testBit b = true ∧ ∀ i, i < 8 → (dgz t i = 1 → (C i).testBit b = true) ∧ (dgz t i = 2 → (C i).testBit b = false)
theorem Lft.uni {A : Nat} {C : Nat → Nat} {t X Y : Nat} (h : Lft A C t X) (g : Lft A C t Y) : X = Y := by
  apply Nat.eq_of_testBit_eq
  intro i
  have := (h i).trans (g i).symm
  cases q : X.testBit i <;> cases w : Y.testBit i
  · rfl
  · rw [q, w] at this; exact this.mpr rfl
  · rw [q, w] at this; exact (this.mp rfl).symm
  · rfl
theorem Lft.dgz0 {A : Nat} {C : Nat → Nat} {t X i : Nat} (h : Lft A C t X) (hi : i < 8) (s1 : ¬ X &&& C i = 0) (s2 : ¬ ou X (C i) = 0) : dgz t i = 0 := by
  have d3l := dgz_lt t i
  by_cases q1 : dgz t i = 1
  · exfalso
    refine s2 (ou_z.mpr (land_eq.mpr (fun b hb => ?_)))
    exact (((h b).mp hb).2 i hi).1 q1
  · by_cases q2 : dgz t i = 2
    · exfalso
      obtain ⟨b, hb⟩ := Nat.exists_testBit_of_ne_zero s1
      rw [Nat.testBit_and, Bool.and_eq_true] at hb
      have := (((h b).mp hb.1).2 i hi).2 q2
      rw [hb.2] at this
      cases this
    · omega
theorem Lft.in {A : Nat} {C : Nat → Nat} {t X i : Nat} (h : Lft A C t X) (hi : i < 8) (h0 : dgz t i = 0) : Lft A C (t + 1 * 3 ^ i) (X &&& C i) := by
  intro b
  rw [Nat.testBit_and, Bool.and_eq_true, h b]
  constructor
  · rintro ⟨⟨a, w⟩, c⟩
    refine ⟨a, fun k hk => ?_⟩
    by_cases q : k = i
    · subst q
      rw [dgz_at h0 (by decide)]
      exact ⟨fun _ => c, fun z => by omega⟩
    · rw [dgz_ne h0 (by decide) q]
      exact w k hk
  · rintro ⟨a, w⟩
    refine ⟨⟨a, fun k hk => ?_⟩, ?_⟩
    · by_cases q : k = i
      · subst q
        rw [h0]
        exact ⟨fun z => by omega, fun z => by omega⟩
      · have := w k hk
        rw [dgz_ne h0 (by decide) q] at this
        exact this
    · exact (w i hi).1 (dgz_at h0 (by decide))
theorem Lft.out {A : Nat} {C : Nat → Nat} {t X i : Nat} (h : Lft A C t X) (hi : i < 8) (h0 : dgz t i = 0) : Lft A C (t + 2 * 3 ^ i) (ou X (C i)) := by
  intro b
  rw [ou_bit, Bool.and_eq_true, Bool.not_eq_true', h b]
  constructor
  · rintro ⟨⟨a, w⟩, c⟩
    refine ⟨a, fun k hk => ?_⟩
    by_cases q : k = i
    · subst q
      rw [dgz_at h0 (by decide)]
      exact ⟨fun z => by omega, fun _ => c⟩
    · rw [dgz_ne h0 (by decide) q]
      exact w k hk
  · rintro ⟨a, w⟩
    refine ⟨⟨a, fun k hk => ?_⟩, ?_⟩
    · by_cases q : k = i
      · subst q
        rw [h0]
        exact ⟨fun z => by omega, fun z => by omega⟩
      · have := w k hk
        rw [dgz_ne h0 (by decide) q] at this
        exact this
    · exact (w i hi).2 (dgz_at h0 (by decide))
def KNo (A : Nat) (C : Nat → Nat) (N : Nat) (S : Sto) : Prop := ∀ t, t < 6561 → ∃ v : Nat, ai S 49 t = nI v ∧ v ≤ 100 ∧ (v = 0 ∨ ∀ X, Lft A C t X → v = fF C N (8 - nz t) X + 1)
abbrev kF (S T : Sto) : Prop := Fr [] [] [49] [] [] S T
def CgC (C : Nat → Nat) (N : Nat) (S : Sto) : Prop := gi S 44 = nI N ∧ ∀ k, k < N → al S 48 k = lN (2 * C k)
theorem CgC.fr {C : Nat → Nat} {N : Nat} {S T : Sto} (h : CgC C N S) (q : kF S T) : CgC C N T := by
  unfold CgC at h ⊢
  rw [q.gi 44 (by decide), q.al 48 (by decide)]
  exact h
section
variable {A N : Nat} {C : Nat → Nat}
/-- what the recursion does d deep -/
def RcOk (A : Nat) (C : Nat → Nat) (N d : Nat) (rc : Int64 → Int32 → Int32 → Sto → Option (Int32 × Sto)) : Prop := ∀ (t X : Nat) (S : Sto), t < 6561 → nz t + d = 8 → Lft A C t X → X < 2 ^ 60 → KNo A C N S → CgC C N S → ∃ S', rc (lN (2 * X)) (nI t) (nI (8 - d)) S = some (nI (fF C N d X), S') ∧ kF S S' ∧ KNo A C N S'
theorem hb_ok (hC : ∀ k, C k < 2 ^ 60) {d : Nat} {rc : Int64 → Int32 → Int32 → Sto → Option (Int32 × Sto)} (H : RcOk A C N d rc) (hN : N ≤ 8) {t X i : Nat} {S : Sto} (hi : i < N) (ht : t < 6561) (hn : nz t + (d + 1) = 8) (hL : Lft A C t X) (hX : X < 2 ^ 60) (hK : KNo A C N S) (hc : CgC C N S) :
    ∃ S', F_Fi_haulsBy rc (nI i) (nI (3 ^ i)) (lN (2 * X)) (nI t) (nI (8 - (d + 1))) S = some (nI (hb (fF C N d) C X i), S') ∧ kF S S' ∧ KNo A C N S' := by
  have hCi := hC i
  have hin : X &&& C i < 2 ^ 60 := in_lt _ hX
  have hou : ou X (C i) < 2 ^ 60 := ou_lt _ hX
  have e1 : lN (2 * X) &&& lN (2 * C i) = lN (2 * (X &&& C i)) := by rw [wb_and (by omega) (by omega), in_2]
  have e2 : lN (2 * X) &&& (lN (2 * C i) ^^^ -1) = lN (2 * ou X (C i)) := by rw [ou_L, ou_2]
  have p3 : 3 ^ i ≤ 2187 := Nat.le_trans (Nat.pow_le_pow_right (by decide) (show i ≤ 7 by omega)) (by decide)
  unfold F_Fi_haulsBy
  rw [if_neg (nI_pos (by omega)), show (8 : Int32) = nI 8 from rfl, if_pos (nI_lt (by omega) (by decide)), ck_t (ib_nI (by omega) (by decide)), ck_t (ib_nI (by omega) (by decide)), nI_clamp (by omega), hc.2 i hi, e1, e2]
  unfold hb
  by_cases s1 : X &&& C i = 0
  · rw [if_pos s1, if_pos (by rw [s1]; rfl)]
    exact ⟨S, rfl, Fr.rfl, hK⟩
  rw [if_neg s1, if_neg (by rw [(show (0 : Int64) = lN 0 from rfl), eq_lN (by omega) (by decide)]; omega)]
  by_cases s2 : ou X (C i) = 0
  · rw [if_pos s2, if_pos (by rw [s2]; rfl)]
    exact ⟨S, rfl, Fr.rfl, hK⟩
  rw [if_neg s2, if_neg (by rw [(show (0 : Int64) = lN 0 from rfl), eq_lN (by omega) (by decide)]; omega)]
  have h0 := hL.dgz0 (by omega) s1 s2
  have n1 : nI (8 - (d + 1)) + (1 : Int32) = nI (8 - d) := (nI_add _ 1).trans (congrArg nI (by omega))
  have t1 : nI t + nI (3 ^ i) = nI (t + 1 * 3 ^ i) := (nI_add _ _).trans (congrArg nI (by omega))
  have t2 : nI t + (2 : Int32) * nI (3 ^ i) = nI (t + 2 * 3 ^ i) := by rw [show (2 : Int32) = nI 2 from rfl, pk_mul, nI_add]
  have f1 := fF_99 (C := C) (N := N) d (X &&& C i)
  have f2 := fF_99 (C := C) (N := N) d (ou X (C i))
  obtain ⟨T, r1, r2, r3⟩ := H (t + 1 * 3 ^ i) (X &&& C i) S (dgz_bd ht h0 (by decide) (by omega)) (by rw [nz_add h0 (by decide) (by decide) (by omega)]; omega) (hL.in (by omega) h0) hin hK hc
  rw [n1, t1, r1, b2_s]
  by_cases q : 99 ≤ fF C N d (X &&& C i)
  · refine ⟨T, ?_, r2, r3⟩
    rw [show (99 : Int32) = nI 99 from rfl, if_pos (nI_le q (by omega))]
    unfold F_Fi_haulsBy_100
    rw [show (99 : Int32) = nI 99 from rfl, show nI (fF C N d (X &&& C i)) + (1 : Int32) = nI (fF C N d (X &&& C i) + 1) from nI_add _ 1, mniN (by omega) (by omega)]
    exact congrArg (fun z => some (nI z, T)) (by omega)
  · obtain ⟨U, u1, u2, u3⟩ := H (t + 2 * 3 ^ i) (ou X (C i)) T (dgz_bd ht h0 (by decide) (by omega)) (by rw [nz_add h0 (by decide) (by decide) (by omega)]; omega) (hL.out (by omega) h0) hou r3 (hc.fr r2)
    refine ⟨U, ?_, r2.trans u2, u3⟩
    rw [show (99 : Int32) = nI 99 from rfl, if_neg (by rw [le_nI (by decide) (by omega)]; exact q), t2, u1, b2_s]
    unfold F_Fi_haulsBy_100
    rw [mxiN (by omega) (by omega), show (99 : Int32) = nI 99 from rfl, show nI (max (fF C N d (X &&& C i)) (fF C N d (ou X (C i)))) + (1 : Int32) = nI (max (fF C N d (X &&& C i)) (fF C N d (ou X (C i))) + 1) from nI_add _ 1, mniN (by omega) (by omega)]
theorem fh_lp (hC : ∀ k, C k < 2 ^ 60) {d : Nat} {rc : Int64 → Int32 → Int32 → Sto → Option (Int32 × Sto)} (H : RcOk A C N d rc) (hN : N ≤ 8) {t X : Nat} (ht : t < 6561) (hn : nz t + (d + 1) = 8) (hL : Lft A C t X) (hX : X < 2 ^ 60) : ∀ (j n i a : Nat) (S : Sto), i + j = N → j < n → a ≤ 99 → KNo A C N S → CgC C N S →
    ∃ S', F_Fi_fewestHaulsb_61 rc n (lN (2 * X)) (nI t) (nI (8 - (d + 1))) (nI a) (nI (3 ^ i)) (nI i) S = F_Fi_fewestHaulsb_108 rc (nI t) (nI (mnF (hb (fF C N d) C X) i j a)) S' ∧ kF S S' ∧ KNo A C N S' := by
  intro j
  induction j with
  | zero =>
    intro n i a S hi hn' ha hK hc
    obtain ⟨n, rfl⟩ : ∃ q, n = q + 1 := ⟨n - 1, by omega⟩
    refine ⟨S, ?_, Fr.rfl, hK⟩
    rw [F_Fi_fewestHaulsb_61, hc.1, if_pos (nI_le (by omega) (by omega))]
    rfl
  | succ j ih =>
    intro n i a S hi hn' ha hK hc
    obtain ⟨n, rfl⟩ : ∃ q, n = q + 1 := ⟨n - 1, by omega⟩
    obtain ⟨T, t1, t2, t3⟩ := hb_ok hC H hN (show i < N by omega) ht hn hL hX hK hc
    have h99 := hb_99 (fF C N d) C X i
    obtain ⟨U, u1, u2, u3⟩ := ih n (i + 1) (min a (hb (fF C N d) C X i)) T (by omega) (by omega) (by omega) t3 (hc.fr t2)
    refine ⟨U, ?_, t2.trans u2, u3⟩
    rw [F_Fi_fewestHaulsb_61, hc.1, if_neg (nI_ge (by omega) (by omega)), show (8 : Int32) = nI 8 from rfl, if_neg (nI_ge (by omega) (by decide)), t1, b2_s, mniN (by omega) (by omega), show (3 : Int32) = nI 3 from rfl, pk_mul, ← Nat.pow_succ, show nI i + (1 : Int32) = nI (i + 1) from nI_add i 1]
    exact u1
theorem fh_few {X : Nat} (hX : X < 2 ^ 60) : (lN (2 * X) &&& (lN (2 * X) - 1) = 0) ↔ pc X < 2 := by
  rw [← pc_2 hX, ← few_k (by omega)]
  rcases Nat.eq_zero_or_pos X with z | p
  · subst z
    exact ⟨fun _ => rfl, fun _ => by decide⟩
  · have : (2 * X) &&& (2 * X - 1) ≤ 2 * X := Nat.and_le_left
    rw [show lN (2 * X) - (1 : Int64) = lN (2 * X - 1) from lN_sub (b := 1) (by omega), wb_and (by omega) (by omega), (show (0 : Int64) = lN 0 from rfl), eq_lN (by omega) (by decide)]
theorem fh_ok (hC : ∀ k, C k < 2 ^ 60) (hN : N ≤ 8) : ∀ (d n : Nat), d ≤ 8 → d < n → RcOk A C N d (F_Fi_fewestHauls n) := by
  intro d
  induction d with
  | zero =>
    intro n _ hn t X S ht hz hL hX hK hc
    obtain ⟨n, rfl⟩ : ∃ q, n = q + 1 := ⟨n - 1, by omega⟩
    refine ⟨S, ?_, Fr.rfl, hK⟩
    rw [F_Fi_fewestHauls]
    unfold F_Fi_fewestHaulsb
    by_cases w : pc X < 2
    · rw [if_pos ((fh_few hX).mpr w), fF_few w]; rfl
    · rw [if_neg (fun u => w ((fh_few hX).mp u)), show (8 : Int32) = nI 8 from rfl, if_pos (nI_le (by omega) (by omega)), fF, if_neg w]; rfl
  | succ d ih =>
    intro n hd hn t X S ht hz hL hX hK hc
    obtain ⟨n, rfl⟩ : ∃ q, n = q + 1 := ⟨n - 1, by omega⟩
    have H := ih n (by omega) (by omega)
    rw [F_Fi_fewestHauls]
    unfold F_Fi_fewestHaulsb
    by_cases w : pc X < 2
    · refine ⟨S, ?_, Fr.rfl, hK⟩
      rw [if_pos ((fh_few hX).mpr w), fF_few w]; rfl
    · obtain ⟨v, v1, v2, v3⟩ := hK t ht
      rw [if_neg (fun u => w ((fh_few hX).mp u)), show (8 : Int32) = nI 8 from rfl, if_neg (nI_ge (by omega) (by omega)), if_neg (nI_pos (by omega)), show (6561 : Int32) = nI 6561 from rfl, if_pos (nI_lt ht (by decide)), ck_t (ib_nI ht (by decide)), nI_clamp (by omega), v1]
      rcases v3 with z | v3
      · obtain ⟨T, t1, t2, t3⟩ := fh_lp hC H hN ht hz hL hX N FU 0 99 S (Nat.zero_add _) (by rw [FU_v]; omega) (by omega) hK hc
        have h99 := fF_99 (C := C) (N := N) (d + 1) X
        have e : mnF (hb (fF C N d) C X) 0 N 99 = fF C N (d + 1) X := (fF_s w).symm
        rw [e] at t1
        have fU : kF S (ui T 49 (upd (ai T 49) t (nI (fF C N (d + 1) X + 1)))) := t2.ui (by decide)
        refine ⟨_, ?_, fU, fun t' ht' => ?_⟩
        · subst z
          rw [if_pos (by decide), show (99 : Int32) = nI 99 from rfl, show (1 : Int32) = nI (3 ^ 0) from rfl, show (0 : Int32) = nI 0 from rfl, t1]
          unfold F_Fi_fewestHaulsb_108
          rw [ck_t (ib_nI ht (by decide)), nI_clamp (by omega), show nI (fF C N (d + 1) X) + (1 : Int32) = nI (fF C N (d + 1) X + 1) from nI_add _ 1]
        · show ∃ v, upd (ai T 49) t (nI (fF C N (d + 1) X + 1)) t' = nI v ∧ _
          rw [upd_at]
          by_cases q : t' = t
          · subst q
            rw [if_pos rfl]
            refine ⟨_, rfl, by omega, Or.inr (fun Y hY => ?_)⟩
            rw [hY.uni hL, show 8 - nz t' = d + 1 by omega]
          · rw [if_neg q]
            exact t3 t' ht'
      · have e := v3 X hL
        rw [show 8 - nz t = d + 1 by omega] at e
        refine ⟨S, ?_, Fr.rfl, hK⟩
        rw [if_neg (by rw [show (0 : Int32) = nI 0 from rfl, le_nI (by omega) (by decide)]; omega), ck_t (ib_nI ht (by decide)), show nI v - (1 : Int32) = nI (v - 1) from sub_nI (b := 1) (by omega), show v - 1 = fF C N (d + 1) X by omega]
end
