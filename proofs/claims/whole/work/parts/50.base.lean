/-! ===== numbers, stores and frames for the pure part ===== -/
theorem litI (n : Nat) : (OfNat.ofNat n : Int32) = nI (OfNat.ofNat n) := rfl
theorem litL (n : Nat) : (OfNat.ofNat n : Int64) = lN (OfNat.ofNat n) := rfl
theorem ck_tt {α : Type} {x : Option α} : ck true x = x := rfl
theorem ib_nI {k n : Nat} (h : k < n) (hn : n < 2147483648) : ib (nI k) n = true := by
  unfold ib
  rw [nI_clamp (by omega), decide_eq_false (nI_pos (by omega))]
  exact Nat.ble_eq_true_of_le h
theorem tn_nI {k : Nat} (h : k < 2147483648) : (nI k).toNatClampNeg = k := nI_clamp h
theorem le_nI {a b : Nat} (ha : a < 2147483648) (hb : b < 2147483648) : (nI a ≤ nI b) = (a ≤ b) := propext (nI_leI ha hb)
theorem lt_nI {a b : Nat} (ha : a < 2147483648) (hb : b < 2147483648) : (nI a < nI b) = (a < b) := propext (nI_ltI ha hb)
theorem eq_nI {a b : Nat} (ha : a < 2147483648) (hb : b < 2147483648) : (nI a = nI b) = (a = b) := propext (nI_eq ha hb)
theorem sub_nI {a b : Nat} (h : b ≤ a) : nI a - nI b = nI (a - b) := pk_sub h
theorem le_lN {a b : Nat} (ha : a < 9223372036854775808) (hb : b < 9223372036854775808) : (lN a ≤ lN b) = (a ≤ b) := propext (pk_lLE ha hb)
theorem lt_lN {a b : Nat} (ha : a < 9223372036854775808) (hb : b < 9223372036854775808) : (lN a < lN b) = (a < b) := propext (pk_lLT ha hb)
theorem eq_lN {a b : Nat} (ha : a < 9223372036854775808) (hb : b < 9223372036854775808) : (lN a = lN b) = (a = b) := propext (pk_lEQ ha hb)
theorem div_lN {a b : Nat} (ha : a < 9223372036854775808) (h0 : 0 < b) (hb : b < 9223372036854775808) : lN a / lN b = lN (a / b) := pk_lDiv ha h0 hb
theorem rem_lN {a b : Nat} (ha : a < 9223372036854775808) (h0 : 0 < b) (hb : b < 9223372036854775808) : lN a - lN a / lN b * lN b = lN (a % b) := pk_lRem ha h0 hb
theorem div_nI {a b : Nat} (ha : a < 2147483648) (h0 : 0 < b) (hb : b < 2147483648) : nI a / nI b = nI (a / b) := pk_div ha h0 hb
theorem rem_nI {a b : Nat} (ha : a < 2147483648) (h0 : 0 < b) (hb : b < 2147483648) : nI a - nI a / nI b * nI b = nI (a % b) := pk_rem ha h0 hb
theorem sub_lN {a b : Nat} (h : b ≤ a) : lN a - lN b = lN (a - b) := lN_sub h
theorem nzI_nI {k : Nat} (h0 : 0 < k) (h : k < 2147483648) : nzI (nI k) = true := decide_eq_true (nI_ne0 h0 h)
theorem nzL_lN {k : Nat} (h0 : 0 < k) (h : k < 9223372036854775808) : nzL (lN k) = true := by
  refine decide_eq_true ?_
  rw [show (0 : Int64) = lN 0 from rfl, pk_lEQ h (by omega)]
  omega
theorem i2l_nI {k : Nat} (h : k < 2147483648) : (nI k).toInt64 = lN k := nI_l h
theorem l2i_lN (k : Nat) : (lN k).toInt32 = nI k := lN_i k
theorem b01_0 : b01 (nI 0) = true := rfl
theorem b01_1 : b01 (nI 1) = true := rfl
def bI (b : Bool) : Int32 := bif b then nI 1 else nI 0
theorem b01_b (b : Bool) : b01 (bI b) = true := by cases b <;> rfl
theorem bI_0 (b : Bool) : (bI b = nI 0) = (b = false) := by cases b <;> exact propext ⟨fun h => by revert h; decide, fun h => by revert h; decide⟩
theorem bI_z (b : Bool) : (bI b = 0) = (b = false) := bI_0 b
theorem bI_inj {a b : Bool} : (bI a = bI b) = (a = b) := by cases a <;> cases b <;> exact propext ⟨fun h => by revert h; decide, fun h => by revert h; decide⟩
theorem vpn_b (b : Bool) : vp_nar .boolean (bI b) = bI b := by cases b <;> decide
theorem vpn_0 : vp_nar .boolean (nI 0) = nI 0 := by decide
theorem vpn_1 : vp_nar .boolean (nI 1) = nI 1 := by decide
theorem FU_v : FU = 1099511627776 := rfl
/-! ints and longs of whole numbers -/
def zI (z : Int) : Int32 := Int32.ofInt z
def zL (z : Int) : Int64 := Int64.ofInt z
theorem nI_z (n : Nat) : nI n = zI (n : Int) := (Int32.ofInt_eq_ofNat).symm
theorem lN_z (n : Nat) : lN n = zL (n : Int) := (Int64.ofInt_eq_ofNat).symm
theorem zI_n {z : Int} (h : 0 ≤ z) : zI z = nI z.toNat := by rw [nI_z, Int.toNat_of_nonneg h]
theorem zL_n {z : Int} (h : 0 ≤ z) : zL z = lN z.toNat := by rw [lN_z, Int.toNat_of_nonneg h]
theorem add_zI (a b : Int) : zI a + zI b = zI (a + b) := (Int32.ofInt_add a b).symm
theorem sub_zI (a b : Int) : zI a - zI b = zI (a - b) := (Int32.ofInt_sub a b).symm
theorem mul_zI (a b : Int) : zI a * zI b = zI (a * b) := (Int32.ofInt_mul a b).symm
theorem neg_zI (a : Int) : -zI a = zI (-a) := (Int32.ofInt_neg a).symm
theorem add_zL (a b : Int) : zL a + zL b = zL (a + b) := (Int64.ofInt_add a b).symm
theorem sub_zL (a b : Int) : zL a - zL b = zL (a - b) := (Int64.ofInt_sub a b).symm
theorem mul_zL (a b : Int) : zL a * zL b = zL (a * b) := (Int64.ofInt_mul a b).symm
theorem neg_zL (a : Int) : -zL a = zL (-a) := (Int64.ofInt_neg a).symm
theorem zI_t {a : Int} (h : -2147483648 ≤ a) (h2 : a < 2147483648) : (zI a).toInt = a := Int32.toInt_ofInt_of_le h h2
theorem zL_t {a : Int} (h : -9223372036854775808 ≤ a) (h2 : a < 9223372036854775808) : (zL a).toInt = a := Int64.toInt_ofInt_of_le h h2
theorem zI_of (x : Int32) : x = zI x.toInt := (Int32.ofInt_toInt x).symm
theorem zL_of (x : Int64) : x = zL x.toInt := (Int64.ofInt_toInt x).symm
theorem le_zI {a b : Int} (h : -2147483648 ≤ a) (h2 : a < 2147483648) (h3 : -2147483648 ≤ b) (h4 : b < 2147483648) : (zI a ≤ zI b) = (a ≤ b) := by
  rw [Int32.le_iff_toInt_le, zI_t h h2, zI_t h3 h4]
theorem lt_zI {a b : Int} (h : -2147483648 ≤ a) (h2 : a < 2147483648) (h3 : -2147483648 ≤ b) (h4 : b < 2147483648) : (zI a < zI b) = (a < b) := by
  rw [Int32.lt_iff_toInt_lt, zI_t h h2, zI_t h3 h4]
theorem eq_zI {a b : Int} (h : -2147483648 ≤ a) (h2 : a < 2147483648) (h3 : -2147483648 ≤ b) (h4 : b < 2147483648) : (zI a = zI b) = (a = b) := by
  rw [← Int32.toInt_inj, zI_t h h2, zI_t h3 h4]
theorem le_zL {a b : Int} (h : -9223372036854775808 ≤ a) (h2 : a < 9223372036854775808) (h3 : -9223372036854775808 ≤ b) (h4 : b < 9223372036854775808) : (zL a ≤ zL b) = (a ≤ b) := by
  rw [Int64.le_iff_toInt_le, zL_t h h2, zL_t h3 h4]
theorem lt_zL {a b : Int} (h : -9223372036854775808 ≤ a) (h2 : a < 9223372036854775808) (h3 : -9223372036854775808 ≤ b) (h4 : b < 9223372036854775808) : (zL a < zL b) = (a < b) := by
  rw [Int64.lt_iff_toInt_lt, zL_t h h2, zL_t h3 h4]
theorem eq_zL {a b : Int} (h : -9223372036854775808 ≤ a) (h2 : a < 9223372036854775808) (h3 : -9223372036854775808 ≤ b) (h4 : b < 9223372036854775808) : (zL a = zL b) = (a = b) := by
  rw [← Int64.toInt_inj, zL_t h h2, zL_t h3 h4]
theorem div_zI {a b : Int} (h : -2147483648 ≤ a) (h2 : a < 2147483648) (h3 : -2147483648 ≤ b) (h4 : b < 2147483648) : zI a / zI b = zI (a.tdiv b) := (Int32.ofInt_tdiv h (by rw [show Int32.maxValue.toInt = 2147483647 from rfl]; omega) h3 (by rw [show Int32.maxValue.toInt = 2147483647 from rfl]; omega)).symm
theorem div_zL {a b : Int} (h : -9223372036854775808 ≤ a) (h2 : a < 9223372036854775808) (h3 : -9223372036854775808 ≤ b) (h4 : b < 9223372036854775808) : zL a / zL b = zL (a.tdiv b) := (Int64.ofInt_tdiv h (by rw [show Int64.maxValue.toInt = 9223372036854775807 from rfl]; omega) h3 (by rw [show Int64.maxValue.toInt = 9223372036854775807 from rfl]; omega)).symm
theorem rem_zI {a b : Int} (h : -2147483648 ≤ a) (h2 : a < 2147483648) (h3 : -2147483648 ≤ b) (h4 : b < 2147483648) : zI a - zI a / zI b * zI b = zI (a.tmod b) := by
  rw [div_zI h h2 h3 h4, mul_zI, sub_zI, Int.tmod_def, Int.mul_comm b]
theorem rem_zL {a b : Int} (h : -9223372036854775808 ≤ a) (h2 : a < 9223372036854775808) (h3 : -9223372036854775808 ≤ b) (h4 : b < 9223372036854775808) : zL a - zL a / zL b * zL b = zL (a.tmod b) := by
  rw [div_zL h h2 h3 h4, mul_zL, sub_zL, Int.tmod_def, Int.mul_comm b]
theorem i2l_zI {a : Int} (h : -2147483648 ≤ a) (h2 : a < 2147483648) : (zI a).toInt64 = zL a := by
  rw [← Int64.toInt_inj, Int32.toInt_toInt64, zI_t h h2, zL_t (by omega) (by omega)]
theorem l2i_zL (a : Int) : (zL a).toInt32 = zI a := Int64.toInt32_ofInt
theorem nzI_zI {k : Int} (h0 : k ≠ 0) (h : -2147483648 ≤ k) (h2 : k < 2147483648) : nzI (zI k) = true := by
  refine decide_eq_true ?_
  rw [show (0 : Int32) = zI 0 from rfl, eq_zI h h2 (by decide) (by decide)]
  exact h0
theorem nzL_zL {k : Int} (h0 : k ≠ 0) (h : -9223372036854775808 ≤ k) (h2 : k < 9223372036854775808) : nzL (zL k) = true := by
  refine decide_eq_true ?_
  rw [show (0 : Int64) = zL 0 from rfl, eq_zL h h2 (by decide) (by decide)]
  exact h0
/-! a number's cases: it is below 0, or some nI -/
theorem I_cases (x : Int32) : x < nI 0 ∨ ∃ k : Nat, k < 2147483648 ∧ x = nI k := by
  by_cases h : x < 0
  · exact Or.inl h
  · obtain ⟨k, h1, h2⟩ := nI_of h
    exact Or.inr ⟨k, h1, h2⟩
theorem L_cases (x : Int64) : x < lN 0 ∨ ∃ k : Nat, k < 9223372036854775808 ∧ x = lN k := by
  by_cases h : x < 0
  · exact Or.inl h
  · obtain ⟨k, h1, h2⟩ := pk_lOf h
    exact Or.inr ⟨k, h1, h2⟩
theorem neg_lt {x : Int32} {k : Nat} (h : x < nI 0) (hk : k < 2147483648) : (x < nI k) = True := by
  refine eq_true ?_
  rw [Int32.lt_iff_toInt_lt] at h ⊢
  rw [nI_toInt (by omega)] at h ⊢
  omega
theorem neg_le {x : Int32} {k : Nat} (h : x < nI 0) (hk : k < 2147483648) : (nI k ≤ x) = False := by
  refine eq_false ?_
  rw [Int32.lt_iff_toInt_lt] at h
  rw [Int32.le_iff_toInt_le]
  rw [nI_toInt (by omega)] at h ⊢
  omega
theorem neg_ltL {x : Int64} {k : Nat} (h : x < lN 0) (hk : k < 9223372036854775808) : (x < lN k) = True := by
  refine eq_true ?_
  rw [Int64.lt_iff_toInt_lt] at h ⊢
  rw [pk_lT (by omega)] at h ⊢
  omega
theorem neg_leL {x : Int64} {k : Nat} (h : x < lN 0) (hk : k < 9223372036854775808) : (lN k ≤ x) = False := by
  refine eq_false ?_
  rw [Int64.lt_iff_toInt_lt] at h
  rw [Int64.le_iff_toInt_le]
  rw [pk_lT (by omega)] at h ⊢
  omega
/-! what a run of a part may change: keys of ints, longs, int rows, long rows, refs -/
def Fr (a b c d e : List Nat) (S T : Sto) : Prop := (∀ k, k ∉ a → gi T k = gi S k) ∧ (∀ k, k ∉ b → gl T k = gl S k) ∧ (∀ k, k ∉ c → ai T k = ai S k) ∧ (∀ k, k ∉ d → al T k = al S k) ∧ (∀ k, k ∉ e → gr T k = gr S k)
section Frames
variable {a b c d e : List Nat} {S T U : Sto}
theorem Fr.rfl : Fr a b c d e S S := ⟨fun _ _ => Eq.refl _, fun _ _ => Eq.refl _, fun _ _ => Eq.refl _, fun _ _ => Eq.refl _, fun _ _ => Eq.refl _⟩
theorem Fr.trans (h : Fr a b c d e S T) (g : Fr a b c d e T U) : Fr a b c d e S U :=
  ⟨fun k q => (g.1 k q).trans (h.1 k q), fun k q => (g.2.1 k q).trans (h.2.1 k q), fun k q => (g.2.2.1 k q).trans (h.2.2.1 k q), fun k q => (g.2.2.2.1 k q).trans (h.2.2.2.1 k q), fun k q => (g.2.2.2.2 k q).trans (h.2.2.2.2 k q)⟩
theorem Fr.mono {a' b' c' d' e' : List Nat} (h : Fr a b c d e S T) (ha : ∀ k ∈ a, k ∈ a') (hb : ∀ k ∈ b, k ∈ b') (hc : ∀ k ∈ c, k ∈ c') (hd : ∀ k ∈ d, k ∈ d') (he : ∀ k ∈ e, k ∈ e') : Fr a' b' c' d' e' S T :=
  ⟨fun k q => h.1 k (fun x => q (ha k x)), fun k q => h.2.1 k (fun x => q (hb k x)), fun k q => h.2.2.1 k (fun x => q (hc k x)), fun k q => h.2.2.2.1 k (fun x => q (hd k x)), fun k q => h.2.2.2.2 k (fun x => q (he k x))⟩
theorem Fr.gi (h : Fr a b c d e S T) (k : Nat) (q : k ∉ a) : gi T k = gi S k := h.1 k q
theorem Fr.gl (h : Fr a b c d e S T) (k : Nat) (q : k ∉ b) : gl T k = gl S k := h.2.1 k q
theorem Fr.ai (h : Fr a b c d e S T) (k : Nat) (q : k ∉ c) : ai T k = ai S k := h.2.2.1 k q
theorem Fr.al (h : Fr a b c d e S T) (k : Nat) (q : k ∉ d) : al T k = al S k := h.2.2.2.1 k q
theorem Fr.gr (h : Fr a b c d e S T) (k : Nat) (q : k ∉ e) : gr T k = gr S k := h.2.2.2.2 k q
theorem Fr.si {j : Nat} {v : Int32} (h : Fr a b c d e S T) (q : j ∈ a) : Fr a b c d e S (si T j v) :=
  ⟨fun k x => by rw [gi_si, if_neg (fun (w : k = j) => x (by rw [w]; exact q))]; exact h.1 k x, h.2.1, h.2.2.1, h.2.2.2.1, h.2.2.2.2⟩
theorem Fr.sl {j : Nat} {v : Int64} (h : Fr a b c d e S T) (q : j ∈ b) : Fr a b c d e S (sl T j v) :=
  ⟨h.1, fun k x => by rw [gl_sl, if_neg (fun (w : k = j) => x (by rw [w]; exact q))]; exact h.2.1 k x, h.2.2.1, h.2.2.2.1, h.2.2.2.2⟩
theorem Fr.ui {j : Nat} {v : Nat → Int32} (h : Fr a b c d e S T) (q : j ∈ c) : Fr a b c d e S (ui T j v) :=
  ⟨h.1, h.2.1, fun k x => by rw [ai_ui, if_neg (fun (w : k = j) => x (by rw [w]; exact q))]; exact h.2.2.1 k x, h.2.2.2.1, h.2.2.2.2⟩
theorem Fr.ul {j : Nat} {v : Nat → Int64} (h : Fr a b c d e S T) (q : j ∈ d) : Fr a b c d e S (ul T j v) :=
  ⟨h.1, h.2.1, h.2.2.1, fun k x => by rw [al_ul, if_neg (fun (w : k = j) => x (by rw [w]; exact q))]; exact h.2.2.2.1 k x, h.2.2.2.2⟩
theorem Fr.sr {j : Nat} {v : Nat} (h : Fr a b c d e S T) (q : j ∈ e) : Fr a b c d e S (sr T j v) :=
  ⟨h.1, h.2.1, h.2.2.1, h.2.2.2.1, fun k x => by rw [gr_sr, if_neg (fun (w : k = j) => x (by rw [w]; exact q))]; exact h.2.2.2.2 k x⟩
end Frames
/-! keys that questions alone use, in the class and in the model -/
abbrev qa : List Nat := [42, 43, 44, 45, 46, 47]
abbrev qc : List Nat := [45, 49, 51, 52, 56, 57, 300, 301, 302, 303, 304, 305, 306, 307, 308, 309, 310, 311, 312, 313, 314, 315, 316, 317, 318, 319, 320, 321, 322, 323, 324, 325, 326, 327, 328, 329, 330, 331]
abbrev qd : List Nat := [26, 46, 48, 54, 55]
abbrev qe : List Nat := [48, 49]
def QS (S T : Sto) : Prop := Fr qa [] qc qd qe S T
abbrev ma : List Nat := [1001, 1026, 1027, 1028]
abbrev mb : List Nat := [1022, 1023, 1024, 1025]
abbrev mc : List Nat := [1013, 1014, 1015, 1020, 1021, 1024]
abbrev md : List Nat := [1019, 1022, 1023, 1025, 1026]
def QM (S T : Sto) : Prop := Fr ma mb mc md [] S T
theorem QS.rfl {S : Sto} : QS S S := Fr.rfl
theorem QM.rfl {S : Sto} : QM S S := Fr.rfl
theorem QS.trans {S T U : Sto} (h : QS S T) (g : QS T U) : QS S U := Fr.trans h g
theorem QM.trans {S T U : Sto} (h : QM S T) (g : QM T U) : QM S U := Fr.trans h g
theorem upd_at {f : Nat → Int32} {k j : Nat} {x : Int32} : upd f k x j = if j = k then x else f j := by
  by_cases h : j = k
  · rw [h, if_pos rfl]; exact pk_us
  · rw [if_neg h]; exact pk_un h
theorem updL_at {f : Nat → Int64} {k j : Nat} {x : Int64} : vp_updL f k x j = if j = k then x else f j := by
  by_cases h : j = k
  · rw [h, if_pos rfl]; exact pk_uLs
  · rw [if_neg h]; exact pk_uLn h
