/-! ===== licences by sums: the class ===== -/
/-- the row a holds the last, the row b the next -/
def LiR (a b : Nat) (S : Sto) : Prop := gr S 48 = a ∧ gr S 49 = b ∧ isLb a = true ∧ isLb b = true ∧ a ≠ b
theorem LiR.fr {a b : Nat} {S T : Sto} (h : LiR a b S) (q : Fr [] [] [] [b] [] S T) : LiR a b T := ⟨(q.gr 48 (by decide)).trans h.1, (q.gr 49 (by decide)).trans h.2.1, h.2.2⟩
def VV (m t a o : Nat) : Int64 := if o % m = t then (if nI t = 0 then (lN a + 1) - 1 else lN a + 1) else (if nI t = 0 then (lN a + 0) - 1 else lN a + 0)
section
variable {a b m own d : Nat} {L : Nat → Nat}
theorem liAdd {S : Sto} (h : LiR a b S) {p : Nat} (hm : 0 < m) (hm2 : m ≤ 50) (hp : p < 2147483648) (v : Int64) : F_Li_add (nI p) (nI m) v S = some ((), ul S b (vp_updL (al S b) (p % m) (al S b (p % m) + v))) := by
  have hq : p % m < m := Nat.mod_lt _ hm
  unfold F_Li_add
  rw [i2l_nI hp, i2l_nI (by omega), remW (by omega) hm (by omega), b1_s, l2i_lN, if_neg (nI_pos (by omega)), show (50 : Int32) = nI 50 from rfl, if_neg (nI_ge (by omega) (by omega)), h.2.1, ck_t h.2.2.2.1, ck_t (ib_nI (by omega) (by decide)), ck_t h.2.2.2.1, ck_t (ib_nI (by omega) (by decide)), nI_clamp (by omega)]
theorem ulB (S : Sto) (b p : Nat) (v : Int64) (r : Nat) : al (ul S b (vp_updL (al S b) p v)) b r = if r = p then v else al S b r := by
  rw [al_ul, if_pos rfl, updL_at]
theorem ulF (S : Sto) (b : Nat) (g : Nat → Int64) : Fr [] [] [] [b] [] S (ul S b g) := Fr.rfl.ul (List.mem_singleton.mpr rfl)
theorem lng3 (x1 x2 x3 : Int32) : ∀ (j n k : Nat) (S : Sto), k + j = 50 → j < n → LiR a b S → (∀ i, i < k → al S b i = lN 0) → ∃ T, F_Li_lengthen_3 n x1 x2 x3 (nI k) S = F_Li_lengthen_27 FU x1 x2 x3 0 T ∧ Fr [] [] [] [b] [] S T ∧ (∀ i, i < 50 → al T b i = lN 0) := by
  intro j
  induction j with
  | zero =>
    intro n k S hk hn h h0
    obtain ⟨n, rfl⟩ : ∃ q, n = q + 1 := ⟨n - 1, by omega⟩
    have : k = 50 := by omega
    subst this
    exact ⟨S, by rw [F_Li_lengthen_3, if_pos (by decide)], Fr.rfl, h0⟩
  | succ j ih =>
    intro n k S hk hn h h0
    obtain ⟨n, rfl⟩ : ∃ q, n = q + 1 := ⟨n - 1, by omega⟩
    obtain ⟨T, e1, e2, e3⟩ := ih n (k + 1) (ul S b (vp_updL (al S b) k 0)) (by omega) (by omega) (h.fr (ulF ..)) (fun i hi => by
      rw [ulB]
      by_cases q : i = k
      · rw [if_pos q]; rfl
      · rw [if_neg q]; exact h0 i (by omega))
    refine ⟨T, ?_, (ulF ..).trans e2, e3⟩
    rw [F_Li_lengthen_3, show (50 : Int32) = nI 50 from rfl, if_neg (nI_ge (by omega) (by decide)), h.2.1, ck_t h.2.2.2.1, ck_t (ib_nI (by omega) (by decide)), nI_clamp (by omega), show nI k + (1 : Int32) = nI (k + 1) from nI_add k 1]
    exact e1
theorem len43 (hm : 0 < m) (hm2 : m ≤ 50) (k27 : Int32 → Int32 → Int32 → Int32 → Sto → Option (Unit × Sto)) (x2 x3 : Int32) {s : Nat} (hs : s < m) : ∀ (j n f : Nat) (S : Sto), f + j = 10 → j < n → LiR a b S → (∀ r, r < m → al S a r = lN (L r)) → (∀ r, r < m → al S b r = lN (dsP m L s f r)) → ∃ T, F_Li_lengthen_43 k27 n (nI m) x2 x3 (nI s) (nI f) S = k27 (nI m) x2 x3 (nI (s + 1)) T ∧ Fr [] [] [] [b] [] S T ∧ (∀ r, r < m → al T b r = lN (dsP m L (s + 1) 0 r)) := by
  intro j
  induction j with
  | zero =>
    intro n f S hf hn h hA hB
    obtain ⟨n, rfl⟩ : ∃ q, n = q + 1 := ⟨n - 1, by omega⟩
    have : f = 10 := by omega
    subst this
    refine ⟨S, ?_, Fr.rfl, fun r hr => by rw [hB r hr, dsP_0]⟩
    rw [F_Li_lengthen_43, if_pos (by decide), show nI s + (1 : Int32) = nI (s + 1) from nI_add s 1]
  | succ j ih =>
    intro n f S hf hn h hA hB
    obtain ⟨n, rfl⟩ : ∃ q, n = q + 1 := ⟨n - 1, by omega⟩
    have hab := h.2.2.2.2
    obtain ⟨T, e1, e2, e3⟩ := ih n (f + 1) (ul S b (vp_updL (al S b) ((s + f) % m) (al S b ((s + f) % m) + lN (L s)))) (by omega) (by omega) (h.fr (ulF ..)) (fun r hr => by
      rw [(ulF S b _).al a (fun q => hab (List.mem_singleton.mp q))]; exact hA r hr) (fun r hr => by
      rw [ulB, dsP_s]
      by_cases q : r = (s + f) % m
      · rw [if_pos q, if_pos q.symm, ← q, hB r hr, lN_add]
      · rw [if_neg q, if_neg (fun e => q e.symm)]; exact hB r hr)
    refine ⟨T, ?_, (ulF ..).trans e2, e3⟩
    rw [F_Li_lengthen_43, (show (10 : Int32) = nI 10 from rfl), if_neg (nI_ge (by omega) (by decide)), h.1, ck_t h.2.2.1, ck_t (ib_nI (by omega) (by decide)), nI_clamp (by omega), hA s hs, nI_add, liAdd h hm hm2 (by omega), b2_s, show nI f + (1 : Int32) = nI (f + 1) from nI_add f 1]
    exact e1
theorem len27 (hm : 0 < m) (hm2 : m ≤ 50) (x2 x3 : Int32) : ∀ (j n s : Nat) (S : Sto), s + j = m → j < n → LiR a b S → (∀ r, r < m → al S a r = lN (L r)) → (∀ r, r < m → al S b r = lN (dsP m L s 0 r)) → ∃ T, F_Li_lengthen_27 n (nI m) x2 x3 (nI s) S = F_Li_lengthen_82 FU (nI m) x2 x3 0 T ∧ Fr [] [] [] [b] [] S T ∧ (∀ r, r < m → al T b r = lN (DS m L r)) := by
  intro j
  induction j with
  | zero =>
    intro n s S hs hn h hA hB
    obtain ⟨n, rfl⟩ : ∃ q, n = q + 1 := ⟨n - 1, by omega⟩
    have : s = m := by omega
    subst this
    refine ⟨S, ?_, Fr.rfl, hB⟩
    rw [F_Li_lengthen_27, if_pos (nI_le (Nat.le_refl _) (by omega))]
    rfl
  | succ j ih =>
    intro n s S hs hn h hA hB
    obtain ⟨n, rfl⟩ : ∃ q, n = q + 1 := ⟨n - 1, by omega⟩
    have hab := h.2.2.2.2
    obtain ⟨T, e1, e2, e3⟩ := len43 hm hm2 (F_Li_lengthen_27 n) x2 x3 (show s < m by omega) 10 FU 0 S rfl (by rw [FU_v]; decide) h hA hB
    obtain ⟨U, u1, u2, u3⟩ := ih n (s + 1) T (by omega) (by omega) (h.fr e2) (fun r hr => by rw [e2.al a (fun q => hab (List.mem_singleton.mp q))]; exact hA r hr) e3
    refine ⟨U, ?_, e2.trans u2, u3⟩
    rw [F_Li_lengthen_27, if_neg (nI_ge (by omega) (by omega)), show (50 : Int32) = nI 50 from rfl, if_neg (nI_ge (by omega) (by omega))]
    exact e1.trans u1
theorem Ee_s (m own d u : Nat) : Ee m own (d + 1) u = Ee m own d u + (if (own + d) % m = u then 1 else 0) := rfl
theorem len82 (hm : 0 < m) (hm2 : m ≤ 50) (hd : d < 10) (ho : own ≤ 1000) : ∀ (j n x : Nat) (S : Sto), x + j = d → j < n → LiR a b S → (∀ r, r < m → al S b r = lN (DS m L r + Ee m own x r)) → ∃ T, F_Li_lengthen_82 n (nI m) (nI own) (nI d) (nI x) S = some ((), sr (sr T 48 (gr T 49)) 49 (gr T 48)) ∧ Fr [] [] [] [b] [] S T ∧ (∀ r, r < m → al T b r = lN (DS m L r + Ee m own d r)) := by
  intro j
  induction j with
  | zero =>
    intro n x S hx hn h hB
    obtain ⟨n, rfl⟩ : ∃ q, n = q + 1 := ⟨n - 1, by omega⟩
    have : x = d := by omega
    subst this
    refine ⟨S, ?_, Fr.rfl, hB⟩
    rw [F_Li_lengthen_82, if_pos (nI_le (Nat.le_refl _) (by omega))]
  | succ j ih =>
    intro n x S hx hn h hB
    obtain ⟨n, rfl⟩ : ∃ q, n = q + 1 := ⟨n - 1, by omega⟩
    obtain ⟨T, e1, e2, e3⟩ := ih n (x + 1) (ul S b (vp_updL (al S b) ((own + x) % m) (al S b ((own + x) % m) + 1))) (by omega) (by omega) (h.fr (ulF ..)) (fun r hr => by
      rw [ulB, Ee_s]
      by_cases q : r = (own + x) % m
      · rw [if_pos q, if_pos q.symm, ← q, hB r hr, (show (1 : Int64) = lN 1 from rfl), lN_add, Nat.add_assoc]
      · rw [if_neg q, if_neg (fun e => q e.symm)]; exact hB r hr)
    refine ⟨T, ?_, (ulF ..).trans e2, e3⟩
    rw [F_Li_lengthen_82, if_neg (nI_ge (by omega) (by omega)), nI_add, liAdd h hm hm2 (by omega), b2_s, show nI x + (1 : Int32) = nI (x + 1) from nI_add x 1]
    exact e1
theorem len_ok (hm : 0 < m) (hm2 : m ≤ 50) (hd : d < 10) (ho : own ≤ 1000) {S : Sto} (h : LiR a b S) (hA : ∀ r, r < m → al S a r = lN (L r)) : ∃ T, F_Li_lengthen (nI m) (nI own) (nI d) S = some ((), T) ∧ LiR b a T ∧ Fr [] [] [] [54, 55] [48, 49] S T ∧ (∀ r, r < m → al T b r = lN (DS m L r + Ee m own d r)) := by
  have hab := h.2.2.2.2
  obtain ⟨T, e1, e2, e3⟩ := lng3 (a := a) (b := b) (nI m) (nI own) (nI d) 50 FU 0 S rfl (by rw [FU_v]; decide) h (fun i hi => absurd hi (Nat.not_lt_zero i))
  obtain ⟨U, u1, u2, u3⟩ := len27 (a := a) (b := b) (L := L) hm hm2 (nI own) (nI d) m FU 0 T (Nat.zero_add m) (by rw [FU_v]; omega) (h.fr e2) (fun r hr => by rw [e2.al a (fun q => hab (List.mem_singleton.mp q))]; exact hA r hr) (fun r hr => e3 r (by omega))
  obtain ⟨W, w1, w2, w3⟩ := len82 (a := a) (b := b) (L := L) (own := own) (d := d) hm hm2 hd ho d FU 0 U (Nat.zero_add d) (by rw [FU_v]; omega) ((h.fr e2).fr u2) u3
  have hW := ((h.fr e2).fr u2).fr w2
  have hb : b ∈ [54, 55] := by
    rcases isL_at h.2.2.2.1 with e | e <;> rw [e] <;> decide
  have hF : Fr [] [] [] [54, 55] [48, 49] S W := ((e2.trans u2).trans w2).mono (fun _ q => q) (fun _ q => q) (fun _ q => q) (fun k q => by rw [List.mem_singleton.mp q]; exact hb) (fun k q => absurd q (List.not_mem_nil))
  refine ⟨sr (sr W 48 b) 49 a, ?_, ⟨rfl, rfl, h.2.2.2.1, h.2.2.1, fun e => hab e.symm⟩, (hF.sr (by decide)).sr (by decide), w3⟩
  unfold F_Li_lengthen
  rw [hW.1, hW.2.1] at w1
  exact e1.trans (u1.trans w1)
theorem p16 {e : Nat} (h : e ≤ 15) : 0 < 10 ^ e ∧ 10 ^ e ≤ 10000000000000000 := p10 (show e ≤ 16 by omega)
theorem up_lp {N t : Nat} (hN : N ≤ 1000000000000000) (hm : 0 < m) (hm2 : m ≤ 50) (ht : t < m) : ∀ (e k own a b : Nat) (S : Sto) (L : Nat → Nat), e ≤ 15 → e + 2 ≤ k → own + 10 * e ≤ 150 → LiR a b S → (∀ r, r < m → al S a r = lN (L r)) →
    ∃ T, F_Li_addingUpTo_32 k (lN N) (nI m) (nI t) (nI own) (lN (10 ^ e)) S = F_Li_addingUpTo_100 (nI m) (nI t) (nI (OW N own (e + 1))) (lN (cvl m L (e + 1) t + FS N m t own (e + 1))) T ∧ Fr [] [] [] [54, 55] [48, 49] S T ∧ ∃ a b, LiR a b T := by
  have step : ∀ (e k own a b : Nat) (S : Sto) (L : Nat → Nat), e ≤ 15 → own ≤ 1000 → LiR a b S → (∀ r, r < m → al S a r = lN (L r)) → ∃ T, F_Li_addingUpTo_32 (k + 1) (lN N) (nI m) (nI t) (nI own) (lN (10 ^ e)) S = F_Li_addingUpTo_32 k (lN N) (nI m) (nI t) (nI (own + dg N e)) (lN (10 ^ e / 10)) T ∧ LiR b a T ∧ Fr [] [] [] [54, 55] [48, 49] S T ∧ (∀ r, r < m → al T b r = lN (DS m L r + Ee m own (dg N e) r)) := by
    intro e k own a b S L he ho h hA
    obtain ⟨p1, p2⟩ := p16 he
    obtain ⟨T, t1, t2, t3, t4⟩ := len_ok (d := dg N e) (L := L) hm hm2 (dg_lt N e) ho h hA
    refine ⟨T, ?_, t2, t3, t4⟩
    have hd : N / 10 ^ e < 9223372036854775808 := Nat.lt_of_le_of_lt (Nat.div_le_self _ _) (by omega)
    unfold dg at t1 ⊢
    rw [F_Li_addingUpTo_32, (show (0 : Int64) = lN 0 from rfl), if_neg (by rw [le_lN (by omega) (by decide)]; omega), ck_t (nzL_lN p1 (by omega)), div_lN (by omega) p1 (by omega), (show (10 : Int64) = lN 10 from rfl), rem_lN hd (by decide) (by decide), l2i_lN, t1, b2_s, nm_q (nI_add _ _), div_lN (by omega) (by decide) (by decide)]
  intro e
  induction e with
  | zero =>
    intro k own a b S L he hk ho h hA
    obtain ⟨k, rfl⟩ : ∃ q, k = q + 1 + 1 := ⟨k - 2, by omega⟩
    obtain ⟨T, t1, t2, t3, t4⟩ := step 0 (k + 1) own a b S L he (by omega) h hA
    refine ⟨T, ?_, t3, b, a, t2⟩
    rw [t1, F_Li_addingUpTo_32, if_pos (by decide), if_neg (nI_pos (by omega)), show (50 : Int32) = nI 50 from rfl, if_neg (nI_ge (by omega) (by decide)), t2.1, ck_t t2.2.2.1, ck_t (ib_nI (by omega) (by decide)), nI_clamp (by omega), t4 t ht]
    have e1 := cv_step (L := L) (k := 0) (own := own) (d := dg N 0) hm ht
    rw [cv_0 hm ht] at e1
    rw [e1]
    rfl
  | succ e ih =>
    intro k own a b S L he hk ho h hA
    obtain ⟨k, rfl⟩ : ∃ q, k = q + 1 := ⟨k - 1, by omega⟩
    obtain ⟨T, t1, t2, t3, t4⟩ := step (e + 1) k own a b S L he (by omega) h hA
    have hdg := dg_lt N (e + 1)
    obtain ⟨U, u1, u2, u3⟩ := ih k (own + dg N (e + 1)) b a T (fun r => DS m L r + Ee m own (dg N (e + 1)) r) (by omega) (by omega) (by omega) t2 t4
    refine ⟨U, ?_, t3.trans u2, u3⟩
    rw [t1, Nat.pow_succ, Nat.mul_div_cancel _ (by decide), u1, cv_step hm ht, Nat.add_assoc]
    rfl
theorem clr_lp (x1 : Int64) (x3 x4 : Int32) : ∀ (j n k : Nat) (S : Sto), k + j = 50 → j < n → gr S 48 = a → isLb a = true → (∀ i, i < k → al S a i = lN 0) → ∃ T, F_Li_addingUpTo_3 n x1 x3 x4 (nI k) S = F_Li_addingUpTo_32 FU x1 x3 x4 0 1000000000000000 T ∧ Fr [] [] [] [a] [] S T ∧ (∀ i, i < 50 → al T a i = lN 0) := by
  intro j
  induction j with
  | zero =>
    intro n k S hk hn h hl h0
    obtain ⟨n, rfl⟩ : ∃ q, n = q + 1 := ⟨n - 1, by omega⟩
    have : k = 50 := by omega
    subst this
    exact ⟨S, by rw [F_Li_addingUpTo_3, if_pos (by decide)], Fr.rfl, h0⟩
  | succ j ih =>
    intro n k S hk hn h hl h0
    obtain ⟨n, rfl⟩ : ∃ q, n = q + 1 := ⟨n - 1, by omega⟩
    obtain ⟨T, e1, e2, e3⟩ := ih n (k + 1) (ul S a (vp_updL (al S a) k 0)) (by omega) (by omega) h hl (fun i hi => by
      rw [ulB]
      by_cases q : i = k
      · rw [if_pos q]; rfl
      · rw [if_neg q]; exact h0 i (by omega))
    refine ⟨T, ?_, (ulF ..).trans e2, e3⟩
    rw [F_Li_addingUpTo_3, show (50 : Int32) = nI 50 from rfl, if_neg (nI_ge (by omega) (by decide)), h, ck_t hl, ck_t (ib_nI (by omega) (by decide)), nI_clamp (by omega), show nI k + (1 : Int32) = nI (k + 1) from nI_add k 1]
    exact e1
theorem up_ok {N t : Nat} (hN : N ≤ 1000000000000000) (hm : 0 < m) (hm2 : m ≤ 50) (ht : t < m) {S : Sto} (h : LiR a b S) : ∃ T, F_Li_addingUpTo (lN N) (nI m) (nI t) S = some (VV m t (FS N m t 0 16) (OW N 0 16), T) ∧ Fr [] [] [] [54, 55] [48, 49] S T ∧ ∃ a b, LiR a b T := by
  obtain ⟨T, t1, t2, t3⟩ := clr_lp (a := a) (lN N) (nI m) (nI t) 50 FU 0 S rfl (by rw [FU_v]; decide) h.1 h.2.2.1 (fun i hi => absurd hi (Nat.not_lt_zero i))
  have hT : LiR a b T := ⟨(t2.gr 48 (by decide)).trans h.1, (t2.gr 49 (by decide)).trans h.2.1, h.2.2⟩
  obtain ⟨U, u1, u2, u3⟩ := up_lp hN hm hm2 ht 15 FU 0 a b T (fun _ => 0) (by decide) (by rw [FU_v]; decide) (by decide) hT (fun r hr => t3 r (by omega))
  have hb : a ∈ [54, 55] := by
    rcases isL_at h.2.2.1 with e | e <;> rw [e] <;> decide
  refine ⟨U, ?_, (t2.mono (fun _ q => q) (fun _ q => q) (fun _ q => q) (fun k q => by rw [List.mem_singleton.mp q]; exact hb) (fun k q => absurd q (List.not_mem_nil))).trans u2, u3⟩
  have e0 : cvl m (fun _ => 0) (15 + 1) t = 0 := sm_zero (fun k _ => Nat.zero_mul _)
  have hO := OW_le N 16 0
  unfold F_Li_addingUpTo
  refine (t1.trans u1).trans ?_
  rw [e0, Nat.zero_add]
  unfold F_Li_addingUpTo_100 VV
  rw [show 15 + 1 = 16 from rfl, i2l_nI (by omega), i2l_nI (by omega), i2l_nI (by omega), remW (by omega) hm (by omega), b1_s]
  have hq : OW N 0 16 % m < m := Nat.mod_lt _ hm
  unfold F_Li_addingUpTo_124
  by_cases q : OW N 0 16 % m = t
  · rw [if_pos q, if_pos (by rw [q])]
    by_cases w : nI t = 0
    · rw [if_pos w, if_pos w]
    · rw [if_neg w, if_neg w]
  · rw [if_neg q, if_neg (by rw [eq_lN (by omega) (by omega)]; exact q)]
    by_cases w : nI t = 0
    · rw [if_pos w, if_pos w]
    · rw [if_neg w, if_neg w]
end
