/-! ===== the model tells one set ===== -/
theorem emdG {m : Nat} {x : Int} (h1 : 1 ≤ m) (hm : m ≤ 2097152) (hx : -4611686018427387904 ≤ x ∧ x ≤ 4611686018427387904) : ((zL x - zL x / lN m * lN m) + lN m) - ((zL x - zL x / lN m * lN m) + lN m) / lN m * lN m = lN (x % m).toNat := by
  have b1 := tmB (x := x) h1
  have b2 : x.tmod m = x - m * (x.tdiv m) := Int.tmod_def _ _
  rw [lN_z m, rem_zL (by omega) (by omega) (by omega) (by omega), add_zL, rem_zL (by omega) (by omega) (by omega) (by omega), Int.tmod_eq_emod_of_nonneg (by omega), b2]
  have e1 : x - m * x.tdiv m + m = x + m * (1 - x.tdiv m) := by rw [Int.mul_sub, Int.mul_one]; omega
  rw [e1, Int.add_mul_emod_self_left]
  exact zL_n (Int.emod_nonneg _ (by omega))
/-- what is off, by the common part -/
theorem off_d {r m s g : Nat} (h1 : 1 ≤ m) : ((((s : Int) - r) % m).toNat % Nat.gcd m g = 0 ↔ ((s : Int) - r).tmod (Nat.gcd m g : Nat) = 0) ∧
    ((((s : Int) - r) % m).toNat % Nat.gcd m g = 0 → (((s : Int) - r).tdiv (Nat.gcd m g : Nat)) % (m / Nat.gcd m g : Nat) = ((((s : Int) - r) % m).toNat / Nat.gcd m g : Nat)) := by
  have h0 : 0 < Nat.gcd m g := Nat.gcd_pos_of_pos_left g h1
  have em := Nat.mul_div_cancel' (Nat.gcd_dvd_left m g)
  have hm1 : 0 < m / Nat.gcd m g := Nat.div_pos (Nat.le_of_dvd h1 (Nat.gcd_dvd_left m g)) h0
  have e0 : 0 ≤ ((s : Int) - r) % m := Int.emod_nonneg _ (by omega)
  have e1 : ((s : Int) - r) % m < m := Int.emod_lt_of_pos _ (by omega)
  have e3 := Int.mul_ediv_add_emod ((s : Int) - r) m
  have hD : (((((s : Int) - r) % m).toNat : Nat) : Int) = ((s : Int) - r) % m := Int.toNat_of_nonneg e0
  generalize hd : Nat.gcd m g = d at h0 em hm1 ⊢
  generalize hm2 : m / d = m2 at em hm1 ⊢
  generalize (((s : Int) - r) % m).toNat = D at hD ⊢
  generalize ((s : Int) - r) / m = k at e3
  have em' : (m : Int) = d * m2 := by exact_mod_cast em.symm
  have key : D % d = 0 → ∃ t : Nat, D = d * t ∧ t < m2 ∧ (s : Int) - r = d * (t + m2 * k) := by
    intro h
    have e5 := Nat.div_add_mod D d
    rw [h, Nat.add_zero] at e5
    refine ⟨D / d, e5.symm, ?_, ?_⟩
    · refine Nat.div_lt_of_lt_mul ?_
      rw [em]
      omega
    · have e6 : (D : Int) = d * (D / d : Nat) := by exact_mod_cast e5.symm
      rw [Int.mul_add, ← e6, ← Int.mul_assoc, ← em', hD]
      omega
  refine ⟨⟨fun h => ?_, fun h => ?_⟩, fun h => ?_⟩
  · obtain ⟨t, t1, t2, t3⟩ := key h
    rw [t3, Int.mul_tmod_right]
  · have e4 : ((s : Int) - r).tmod d = ((s : Int) - r) - d * (((s : Int) - r).tdiv d) := Int.tmod_def _ _
    rw [h] at e4
    generalize ((s : Int) - r).tdiv d = u at e4
    have e5 : (D : Int) = d * (u - m2 * k) := by
      rw [Int.mul_sub, ← Int.mul_assoc, ← em', hD]
      omega
    have e6 : ((D % d : Nat) : Int) = 0 := by rw [Int.natCast_emod, e5, Int.mul_emod_right]
    exact_mod_cast e6
  · obtain ⟨t, t1, t2, t3⟩ := key h
    rw [t3, Int.mul_tdiv_cancel_left _ (by omega), t1, Nat.mul_div_cancel_left _ h0, Int.add_mul_emod_self_left]
    exact Int.emod_eq_of_lt (by omega) (by omega)
def MO (Z : Zt) (lo hi s : Nat) (M : Sto) : Prop := ∃ g r f t : Nat, shOk Z s g r f t ∧ gl M 1024 = lN (max lo f) ∧ gl M 1025 = lN (min hi t) ∧ ((g = 0 ∧ gi M 1026 = 1) ∨ (0 < g ∧ gi M 1026 = 0 ∧ gl M 1022 = lN g ∧ gl M 1023 = lN r))
abbrev oF (S T : Sto) : Prop := Fr [1026] [1022, 1023, 1024, 1025] [] [] [] S T
theorem ZM_o {Z : Zt} {M T : Sto} (h : ZM Z M) (q : oF M T) : ZM Z T := ZM_fr h q (by decide) (by decide)
theorem putIn_ok {Z : Zt} {M : Sto} {i x lo hi : Nat} (hz : ZOk Z) (hZ : ZM Z M) (hi' : i < zN Z) (hx : x < 2 ^ i) (hl : lo ≤ 1000000000000) (hh : hi ≤ 1000000000000) (h : MO Z lo hi x M) : ∃ M', F_m_putIn (nI i) M = some ((), M') ∧ oF M M' ∧ MO Z lo hi (x + 2 ^ i) M' := by
  have h8 := hz.1
  obtain ⟨_, w1, w2, w3, w4, w5, w6⟩ := hz.2.1 i hi'
  obtain ⟨g, r, f, t, h0, a24, a25, hc⟩ := h
  have hsh := h0
  obtain ⟨c1, c2, c3, c4, _⟩ := h0
  have b1m : max lo f ≤ 1000000000000 := by omega
  unfold F_m_putIn
  rw [fromOf_ok hZ hi' h8, b1_s, toOf_ok (ZM_o hZ (Fr.rfl.sl (by decide))) hi' h8, b1_s]
  generalize hE : sl (sl M 1024 (mxL (gl M 1024) (lN (zF Z i)))) 1025 (mnL (gl (sl M 1024 (mxL (gl M 1024) (lN (zF Z i)))) 1025) (lN (zT Z i))) = E
  have fE : oF M E := by rw [← hE]; exact (Fr.rfl.sl (by decide)).sl (by decide)
  have zE : ZM Z E := ZM_o hZ fE
  have e24 : gl E 1024 = lN (max lo (max f (zF Z i))) := by
    rw [← hE, gl_sl, if_neg (by decide), gl_sl, if_pos rfl, a24, mxN (by omega) (by omega)]
    exact congrArg lN (by omega)
  have e25 : gl E 1025 = lN (min hi (min t (zT Z i))) := by
    rw [← hE, gl_sl, if_pos rfl, gl_sl, if_neg (by decide), a25, mnN (by omega) (by omega)]
    exact congrArg lN (by omega)
  have e26 : gi E 1026 = gi M 1026 := by rw [← hE]; rfl
  have e22 : gl E 1022 = gl M 1022 := by rw [← hE, gl_sl, if_neg (by decide), gl_sl, if_neg (by decide)]
  have e23 : gl E 1023 = gl M 1023 := by rw [← hE, gl_sl, if_neg (by decide), gl_sl, if_neg (by decide)]
  clear hE
  obtain ⟨_, _, _, zq, _⟩ := zE
  obtain ⟨_, z9, z10, _, _⟩ := zq i hi'
  have step : ∀ {g' r' : Nat}, Kn g r (zM Z i) (zR Z i) g' r' → shOk Z (x + 2 ^ i) g' r' (max f (zF Z i)) (min t (zT Z i)) := fun hK => sh_step hi' hx hsh hK (by omega) (by omega) (fun v => by omega) (fun v => by omega)
  have toN : ∀ {r' : Nat}, Kn g r (zM Z i) (zR Z i) 0 r' → ∃ M', some ((), si E 1026 1) = some ((), M') ∧ oF M M' ∧ MO Z lo hi (x + 2 ^ i) M' := by
    intro r' hK
    exact ⟨_, rfl, fE.si (by decide), 0, r', _, _, step hK, e24, e25, Or.inl ⟨rfl, rfl⟩⟩
  rcases hc with ⟨g0, f1⟩ | ⟨g0, f0, m22, m23⟩
  · rw [if_neg (by rw [e26, f1]; decide)]
    subst g0
    exact ⟨E, rfl, fE, 0, r, _, _, step (Kn_0 (fun v _ _ w => w.1 rfl)), e24, e25, Or.inl ⟨rfl, by rw [e26]; exact f1⟩⟩
  have hr : r < g := by omega
  rw [if_pos (by rw [e26, f0]), e22, e23, m22, m23, nI_clamp (by omega), z9, z10]
  generalize zM Z i = m at *
  generalize zR Z i = s at *
  have off1 := (off_d (r := r) (s := s) (g := g) w1).1
  have off2 := (off_d (r := r) (s := s) (g := g) w1).2
  have e0 : 0 ≤ ((s : Int) - r) % m := Int.emod_nonneg _ (by omega)
  by_cases q : g ≤ 1000000000000
  · have h0 : 0 < Nat.gcd m g := Nat.gcd_pos_of_pos_left g w1
    have hd2 : Nat.gcd m g ≤ m := Nat.le_of_dvd w1 (Nat.gcd_dvd_left m g)
    have hm1 : 0 < m / Nat.gcd m g := Nat.div_pos hd2 h0
    have hm2 : m / Nat.gcd m g ≤ 2097152 := Nat.le_trans (Nat.div_le_self _ _) w2
    have nzd := nzL_lN h0 (by omega)
    have nzm := nzL_lN hm1 (by omega)
    have hib : ib (nI i) 16 = true := ib_nI (by omega) (by omega)
    rw [if_pos (by rw [(show (1000000000000 : Int64) = lN 1000000000000 from rfl), le_lN (by omega) (by decide)]; exact q), ck_t hib, mcom_ok (by omega) w2, b1_s, ck_t hib, Nat.gcd_comm g m]
    rw [nm_q rfl, ck_t nzd]
    have t9 : lN s - lN r = zL ((s : Int) - r) := by rw [lN_z s, lN_z r, sub_zL]
    rw [t9]
    have rz : zL ((s : Int) - r) - zL ((s : Int) - r) / lN (Nat.gcd m g) * lN (Nat.gcd m g) = zL (((s : Int) - r).tmod (Nat.gcd m g : Nat)) := by
      rw [lN_z (Nat.gcd m g), rem_zL (by omega) (by omega) (by omega) (by omega)]
    have bt := tmB (x := (s : Int) - r) h0
    by_cases v : (((s : Int) - r) % m).toNat % Nat.gcd m g = 0
    · have hg2 : g / Nat.gcd m g < 4611686018427387904 := Nat.lt_of_le_of_lt (Nat.div_le_self _ _) (by omega)
      have dz : zL ((s : Int) - r) / lN (Nat.gcd m g) = zL (((s : Int) - r).tdiv (Nat.gcd m g : Nat)) := by
        rw [lN_z (Nat.gcd m g), div_zL (by omega) (by omega) (by omega) (by omega)]
      have tb : -4611686018427387904 ≤ ((s : Int) - r).tdiv (Nat.gcd m g : Nat) ∧ ((s : Int) - r).tdiv (Nat.gcd m g : Nat) ≤ 4611686018427387904 := by
        have e4 : (((s : Int) - r).tdiv (Nat.gcd m g : Nat)).natAbs ≤ ((s : Int) - r).natAbs := by
          rw [Int.natAbs_tdiv]
          exact Nat.div_le_self _ _
        omega
      have ht : (((s : Int) - r) % m).toNat / Nat.gcd m g < m / Nat.gcd m g := by
        have e2 := off2 v
        have e3 : (((s : Int) - r).tdiv (Nat.gcd m g : Nat)) % (m / Nat.gcd m g : Nat) < (m / Nat.gcd m g : Nat) := Int.emod_lt_of_pos _ (by omega)
        omega
      obtain ⟨y, y1, y3⟩ := tim_ok (a := g / Nat.gcd m g) (t := (((s : Int) - r) % m).toNat / Nat.gcd m g) hm1 hm2 ht hg2
      rw [cop w1] at y3
      have hK := Kn_yes (z := y) w1 w2 w3 g0 q hr v y3
      rw [if_pos (by rw [rz, off1.mp v]; rfl), ck_t hib, ck_t nzd, nm_q rfl, ck_t nzd, div_lN (by omega) h0 (by omega), ck_t nzm, ck_t nzm, nm_q rfl, ck_t nzd, dz, emdG hm1 hm2 tb, off2 v, Int.toNat_natCast, div_lN (by omega) h0 (by omega), y1, b1_s]
      refine ⟨_, rfl, (fE.sl (by decide)).sl (by decide), _, _, _, _, step hK, ?_, ?_, Or.inr ⟨Nat.mul_pos g0 hm1, ?_, ?_, ?_⟩⟩
      · rw [gl_sl, if_neg (by decide), gl_sl, if_neg (by decide)]; exact e24
      · rw [gl_sl, if_neg (by decide), gl_sl, if_neg (by decide)]; exact e25
      · rw [gi_sl, gi_sl, e26]; exact f0
      · rw [gl_sl, if_pos rfl, gl_sl, if_neg (by decide), e22, m22, lN_mul]
      · rw [gl_sl, if_neg (by decide), gl_sl, if_pos rfl, lN_mul, lN_add]
    · rw [if_neg (by
        rw [rz, show (0 : Int64) = zL 0 from rfl, eq_zL (by omega) (by omega) (by omega) (by omega)]
        exact fun w => v (off1.mpr w))]
      exact toN (Kn_no (r' := 0) w1 v)
  · have hib : ib (nI i) 16 = true := ib_nI (by omega) (by omega)
    have em : r % m = s ↔ (((s : Int) - r) % m).toNat = 0 := by
      rw [emod0 w1]
      constructor
      · intro u
        have a := mod_is r m
        rw [u] at a
        exact ⟨-((r / m : Nat) : Int), by rw [Int.mul_neg]; omega⟩
      · rintro ⟨u, hu⟩
        exact mod_of (q := -u) (by rw [Int.mul_neg]; omega) w3
    have hmr : r % m < m := Nat.mod_lt _ w1
    rw [if_neg (by rw [(show (1000000000000 : Int64) = lN 1000000000000 from rfl), le_lN (by omega) (by decide)]; exact q), ck_t hib, ck_t (nzL_lN w1 (by omega)), ck_t hib, rem_lN (by omega) w1 (by omega)]
    by_cases v : r % m = s
    · rw [if_pos (by rw [v])]
      unfold F_m_putIn_78
      rw [ck_t (by decide)]
      refine ⟨_, rfl, fE.si (by decide), g, r, _, _, step (Kn_b1 w1 w3 (by omega) c3 hr (em.mp v)), e24, e25, Or.inr ⟨g0, rfl, ?_, ?_⟩⟩
      · rw [gl_si, e22]; exact m22
      · rw [gl_si, e23]; exact m23
    · rw [if_neg (by rw [eq_lN (by omega) (by omega)]; exact v)]
      unfold F_m_putIn_78
      rw [ck_t (by decide)]
      exact toN (Kn_b0 (r' := 0) w1 (by omega) (fun u => v (em.mpr u)))
theorem tell_lp {Z : Zt} {s lo hi : Nat} (hz : ZOk Z) (hs : s < 2 ^ zN Z) (hl : lo ≤ 1000000000000) (hh : hi ≤ 1000000000000) : ∀ (j n i : Nat) (M : Sto), i + j = zN Z → j < n → ZM Z M → MO Z lo hi (s % 2 ^ i) M → ∃ M', F_m_tellOne_33 n (nI s) (nI i) M = some ((), M') ∧ oF M M' ∧ MO Z lo hi s M' := by
  have h8 := hz.1
  have p := p2N hz
  intro j
  induction j with
  | zero =>
    intro n i M hi' hn hZ h
    obtain ⟨n, rfl⟩ : ∃ q, n = q + 1 := ⟨n - 1, by omega⟩
    have : i = zN Z := by omega
    subst this
    rw [Nat.mod_eq_of_lt hs] at h
    refine ⟨M, ?_, Fr.rfl, h⟩
    rw [F_m_tellOne_33, show ai M 1003 (Int32.toNatClampNeg 0) = nI (zN Z) from hZ.1, if_pos (nI_le (Nat.le_refl _) (by omega))]
  | succ j ih =>
    intro n i M hi' hn hZ h
    obtain ⟨n, rfl⟩ : ∃ q, n = q + 1 := ⟨n - 1, by omega⟩
    have hp0 : 0 < 2 ^ i := Nat.pow_pos (by decide)
    have e := Nat.mod_pow_succ (x := s) (b := 2) (k := i)
    have hb : s / 2 ^ i % 2 < 2 := Nat.mod_lt _ (by decide)
    rw [F_m_tellOne_33, show ai M 1003 (Int32.toNatClampNeg 0) = nI (zN Z) from hZ.1, if_neg (nI_ge (by omega) (by omega)), shr1 (by omega) (by omega)]
    by_cases q : s / 2 ^ i % 2 = 1
    · rw [q, Nat.mul_one] at e
      obtain ⟨T, t1, t2, t3⟩ := putIn_ok hz hZ (show i < zN Z by omega) (Nat.mod_lt s hp0) hl hh h
      rw [← e] at t3
      obtain ⟨U, u1, u2, u3⟩ := ih n (i + 1) T (by omega) (by omega) (ZM_o hZ t2) t3
      refine ⟨U, ?_, t2.trans u2, u3⟩
      rw [q, if_pos (show nI 1 = 1 from rfl), t1, b2_s]
      unfold F_m_tellOne_57
      rw [show nI i + (1 : Int32) = nI (i + 1) from nI_add i 1]
      exact u1
    · have q0 : s / 2 ^ i % 2 = 0 := by omega
      have e' : s % 2 ^ (i + 1) = s % 2 ^ i := by rw [e, q0, Nat.mul_zero]; rfl
      rw [← e'] at h
      obtain ⟨U, u1, u2, u3⟩ := ih n (i + 1) M (by omega) (by omega) hZ h
      refine ⟨U, ?_, u2, u3⟩
      rw [q0, if_neg (by decide)]
      unfold F_m_tellOne_57
      rw [show nI i + (1 : Int32) = nI (i + 1) from nI_add i 1]
      exact u1
theorem sh_0 (Z : Zt) : shOk Z 0 1 0 1 1000000000000 := by
  refine ⟨⟨Nat.le_refl _, by decide⟩, Nat.le_refl _, by decide, Or.inr (by decide), fun v v1 v2 => ⟨fun _ => ⟨v1, v2, by decide, Nat.mod_one v⟩, fun _ i _ h => ?_⟩⟩
  rw [Nat.zero_testBit] at h
  cases h
theorem tell_ok {Z : Zt} {M : Sto} {s lo hi : Nat} (hz : ZOk Z) (hZ : ZM Z M) (hs : s < 2 ^ zN Z) (h1 : 1 ≤ lo) (hl : lo ≤ 1000000000000) (hh : hi ≤ 1000000000000) (h13 : gl M 1013 = lN lo) (h14 : gl M 1014 = lN hi) : ∃ M', F_m_tellOne (nI s) M = some ((), M') ∧ oF M M' ∧ MO Z lo hi s M' := by
  unfold F_m_tellOne
  generalize hE : si (sl (sl (sl (sl M 1022 1) 1023 0) 1024 (gl (sl (sl M 1022 1) 1023 0) 1013)) 1025 (gl (sl (sl (sl M 1022 1) 1023 0) 1024 (gl (sl (sl M 1022 1) 1023 0) 1013)) 1014)) 1026 0 = E
  have fE : oF M E := by rw [← hE]; exact ((((Fr.rfl.sl (by decide)).sl (by decide)).sl (by decide)).sl (by decide)).si (by decide)
  have hM : MO Z lo hi (s % 2 ^ 0) E := by
    rw [Nat.pow_zero, Nat.mod_one]
    refine ⟨1, 0, 1, 1000000000000, sh_0 Z, ?_, ?_, Or.inr ⟨by decide, ?_, ?_, ?_⟩⟩
    · rw [← hE, gl_si, gl_sl, if_neg (by decide), gl_sl, if_pos rfl, gl_sl, if_neg (by decide), gl_sl, if_neg (by decide), h13]
      exact congrArg lN (by omega)
    · rw [← hE, gl_si, gl_sl, if_pos rfl, gl_sl, if_neg (by decide), gl_sl, if_neg (by decide), gl_sl, if_neg (by decide), h14]
      exact congrArg lN (by omega)
    · rw [← hE]; rfl
    · rw [← hE, gl_si, gl_sl, if_neg (by decide), gl_sl, if_neg (by decide), gl_sl, if_neg (by decide), gl_sl, if_pos rfl]; rfl
    · rw [← hE, gl_si, gl_sl, if_neg (by decide), gl_sl, if_neg (by decide), gl_sl, if_pos rfl]; rfl
  obtain ⟨U, u1, u2, u3⟩ := tell_lp hz hs hl hh (zN Z) FU 0 E (Nat.zero_add _) (by rw [FU_v]; have := hz.1; omega) (ZM_o hZ fE) hM
  exact ⟨U, u1, fE.trans u2, u3⟩
