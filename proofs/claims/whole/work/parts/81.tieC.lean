/-! ===== the class ties its sets ===== -/
def NC (Z : Zt) (S : Sto) : Prop := ∀ i, i < zN Z → al S 14 i = lN (zM Z i) ∧ al S 15 i = lN (zR Z i) ∧ al S 16 i = lN (zF Z i) ∧ al S 17 i = lN (zT Z i)
def TI (Z : Zt) (k : Nat) (S : Sto) : Prop := ∀ s, s < k → ∃ g r f t : Nat, al S 22 s = lN g ∧ al S 23 s = lN r ∧ al S 24 s = lN f ∧ al S 25 s = lN t ∧ f ≤ 1000000000000 ∧ shOk Z s g r f t
abbrev tiF (S T : Sto) : Prop := Fr [] [] [] [22, 23, 24, 25] [] S T
theorem NC.fr {Z : Zt} {S T : Sto} (h : NC Z S) (q : tiF S T) : NC Z T := fun i hi => by
  rw [q.al 14 (by decide), q.al 15 (by decide), q.al 16 (by decide), q.al 17 (by decide)]
  exact h i hi
theorem tie28 {Z : Zt} (hz : ZOk Z) {i : Nat} (hi : i < zN Z) (k7 : Int32 → Sto → Option (Unit × Sto)) : ∀ (j n x : Nat) (S : Sto), x + j = 2 ^ i → j < n → gi S 25 = nI (2 ^ i) → NC Z S → TI Z (2 ^ i + x) S → ∃ T, F_Sh_tie_28 k7 n (nI i) (nI (2 ^ i)) (nI x) S = k7 (nI (i + 1)) (si T 25 (2 * nI (2 ^ i))) ∧ tiF S T ∧ TI Z (2 ^ i + 2 ^ i) T := by
  have h8 := hz.1
  have hp : 2 ^ i ≤ 128 := Nat.le_trans (Nat.pow_le_pow_right (by decide) (show i ≤ 7 by omega)) (by decide)
  have hp0 : 0 < 2 ^ i := Nat.pow_pos (by decide)
  intro j
  induction j with
  | zero =>
    intro n x S hx hn h25 hN hI
    obtain ⟨n, rfl⟩ : ∃ q, n = q + 1 := ⟨n - 1, by omega⟩
    have : x = 2 ^ i := by omega
    subst this
    refine ⟨S, ?_, Fr.rfl, hI⟩
    rw [F_Sh_tie_28, if_pos (nI_le (Nat.le_refl _) (by omega))]
    unfold F_Sh_tie_122
    rw [show nI i + (1 : Int32) = nI (i + 1) from nI_add i 1]
  | succ j ih =>
    intro n x S hx hn h25 hN hI
    obtain ⟨n, rfl⟩ : ∃ q, n = q + 1 := ⟨n - 1, by omega⟩
    obtain ⟨n1, n2, n3, n4⟩ := hN i hi
    obtain ⟨_, w1, w2, w3, w4, w5, w6⟩ := hz.2.1 i hi
    obtain ⟨g, r, f, t, e1, e2, e3, e4, e0, e5⟩ := hI x (by omega)
    have e5' := e5
    obtain ⟨c1, c2, c3, c4, c5⟩ := e5
    obtain ⟨A, hA⟩ : ∃ A, A = ul S 24 (vp_updL (al S 24) (x + 2 ^ i) (mxL (al S 24 x) (al S 16 i))) := ⟨_, rfl⟩
    obtain ⟨B, hB⟩ : ∃ B, B = ul A 25 (vp_updL (al A 25) (x + 2 ^ i) (mnL (al A 25 x) (al A 17 i))) := ⟨_, rfl⟩
    have fA : tiF S A := by rw [hA]; exact Fr.rfl.ul (by decide)
    have fB : tiF S B := by rw [hB]; exact fA.ul (by decide)
    have a22 : al B 22 = al S 22 := by rw [hB, hA]; rfl
    have a23 : al B 23 = al S 23 := by rw [hB, hA]; rfl
    have a24 : al B 24 = vp_updL (al S 24) (x + 2 ^ i) (mxL (al S 24 x) (al S 16 i)) := by rw [hB, hA]; rfl
    have a25 : al B 25 = vp_updL (al S 25) (x + 2 ^ i) (mnL (al S 25 x) (al S 17 i)) := by rw [hB, hA]; rfl
    obtain ⟨g', r', T, t1, t2, t3, t4, t5, t6⟩ := knot_ok (S := B) (h := 2 ^ i) (p := x + 2 ^ i) (q := x) (m := zM Z i) (s := zR Z i) ((fB.gi 25 (by decide)).trans h25) (by omega) (by omega) (by omega) (by rw [a22]; exact e1) (by rw [a23]; exact e2) c3 c4 w1 w2 w3
    have fT : tiF S T := fB.trans (t2.mono (fun _ q => q) (fun _ q => q) (fun _ q => q) (by decide) (fun _ q => q))
    have hk : F_Sh_knot (nI (x + 2 ^ i)) (nI x) (al B 14 i) (al B 15 i) B = some ((), T) := by
      rw [fB.al 14 (by decide), fB.al 15 (by decide), n1, n2]
      exact t1
    have d24 : al T 24 = al B 24 := t2.al 24 (by decide)
    have d25 : al T 25 = al B 25 := t2.al 25 (by decide)
    have hT : TI Z (2 ^ i + (x + 1)) T := by
      intro s hs
      by_cases q : s = x + 2 ^ i
      · subst q
        refine ⟨g', r', _, _, t4, t5, (by rw [d24, a24, updL_at, if_pos rfl, e3, n3, mx_a (by omega) (by omega)]), (by rw [d25, a25, updL_at, if_pos rfl, e4, n4, mn_a (by omega) (by omega)]), (by split <;> omega), ?_⟩
        exact sh_step hi (by omega) e5' t6 (by split <;> omega) (by split <;> omega) (fun v => by split <;> omega) (fun v => by split <;> omega)
      · obtain ⟨g2, r2, f2, t2', p1, p2, p3, p4, p5⟩ := hI s (by omega)
        refine ⟨g2, r2, f2, t2', ?_, ?_, ?_, ?_, p5⟩
        · rw [(t3 s q).1, a22]; exact p1
        · rw [(t3 s q).2, a23]; exact p2
        · rw [d24, a24, updL_at, if_neg q]; exact p3
        · rw [d25, a25, updL_at, if_neg q]; exact p4
    obtain ⟨U, u1, u2, u3⟩ := ih n (x + 1) T (by omega) (by omega) ((fT.gi 25 (by decide)).trans h25) (hN.fr fT) hT
    refine ⟨U, ?_, fT.trans u2, u3⟩
    rw [F_Sh_tie_28, if_neg (nI_ge (by omega) (by omega)), nI_add, show (256 : Int32) = nI 256 from rfl, if_neg (nI_ge (by omega) (by decide)), ck_t (ib_nI (by omega) (by omega)), ck_t (ib_nI (by omega) (by omega)), ck_t (ib_nI (by omega) (by omega)), ck_t (ib_nI (by omega) (by omega)), ck_t (ib_nI (by omega) (by omega)), ck_t (ib_nI (by omega) (by omega)), ck_t (ib_nI (by omega) (by omega)), ck_t (ib_nI (by omega) (by omega)), nI_clamp (by omega), nI_clamp (by omega), nI_clamp (by omega)]
    rw [hB, hA] at hk
    refine (congrArg (fun q => b2 q _) hk).trans ?_
    rw [b2_s, show nI x + (1 : Int32) = nI (x + 1) from nI_add x 1]
    exact u1
