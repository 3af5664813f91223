/-! ===== parts, products, sums .. of the rule ===== -/
section
variable {y : Nat → Nat} {n b a k : Nat} {S M : Sto}
/-! the model, behind a fault -/
theorem md_part (h : ¬ gi M 1010 = 0) (rc : Int32 → Sto → Option (Unit × Sto)) (x : Int32) : F_m_readPart rc x M = some ((), M) := by
  unfold F_m_readPart
  rw [if_neg h]
theorem md_prod (h : ¬ gi M 1010 = 0) (rc : Int32 → Sto → Option (Unit × Sto)) (x : Int32) : F_m_readProduct rc x M = some ((), M) := by
  unfold F_m_readProduct
  rw [md_part h, b2_s, show FU = 1099511627775 + 1 from rfl, F_m_readProduct_5, md_isM h, b1_s, if_pos (show bI false = 0 from rfl), md_isM h, b1_s, if_pos (show bI false = 0 from rfl)]
theorem md_sum (h : ¬ gi M 1010 = 0) (rc : Int32 → Sto → Option (Unit × Sto)) (x : Int32) : F_m_readSum rc x M = some ((), M) := by
  unfold F_m_readSum
  rw [md_prod h, b2_s, show FU = 1099511627775 + 1 from rfl, F_m_readSum_5, md_isM h, b1_s, if_pos (show bI false = 0 from rfl), md_isM h, b1_s, if_pos (show bI false = 0 from rfl)]
theorem md_95 (h : ¬ gi M 1010 = 0) (rc : Int32 → Sto → Option (Unit × Sto)) {m : Nat} (hm : m < 100) : ∀ (j f i : Nat), i + j = m → j < f → F_m_readNot_95 rc f (nI m) (nI i) M = some ((), M) := by
  intro j
  induction j with
  | zero =>
    intro f i hi hf
    obtain ⟨f, rfl⟩ : ∃ q, f = q + 1 := ⟨f - 1, by omega⟩
    rw [F_m_readNot_95, if_pos (nI_le (by omega) (by omega))]
  | succ j ih =>
    intro f i hi hf
    obtain ⟨f, rfl⟩ : ∃ q, f = q + 1 := ⟨f - 1, by omega⟩
    rw [F_m_readNot_95, if_neg (nI_ge (by omega) (by omega)), md_lay h, b2_s, show nI i + (1 : Int32) = nI (i + 1) from nI_add i 1]
    exact ih f (i + 1) (by omega) (by omega)
theorem md_not (h : ¬ gi M 1010 = 0) (rc : Int32 → Sto → Option (Unit × Sto)) (x : Int32) {m : Nat} (hm : m < 100) (f : Nat) : F_m_readNot_2 rc (f + 1) x (nI m) M = some ((), M) := by
  rw [F_m_readNot_2, md_is h, b1_s, if_pos (show bI false = 0 from rfl), md_sum h, b2_s, md_isM h, b1_s, if_pos (show bI false = 0 from rfl), md_isM h, b1_s, if_pos (show bI false = 0 from rfl)]
  unfold F_m_readNot_93
  exact md_95 h rc hm m FU 0 (Nat.zero_add _) (by rw [FU_v]; omega)
theorem md_and (h : ¬ gi M 1010 = 0) (rc : Int32 → Sto → Option (Unit × Sto)) (x : Int32) : F_m_readAnd rc x M = some ((), M) := by
  unfold F_m_readAnd F_m_readNot
  rw [show FU = 1099511627775 + 1 from rfl, (show (0 : Int32) = nI 0 from rfl), md_not h rc x (by decide), b2_s, F_m_readAnd_5, md_is h, b1_s, if_pos (show bI false = 0 from rfl)]
theorem md_62 (h : ¬ gi M 1010 = 0) (rc : Int32 → Sto → Option (Unit × Sto)) (x : Int32) : F_m_readExpressionb_62 rc x M = some ((), M) := by
  unfold F_m_readExpressionb_62
  rw [md_and h, b2_s, show FU = 1099511627775 + 1 from rfl, F_m_readExpressionb_67, md_is h, b1_s, if_pos (show bI false = 0 from rfl)]
theorem md_expr (h : ¬ gi M 1010 = 0) (f : Nat) (x : Int32) : F_m_readExpression (f + 1) x M = some ((), M) := by
  rw [F_m_readExpression]
  unfold F_m_readExpressionb
  rw [if_neg h]
/-! the values -/
theorem w7_s (h : Tk y n b a k S M) {i : Nat} (hi : i < 7) (f : Nat) : F_m_which_1000_1002_2 (f + 1) (nI i) M = if tkW y b a k (3005 + i) = true then some (nI i) else F_m_which_1000_1002_2 f (nI (i + 1)) M := by
  rw [F_m_which_1000_1002_2, if_neg (nI_ge hi (by decide)), ck_t (ib_nI hi (by omega)), nI_clamp (by omega), isWM h (by omega) (by omega), b1_s, show nI i + (1 : Int32) = nI (i + 1) from nI_add i 1]
  cases tkW y b a k (3005 + i)
  · rw [if_pos (show bI false = 0 from rfl), if_neg (by decide)]
  · rw [if_neg (show ¬ bI true = 0 by decide), if_pos rfl]
theorem w7_e (f : Nat) : F_m_which_1000_1002_2 (f + 1) (nI 7) M = some (-1) := by
  rw [F_m_which_1000_1002_2, if_pos (nI_le (Nat.le_refl _) (by decide))]
theorem val_ok (h : Tk y n b a k S M) : (F_Rd_valueCode S = some (-1) ∧ F_m_which_1000_1002 M = some (-1)) ∨ ∃ i, i < 7 ∧ F_Rd_valueCode S = some (nI (i + 1)) ∧ F_m_which_1000_1002 M = some (nI i) := by
  have e0 := w7_s h (i := 0) (by decide) (1099511627768 + 7)
  have e1 := w7_s h (i := 1) (by decide) (1099511627768 + 6)
  have e2 := w7_s h (i := 2) (by decide) (1099511627768 + 5)
  have e3 := w7_s h (i := 3) (by decide) (1099511627768 + 4)
  have e4 := w7_s h (i := 4) (by decide) (1099511627768 + 3)
  have e5 := w7_s h (i := 5) (by decide) (1099511627768 + 2)
  have e6 := w7_s h (i := 6) (by decide) (1099511627768 + 1)
  have e7 := w7_e (M := M) 1099511627768
  have c0 := isWC h (p := 3005) (by decide) (by decide)
  have c1 := isWC h (p := 3006) (by decide) (by decide)
  have c2 := isWC h (p := 3007) (by decide) (by decide)
  have c3 := isWC h (p := 3008) (by decide) (by decide)
  have c4 := isWC h (p := 3009) (by decide) (by decide)
  have c5 := isWC h (p := 3010) (by decide) (by decide)
  have c6 := isWC h (p := 3011) (by decide) (by decide)
  have em : F_m_which_1000_1002 M = F_m_which_1000_1002_2 (1099511627768 + 7 + 1) (nI 0) M := rfl
  unfold F_Rd_valueCode
  rw [em, e0, c0, b1_s]
  by_cases w0 : tkW y b a k 3005 = true
  · exact Or.inr ⟨0, by decide, by rw [if_neg (bT w0)]; rfl, by rw [if_pos w0]⟩
  rw [if_pos (bF (eq_false_of_ne_true w0)), if_neg (show ¬ tkW y b a k (3005 + 0) = true from w0), e1, c1, b1_s]
  by_cases w1 : tkW y b a k 3006 = true
  · exact Or.inr ⟨1, by decide, by rw [if_neg (bT w1)]; rfl, by rw [if_pos w1]⟩
  rw [if_pos (bF (eq_false_of_ne_true w1)), if_neg (show ¬ tkW y b a k (3005 + 1) = true from w1), e2, c2, b1_s]
  by_cases w2 : tkW y b a k 3007 = true
  · exact Or.inr ⟨2, by decide, by rw [if_neg (bT w2)]; rfl, by rw [if_pos w2]⟩
  rw [if_pos (bF (eq_false_of_ne_true w2)), if_neg (show ¬ tkW y b a k (3005 + 2) = true from w2), e3, c3, b1_s]
  by_cases w3 : tkW y b a k 3008 = true
  · exact Or.inr ⟨3, by decide, by rw [if_neg (bT w3)]; rfl, by rw [if_pos w3]⟩
  rw [if_pos (bF (eq_false_of_ne_true w3)), if_neg (show ¬ tkW y b a k (3005 + 3) = true from w3), e4, c4, b1_s]
  by_cases w4 : tkW y b a k 3009 = true
  · exact Or.inr ⟨4, by decide, by rw [if_neg (bT w4)]; rfl, by rw [if_pos w4]⟩
  rw [if_pos (bF (eq_false_of_ne_true w4)), if_neg (show ¬ tkW y b a k (3005 + 4) = true from w4), e5, c5, b1_s]
  by_cases w5 : tkW y b a k 3010 = true
  · exact Or.inr ⟨5, by decide, by rw [if_neg (bT w5)]; rfl, by rw [if_pos w5]⟩
  rw [if_pos (bF (eq_false_of_ne_true w5)), if_neg (show ¬ tkW y b a k (3005 + 5) = true from w5), e6, c6, b1_s]
  by_cases w6 : tkW y b a k 3011 = true
  · exact Or.inr ⟨6, by decide, by rw [if_neg (bT w6)]; rfl, by rw [if_pos w6]⟩
  rw [if_pos (bF (eq_false_of_ne_true w6)), if_neg (show ¬ tkW y b a k (3005 + 6) = true from w6), show nI (6 + 1) = nI 7 from rfl, e7]
  exact Or.inl ⟨rfl, rfl⟩
theorem sg_v : ∀ i, i < 7 → (-1 : Int32) - nI i = sgn (i + 1) 0 := by decide +kernel
theorem sg_n (v : Nat) : sgn 0 v = nI v := rfl
end
section
variable {y : Nat → Nat} {n : Nat} {rc rc' : Int32 → Sto → Option (Unit × Sto)} {x x' : Int32} {u : Nat}
theorem part_ok (hu : u < 32) (hrc : Sm y n u (rc (x + 1)) (rc' (x' + 1))) (hdd : ∀ z M, ¬ gi M 1010 = 0 → rc' z M = some ((), M)) : Sm y n u (F_Rd_readPart rc x) (F_m_readPart rc' x') := by
  intro s d b S M h hd
  have h5 := h.b5
  obtain ⟨⟨a, k, t⟩, h2, h3⟩ := h
  have hba := t.ba
  have hk := t.k3
  have e12 : gi S 12 = nI k := by
    obtain ⟨_, _, _, _, _, _, _, _, _, t10, _⟩ := t
    exact t10
  have e6 : gi M 1006 = nI k ∨ (k = 3 ∧ gi M 1006 = 4) := by
    obtain ⟨_, _, _, _, _, _, _, _, _, _, _, _, t13⟩ := t
    rcases t13 with w | w | w | w
    · exact Or.inl (by rw [w.2.1, w.1]; rfl)
    · exact Or.inl (by rw [w.2.1, w.1]; rfl)
    · exact Or.inl (by rw [w.2.1, w.1]; rfl)
    · by_cases z : isMk (y b) = true
      · exact Or.inl (by rw [w.2.2.2, if_pos z, w.1]; rfl)
      · exact Or.inr ⟨w.1, by rw [w.2.2.2, if_neg z]⟩
  have n6 : ∀ q : Nat, q ≤ 2 → k ≠ q → ¬ gi M 1006 = nI q := by
    intro q q1 q2
    rcases e6 with w | w
    · rw [w, k3I hk (by omega)]; exact q2
    · rw [w.2, (show (4 : Int32) = nI 4 from rfl), eq_nI (by decide) (by omega)]; omega
  unfold F_Rd_readPart F_m_readPart
  rw [if_pos t.m10, e12, (show (2 : Int32) = nI 2 from rfl)]
  by_cases q2 : k = 2
  · rw [if_pos (by rw [q2]), if_pos (show gi M 1006 = nI 2 by
      rcases e6 with w | w
      · rw [w, q2]
      · omega)]
    obtain ⟨r, r', S1, M1, g1, g2, g3, g4, g5⟩ := num_ok t (lo := 0) (hi := 9999) (by decide) (by decide)
    rw [(show (0 : Int32) = nI 0 from rfl), show (9999 : Int32) = nI 9999 from rfl, g1, b2_s, g2, b2_s]
    rcases g5 with ⟨v, b2', a2, k2, v1, v2, v3, v4, v5, v6⟩ | ⟨v1, hD⟩
    · have RU := h3.e g3 g4
      obtain ⟨S2, M2, p1, p2, p3, p4, p5⟩ := add_ok (c := 0) (v := v) (d' := d + 1) RU v6.m10 (by have := v6.ba; omega) (by decide) v2 (by unfold dstep; rw [if_pos (by decide), if_pos (by omega)])
      rw [sg_n] at p2
      refine ⟨S2, M2, ?_, ?_, g3.x.trans p3.x, g4.x.trans p4.x, Or.inl ⟨s + 1, b2', ⟨⟨a2, k2, v6.a p3 p4⟩, by omega, p5⟩, by omega, v5⟩⟩
      · rw [v3, p1, b2_s]
      · rw [v4, p2, b2_s]
    · obtain ⟨T, t1, t2, t3⟩ := add_d hD (nI 0) r
      refine ⟨T, M1, ?_, ?_, g3.x.trans t2, g4.x, Or.inr t3⟩
      · rw [t1, b2_s]
      · rw [md_lay hD.m, b2_s]
  · rw [if_neg (by rw [k3I hk (by decide)]; exact q2), if_neg (n6 2 (by decide) q2)]
    by_cases q1 : k = 1
    · rw [if_pos (show nI k = 1 by rw [q1]; rfl), if_pos (show gi M 1006 = 1 by
        rcases e6 with w | w
        · rw [w, q1]; rfl
        · omega)]
      unfold F_Rd_readValue
      rcases val_ok t with ⟨g1, g2⟩ | ⟨i, i1, g1, g2⟩
      · obtain ⟨S1, M1, p1, p2, p3, p4, p5⟩ := t.bad (e := 3) (by decide) (by decide)
        refine ⟨S1, M1, ?_, ?_, p3.e.x, p4.e.x, Or.inr p5⟩
        · rw [g1, b1_s, if_pos rfl, (show (3 : Int32) = nI 3 from rfl), p1, b2_s, b2_s]
        · rw [g2, b1_s, if_pos rfl, (show (3 : Int32) = nI 3 from rfl), p2, b2_s]
          unfold F_m_readPart_56
          rw [md_lay p5.m, b2_s, if_neg p5.m]
      · obtain ⟨S2, M2, p1, p2, p3, p4, p5⟩ := add_ok (c := i + 1) (v := 0) (d' := d + 1) h3 t.m10 (by omega) (by omega) (by decide) (by unfold dstep; rw [if_pos (by omega), if_pos (by omega)])
        have t2 := t.a p3 p4
        obtain ⟨b2', a2, k2, S3, M3, w1, w2, w3, w4, w5, w6⟩ := t2.go
        have ne1 : ∀ q : Nat, q < 100 → ¬ nI q = (-1 : Int32) := by
          intro q hq
          rw [show (-1 : Int32) = zI (-1) from rfl, nI_z, eq_zI (by omega) (by omega) (by omega) (by omega)]
          omega
        refine ⟨S3, M3, ?_, ?_, p3.x.trans w3.e.x, p4.x.trans w4.e.x, Or.inl ⟨s + 1, b2', ⟨⟨a2, k2, w6⟩, by omega, p5.e w3.e w4.e⟩, by omega, by omega⟩⟩
        · rw [g1, b1_s, if_neg (ne1 _ (by omega)), (show (0 : Int32) = nI 0 from rfl), p1, b2_s, w1, b2_s, b2_s]
        · rw [g2, b1_s, if_neg (ne1 _ (by omega))]
          unfold F_m_readPart_56
          rw [sg_v i i1, p2, b2_s, if_pos t2.m10, w2, b2_s]
    · rw [if_neg (show ¬ nI k = 1 by rw [(show (1 : Int32) = nI 1 from rfl), k3I hk (by decide)]; exact q1), if_neg (show ¬ gi M 1006 = 1 from n6 1 (by decide) q1), (show (40 : Int32) = nI 40 from rfl)]
      have c40 := isSC t (c := 40) (by decide)
      have m40 := isSM t (c := 40) (by decide) (by decide)
      unfold F_m_mark
      rw [c40, b1_s, if_pos t.m10, m40, b1_s]
      cases w : sg y b k 40
      · rw [if_pos (show bI false = 0 from rfl), if_pos (show bI false = 0 from rfl)]
        obtain ⟨S1, M1, p1, p2, p3, p4, p5⟩ := t.bad (e := 1) (by decide) (by decide)
        refine ⟨S1, M1, ?_, ?_, p3.e.x, p4.e.x, Or.inr p5⟩
        · rw [show F_Rd_fail 1 S = some ((), S1) from p1, b2_s]
        · rw [show F_m_wrong 1 M = some ((), M1) from p2, b2_s]
          unfold F_m_mark_20
          rw [if_neg p5.m, b2_s]
          refine (congrArg (fun z => b2 z _) (hdd _ _ p5.m)).trans ?_
          rw [b2_s, if_neg p5.m, if_neg p5.m, b2_s]
      · rw [if_neg (show ¬ bI true = 0 by decide), if_neg (show ¬ bI true = 0 by decide)]
        have hk3 : k = 3 := (of_decide_eq_true w).1
        obtain ⟨b2', a2, k2, S1, M1, w1, w2, w3, w4, w5, w6⟩ := t.go
        obtain ⟨S2, M2, p1, p2, p3, p4, p5⟩ := hrc s d b2' S1 M1 ⟨⟨a2, k2, w6⟩, by omega, h3.e w3.e w4.e⟩ hd
        rw [w1, b2_s, mk_20 t.m10 w2, b2_s]
        rcases p5 with ⟨s3, b3, x1, x2, x3⟩ | hD
        · obtain ⟨⟨a4, k4, t4⟩, y2, y3⟩ := x1
          obtain ⟨S5, M5, z1, z2, z3, z4, z5⟩ := mark_ok t4 (c := 41) (by decide) (by decide)
          refine ⟨S5, M5, ?_, ?_, (w3.e.x.trans p3).trans z3.x, (w4.e.x.trans p4).trans z4.x, ?_⟩
          · refine (congrArg (fun z => b2 z _) p1).trans ?_
            rw [b2_s, if_pos t4.c9, (show (41 : Int32) = nI 41 from rfl), z1, b2_s]
          · refine (congrArg (fun z => b2 z _) p2).trans ?_
            unfold F_m_mark at z2
            rw [b2_s, (show (41 : Int32) = nI 41 from rfl)]
            refine (congrArg (fun z => b2 z _) z2).trans ?_
            rw [b2_s]
          · rcases z5 with ⟨b6, a6, k6, v1, v2⟩ | v
            · exact Or.inl ⟨s3, b6, ⟨⟨a6, k6, v2⟩, by omega, y3.e z3 z4⟩, by omega, by omega⟩
            · exact Or.inr v
        · refine ⟨S2, M2, ?_, ?_, w3.e.x.trans p3, w4.e.x.trans p4, Or.inr hD⟩
          · refine (congrArg (fun z => b2 z _) p1).trans ?_
            rw [b2_s, if_neg hD.c]
          · refine (congrArg (fun z => b2 z _) p2).trans ?_
            rw [b2_s, if_neg hD.m]
            unfold F_m_mark_20
            rw [if_neg hD.m, b2_s]
theorem prod_ok (hP : Sm y n (u + 1) (F_Rd_readPart rc x) (F_m_readPart rc' x')) : Sm y n u (F_Rd_readProduct rc x) (F_m_readProduct rc' x') :=
  chS (c1 := 42) (c2 := 47) (o1 := 15) (o2 := 16) (G := fun f i S => F_Rd_readProduct_7 rc f x i S) (G' := fun f M => F_m_readProduct_5 rc' f x' M) (by decide) (by decide) (by decide) (by decide) (by decide) (fun _ _ _ => rfl) (fun _ _ => rfl) hP
theorem sum_ok (hP : Sm y n (u + 1) (F_Rd_readProduct rc x) (F_m_readProduct rc' x')) : Sm y n u (F_Rd_readSum rc x) (F_m_readSum rc' x') :=
  chS (c1 := 43) (c2 := 45) (o1 := 13) (o2 := 14) (G := fun f i S => F_Rd_readSum_7 rc f x i S) (G' := fun f M => F_m_readSum_5 rc' f x' M) (by decide) (by decide) (by decide) (by decide) (by decide) (fun _ _ _ => rfl) (fun _ _ => rfl) hP
theorem and_ok (hP : Sm y n (u + 1) (F_Rd_readNot rc x) (F_m_readNot rc' x')) : Sm y n u (F_Rd_readAnd rc x) (F_m_readAnd rc' x') :=
  chW (p := 3018) (o := 10) (G := fun f i S => F_Rd_readAnd_7 rc f x i S) (G' := fun f M => F_m_readAnd_5 rc' f x' M) (by decide) (by decide) (fun _ _ _ => rfl) (fun _ _ => rfl) hP
theorem or_ok (hP : Sm y n (u + 1) (F_Rd_readAnd rc x) (F_m_readAnd rc' x')) : Sm y n u (fun S => b2 (F_Rd_readAnd rc x S) (fun _ S3 => F_Rd_readExprb_48 rc FU x 0 S3)) (fun M => b2 (F_m_readAnd rc' x' M) (fun _ M3 => F_m_readExpressionb_67 rc' FU x' M3)) :=
  chW (p := 3017) (o := 9) (G := fun f i S => F_Rd_readExprb_48 rc f x i S) (G' := fun f M => F_m_readExpressionb_67 rc' f x' M) (by decide) (by decide) (fun _ _ _ => rfl) (fun _ _ => rfl) hP
/-- a test; v: what the model does behind it -/
theorem test_ok (hP : Sm y n (u + 1) (F_Rd_readSum rc x) (F_m_readSum rc' x')) (v : Int32) : ∀ s d b S M, XP y n s d b S M → d ≤ u → ∃ S' M', F_Rd_readTest rc x S = some ((), S') ∧
    b2 (F_m_readSum rc' x' M) (fun _ M5 => b1 (F_m_isMarked (60 : Int32) M5) (fun r6 => if r6 = 0 then b1 (F_m_isMarked (61 : Int32) M5) (fun r8 => if r8 = 0 then F_m_readNot_93 rc' v M5 else F_m_readNot_62 rc' x' v M5) else F_m_readNot_62 rc' x' v M5)) = F_m_readNot_93 rc' v M' ∧ xC S S' ∧ xM M M' ∧ Ou y n s (d + 1) b S' M' := by
  intro s d b S M h hd
  obtain ⟨S1, M1, p1, p2, p3, p4, p5⟩ := hP s d b S M h (by omega)
  unfold F_Rd_readTest
  rw [p1, b2_s, p2, b2_s]
  rcases p5 with ⟨s3, b3, x1, x2, x3⟩ | hD
  · have hx1 := x1
    obtain ⟨⟨a4, k4, t4⟩, y2, y3⟩ := x1
    have h5 := hx1.b5
    have hba := t4.ba
    have c60 := isSC t4 (c := 60) (by decide)
    have c61 := isSC t4 (c := 61) (by decide)
    have m60 := isSM t4 (c := 60) (by decide) (by decide)
    have m61 := isSM t4 (c := 61) (by decide) (by decide)
    unfold F_Rd_readTest_30 F_m_readNot_62
    rw [if_pos t4.c9, (show (60 : Int32) = nI 60 from rfl), (show (61 : Int32) = nI 61 from rfl), c60, b1_s, c61, b1_s, m60, b1_s, b1_s, m61, b1_s]
    have go : ∀ o, o = 11 ∨ o = 12 → k4 = 3 → ∃ S' M', F_Rd_readTest_46 rc x (nI o) S1 = some ((), S') ∧ F_m_readNot_78 rc' x' v (sgn o 0) M1 = F_m_readNot_93 rc' v M' ∧ xC S S' ∧ xM M M' ∧ Ou y n s (d + 1) b S' M' := by
      intro o ho hk3
      obtain ⟨b2', a2, k2, S2, M2, w1, w2, w3, w4, w5, w6⟩ := t4.go
      obtain ⟨S3, M3, q1, q2, q3, q4, q5⟩ := hP s3 (d + 1) b2' S2 M2 ⟨⟨a2, k2, w6⟩, by omega, y3.e w3.e w4.e⟩ (by omega)
      unfold F_Rd_readTest_46 F_m_readNot_78
      rw [w1, b2_s, q1, b2_s, w2, b2_s, q2, b2_s]
      rcases q5 with ⟨s6, b6, z1, z2, z3⟩ | hD
      · obtain ⟨S4, M4, r1, r2, r3, r4, r5⟩ := op_ok (c := o) (d' := d + 1) z1 (by omega) (by omega) (by
          unfold dstep
          rw [if_neg (by omega), if_neg (by omega), if_pos (by omega), Nat.add_sub_cancel])
        refine ⟨S4, M4, ?_, ?_, ((p3.trans w3.e.x).trans q3).trans r3, ((p4.trans w4.e.x).trans q4).trans r4, Or.inl ⟨s6 + 1, b6, r5, by omega, by omega⟩⟩
        · rw [r1, b2_s]
        · rw [r2, b2_s]
      · obtain ⟨T, d1, d2, d3⟩ := add_d hD (nI o) 0
        refine ⟨T, M3, ?_, ?_, ((p3.trans w3.e.x).trans q3).trans d2, (p4.trans w4.e.x).trans q4, Or.inr d3⟩
        · rw [d1, b2_s]
        · rw [md_lay hD.m, b2_s]
    cases w : sg y b3 k4 60
    · rw [if_pos (show bI false = 0 from rfl), if_pos (show bI false = 0 from rfl)]
      cases w2 : sg y b3 k4 61
      · rw [if_pos (show bI false = 0 from rfl), if_pos (show bI false = 0 from rfl)]
        exact ⟨S1, M1, rfl, rfl, p3, p4, Or.inl ⟨s3, b3, hx1, x2, x3⟩⟩
      · rw [if_neg (show ¬ bI true = 0 by decide), if_neg (show ¬ bI true = 0 by decide), if_pos (show bI false = 0 from rfl)]
        obtain ⟨hk3, e1⟩ := of_decide_eq_true w2
        have e14 : gi S1 14 = nI (y b3) := by
          obtain ⟨_, _, _, _, _, _, _, _, _, _, _, _, t13⟩ := t4
          rcases t13 with w | w | w | w
          · omega
          · omega
          · omega
          · exact w.2.2.1
        rw [e14, e1, if_neg (by decide)]
        exact go 12 (Or.inr rfl) hk3
    · rw [if_neg (show ¬ bI true = 0 by decide), if_neg (show ¬ bI true = 0 by decide), if_neg (show ¬ bI true = 0 by decide)]
      obtain ⟨hk3, e1⟩ := of_decide_eq_true w
      have e14 : gi S1 14 = nI (y b3) := by
        obtain ⟨_, _, _, _, _, _, _, _, _, _, _, _, t13⟩ := t4
        rcases t13 with w | w | w | w
        · omega
        · omega
        · omega
        · exact w.2.2.1
      rw [e14, e1, if_pos rfl]
      exact go 11 (Or.inl rfl) hk3
  · refine ⟨S1, M1, ?_, ?_, p3, p4, Or.inr hD⟩
    · rw [if_neg hD.c]
    · rw [md_isM hD.m, b1_s, if_pos (show bI false = 0 from rfl), md_isM hD.m, b1_s, if_pos (show bI false = 0 from rfl)]
theorem nots_lp {m : Nat} (hm : m < 100) : ∀ (j f f' i s d b : Nat) (S M : Sto), i + j = m → j < f → j < f' → XP y n s d b S M → s + j ≤ b → 1 ≤ d → ∃ S' M', F_Rd_readNot_55 rc f (nI m) (nI i) S = some ((), S') ∧ F_m_readNot_95 rc' f' (nI m) (nI i) M = some ((), M') ∧ xC S S' ∧ xM M M' ∧ XP y n (s + j) d b S' M' := by
  intro j
  induction j with
  | zero =>
    intro f f' i s d b S M hi hf hf' h hs hd
    obtain ⟨f, rfl⟩ : ∃ q, f = q + 1 := ⟨f - 1, by omega⟩
    obtain ⟨f', rfl⟩ : ∃ q, f' = q + 1 := ⟨f' - 1, by omega⟩
    refine ⟨S, M, ?_, ?_, Fr.rfl, xM.rfl, h⟩
    · rw [F_Rd_readNot_55, if_pos (nI_le (by omega) (by omega))]
    · rw [F_m_readNot_95, if_pos (nI_le (by omega) (by omega))]
  | succ j ih =>
    intro f f' i s d b S M hi hf hf' h hs hd
    obtain ⟨f, rfl⟩ : ∃ q, f = q + 1 := ⟨f - 1, by omega⟩
    obtain ⟨f', rfl⟩ : ∃ q, f' = q + 1 := ⟨f' - 1, by omega⟩
    obtain ⟨S1, M1, r1, r2, r3, r4, r5⟩ := op_ok (c := 8) (d' := d) h (by omega) (by decide) (by
      unfold dstep
      rw [if_neg (by decide), if_pos rfl, if_pos (by omega)])
    obtain ⟨S2, M2, z1, z2, z3, z4, z5⟩ := ih f f' (i + 1) (s + 1) d b S1 M1 (by omega) (by omega) (by omega) r5 (by omega) hd
    refine ⟨S2, M2, ?_, ?_, r3.trans z3, r4.trans z4, ?_⟩
    · rw [F_Rd_readNot_55, if_neg (nI_ge (by omega) (by omega)), (show (8 : Int32) = nI 8 from rfl), r1, b2_s, show nI i + (1 : Int32) = nI (i + 1) from nI_add i 1]
      exact z1
    · have r2' : F_m_lay (-28) M = some ((), M1) := r2
      rw [F_m_readNot_95, if_neg (nI_ge (by omega) (by omega)), r2', b2_s, show nI i + (1 : Int32) = nI (i + 1) from nI_add i 1]
      exact z2
    · rw [show s + (j + 1) = s + 1 + j by omega]
      exact z5
theorem nots_d {m : Nat} (hm : m < 100) : ∀ (j f i : Nat) (S M : Sto), i + j = m → j < f → Dd S M → ∃ S', F_Rd_readNot_55 rc f (nI m) (nI i) S = some ((), S') ∧ xC S S' ∧ Dd S' M := by
  intro j
  induction j with
  | zero =>
    intro f i S M hi hf h
    obtain ⟨f, rfl⟩ : ∃ q, f = q + 1 := ⟨f - 1, by omega⟩
    refine ⟨S, ?_, Fr.rfl, h⟩
    rw [F_Rd_readNot_55, if_pos (nI_le (by omega) (by omega))]
  | succ j ih =>
    intro f i S M hi hf h
    obtain ⟨f, rfl⟩ : ∃ q, f = q + 1 := ⟨f - 1, by omega⟩
    obtain ⟨T, d1, d2, d3⟩ := add_d h (nI 8) (nI 0)
    obtain ⟨S2, z1, z2, z3⟩ := ih f (i + 1) T M (by omega) (by omega) d3
    refine ⟨S2, ?_, d2.trans z2, z3⟩
    rw [F_Rd_readNot_55, if_neg (nI_ge (by omega) (by omega)), (show (8 : Int32) = nI 8 from rfl), show F_Ru_add (nI 8) 0 S = some ((), T) from d1, b2_s, show nI i + (1 : Int32) = nI (i + 1) from nI_add i 1]
    exact z1
theorem not_lp (hP : Sm y n (u + 1) (F_Rd_readSum rc x) (F_m_readSum rc' x')) : ∀ (j f f' i s d b0 b : Nat) (S M : Sto), i + j = 6 → j < f → j + 1 < f' → XP y n s d b S M → d ≤ u → s ≤ b0 → b0 + i ≤ b → ∃ S' M', F_Rd_readNot_2 rc f x (nI i) S = some ((), S') ∧ F_m_readNot_2 rc' f' x' (nI i) M = some ((), M') ∧ xC S S' ∧ xM M M' ∧ Ou y n s (d + 1) b0 S' M' := by
  have F27 : ∀ (i s d b0 b a k : Nat) (S M : Sto) (f' : Nat), i ≤ 6 → XP y n s d b S M → Tk y n b a k S M → d ≤ u → s ≤ b0 → b0 + i ≤ b → tkW y b a k 3019 = false → ∃ S' M', F_Rd_readNot_27 rc x (nI i) S = some ((), S') ∧ F_m_readNot_2 rc' (f' + 1) x' (nI i) M = some ((), M') ∧ xC S S' ∧ xM M M' ∧ Ou y n s (d + 1) b0 S' M' := by
    intro i s d b0 b a k S M f' hi h t hd hs hb w
    have wc := isWC t (p := 3019) (by decide) (by decide)
    have wm := isWM t (p := 3019) (by decide) (by decide)
    obtain ⟨S1, M1, p1, p2, p3, p4, p5⟩ := test_ok hP (nI i) s d b S M h hd
    unfold F_Rd_readNot_27 F_Rd_readNot_48
    rw [wc, b1_s, if_pos (bF w), p1, b2_s, F_m_readNot_2, wm, b1_s, if_pos (bF w), p2]
    unfold F_m_readNot_93
    rcases p5 with ⟨s3, b3, x1, x2, x3⟩ | hD
    · have h5 := x1.b5
      obtain ⟨S2, M2, z1, z2, z3, z4, z5⟩ := nots_lp (rc := rc) (rc' := rc') (m := i) (by omega) i FU FU 0 s3 (d + 1) b3 S1 M1 (Nat.zero_add _) (by rw [FU_v]; omega) (by rw [FU_v]; omega) x1 (by omega) (by omega)
      exact ⟨S2, M2, z1, z2, p3.trans z3, p4.trans z4, Or.inl ⟨s3 + i, b3, z5, by omega, by omega⟩⟩
    · obtain ⟨S2, z1, z2, z3⟩ := nots_d (rc := rc) (m := i) (by omega) i FU 0 S1 M1 (Nat.zero_add _) (by rw [FU_v]; omega) hD
      exact ⟨S2, M1, z1, md_95 hD.m rc' (by omega) i FU 0 (Nat.zero_add _) (by rw [FU_v]; omega), p3.trans z2, p4, Or.inr z3⟩
  intro j
  induction j with
  | zero =>
    intro f f' i s d b0 b S M hi hf hf' h hd hs hb
    obtain ⟨f, rfl⟩ : ∃ q, f = q + 1 := ⟨f - 1, by omega⟩
    obtain ⟨f', rfl⟩ : ∃ q, f' = q + 1 + 1 := ⟨f' - 2, by omega⟩
    have : i = 6 := by omega
    subst this
    have hX := h
    obtain ⟨⟨a, k, t⟩, h2, h3⟩ := h
    have wc := isWC t (p := 3019) (by decide) (by decide)
    have wm := isWM t (p := 3019) (by decide) (by decide)
    rw [F_Rd_readNot_2, if_pos (by decide)]
    cases w : tkW y b a k 3019
    · exact F27 6 s d b0 b a k S M (f' + 1) (by decide) hX t hd hs hb w
    · obtain ⟨S1, M1, p1, p2, p3, p4, p5⟩ := t.bad (e := 2) (by decide) (by decide)
      refine ⟨S1, M1, ?_, ?_, p3.e.x, p4.e.x, Or.inr p5⟩
      · unfold F_Rd_readNot_27
        rw [wc, b1_s, if_neg (bT w), if_pos (show nI 6 = 6 from rfl), (show (2 : Int32) = nI 2 from rfl), p1, b2_s]
      · rw [F_m_readNot_2, wm, b1_s, if_neg (bT w), if_pos (show nI 6 = 6 from rfl), (show (2 : Int32) = nI 2 from rfl), p2, b2_s]
        unfold F_m_readNot_22
        rw [if_neg p5.m, show nI 6 + (1 : Int32) = nI 7 from rfl]
        exact md_not p5.m rc' x' (by decide) f'
  | succ j ih =>
    intro f f' i s d b0 b S M hi hf hf' h hd hs hb
    obtain ⟨f, rfl⟩ : ∃ q, f = q + 1 := ⟨f - 1, by omega⟩
    obtain ⟨f', rfl⟩ : ∃ q, f' = q + 1 := ⟨f' - 1, by omega⟩
    have hX := h
    obtain ⟨⟨a, k, t⟩, h2, h3⟩ := h
    have hba := t.ba
    have wc := isWC t (p := 3019) (by decide) (by decide)
    have wm := isWM t (p := 3019) (by decide) (by decide)
    rw [F_Rd_readNot_2, if_neg (by rw [show (6 : Int32) = nI 6 from rfl]; exact nI_ge (by omega) (by decide)), wc, b1_s]
    cases w : tkW y b a k 3019
    · rw [if_pos (show bI false = 0 from rfl)]
      exact F27 i s d b0 b a k S M f' (by omega) hX t hd hs hb w
    · rw [if_neg (show ¬ bI true = 0 by decide)]
      have hk : k = 1 := (tkW_iff.mp w).1
      obtain ⟨b2', a2, k2, S1, M1, w1, w2, w3, w4, w5, w6⟩ := t.go
      obtain ⟨S2, M2, z1, z2, z3, z4, z5⟩ := ih f f' (i + 1) s d b0 b2' S1 M1 (by omega) (by omega) (by omega) ⟨⟨a2, k2, w6⟩, by omega, h3.e w3.e w4.e⟩ hd hs (by omega)
      refine ⟨S2, M2, ?_, ?_, w3.e.x.trans z3, w4.e.x.trans z4, z5⟩
      · rw [w1, b2_s, show nI i + (1 : Int32) = nI (i + 1) from nI_add i 1]
        exact z1
      · rw [F_m_readNot_2, wm, b1_s, if_neg (bT w), if_neg (by rw [show (6 : Int32) = nI 6 from rfl, eq_nI (by omega) (by decide)]; omega)]
        unfold F_m_readNot_22
        rw [if_pos t.m10, w2, b2_s, show nI i + (1 : Int32) = nI (i + 1) from nI_add i 1]
        exact z2
theorem not_ok (hP : Sm y n (u + 1) (F_Rd_readSum rc x) (F_m_readSum rc' x')) : Sm y n u (F_Rd_readNot rc x) (F_m_readNot rc' x') := by
  intro s d b S M h hd
  have h5 := h.b5
  unfold F_Rd_readNot F_m_readNot
  rw [(show (0 : Int32) = nI 0 from rfl)]
  exact not_lp hP 6 FU FU 0 s d b b S M rfl (by rw [FU_v]; omega) (by rw [FU_v]; omega) h hd h5.1 (Nat.le_refl _)
/-- nothing that can begin a part: the class comes to its fault at the part -/
theorem no_part {b a k : Nat} {S M : Sto} (t : Tk y n b a k S M) (k1 : k ≠ 1) (k2 : k ≠ 2) (k3 : sg y b k 40 = false) : F_Rd_readAnd rc x S = b2 (F_Rd_fail 1 S) (fun _ S1 => some ((), S1)) := by
  obtain ⟨S1, M1, p1, p2, p3, p4, p5⟩ := t.bad (e := 1) (by decide) (by decide)
  have p1' : F_Rd_fail 1 S = some ((), S1) := p1
  have hk := t.k3
  have e12 : gi S 12 = nI k := by
    obtain ⟨_, _, _, _, _, _, _, _, _, t10, _⟩ := t
    exact t10
  have c40 := isSC t (c := 40) (by decide)
  have wc := isWC t (p := 3019) (by decide) (by decide)
  have w0 : tkW y b a k 3019 = false := tkW_k k1
  have q0 : ¬ (500 : Int32) ≤ 0 := by decide
  have e1 : F_Rd_readPart rc x S = some ((), S1) := by
    unfold F_Rd_readPart
    rw [e12, (show (2 : Int32) = nI 2 from rfl), if_neg (by rw [k3I hk (by decide)]; exact k2), if_neg (show ¬ nI k = 1 by rw [(show (1 : Int32) = nI 1 from rfl), k3I hk (by decide)]; exact k1), (show (40 : Int32) = nI 40 from rfl), c40, b1_s, if_pos (bF k3), p1', b2_s]
  have e2 : F_Rd_readProduct rc x S = some ((), S1) := by
    unfold F_Rd_readProduct
    rw [e1, b2_s, show FU = 1099511627775 + 1 from rfl, F_Rd_readProduct_7, if_neg q0, if_neg p5.c]
  have e3 : F_Rd_readSum rc x S = some ((), S1) := by
    unfold F_Rd_readSum
    rw [e2, b2_s, show FU = 1099511627775 + 1 from rfl, F_Rd_readSum_7, if_neg q0, if_neg p5.c]
  have e4 : F_Rd_readTest rc x S = some ((), S1) := by
    unfold F_Rd_readTest
    rw [e3, b2_s, if_neg p5.c]
  have e5 : F_Rd_readNot rc x S = some ((), S1) := by
    unfold F_Rd_readNot
    rw [show FU = 1099511627775 + 1 from rfl, F_Rd_readNot_2, if_neg (by decide), wc, b1_s, if_pos (bF w0)]
    unfold F_Rd_readNot_27 F_Rd_readNot_48
    rw [wc, b1_s, if_pos (bF w0), e4, b2_s, show FU = 1099511627775 + 1 from rfl, F_Rd_readNot_55, if_pos (by decide)]
  unfold F_Rd_readAnd
  rw [e5, b2_s, show FU = 1099511627775 + 1 from rfl, F_Rd_readAnd_7, if_neg q0, if_neg p5.c, p1', b2_s]
end
/-- whether an EXPR may begin -/
theorem may_d {y : Nat → Nat} {n b a k : Nat} {S M : Sto} (t : Tk y n b a k S M) (rc' : Int32 → Sto → Option (Unit × Sto)) (x' : Int32) : F_m_readExpressionb rc' x' M = F_m_readExpressionb_38 rc' x' (bI (decide (k = 2 ∨ k = 1 ∨ sg y b k 40 = true))) M := by
  have hk := t.k3
  have m40 := isSM t (c := 40) (by decide) (by decide)
  obtain ⟨_, _, _, m10, _, _, _, _, _, _, _, _, t13⟩ := t
  unfold F_m_readExpressionb F_m_readExpressionb_33
  rw [if_pos m10, (show (40 : Int32) = nI 40 from rfl), m40, b1_s]
  rcases t13 with w | w | w | w
  · have w4 : sg y b k 40 = false := decide_eq_false (by omega)
    rw [w.2.1, if_neg (by decide), if_neg (by decide), if_pos (bF w4), decide_eq_false (by rw [w4]; intro z; rcases z with z | z | z <;> first | omega | cases z)]
    rfl
  · rw [w.2.1, if_neg (by decide), if_pos rfl, decide_eq_true (Or.inr (Or.inl w.1))]
    rfl
  · rw [w.2.1, if_pos rfl, decide_eq_true (Or.inl w.1)]
    rfl
  · have e1 : ¬ gi M 1006 = 2 ∧ ¬ gi M 1006 = 1 := by rw [w.2.2.2]; split <;> decide
    rw [if_neg e1.1, if_neg e1.2]
    cases w4 : sg y b k 40
    · rw [if_pos (show bI false = 0 from rfl), decide_eq_false (by intro z; rcases z with z | z | z <;> first | omega | cases z)]
      rfl
    · rw [if_neg (show ¬ bI true = 0 by decide), decide_eq_true (Or.inr (Or.inr rfl))]
      rfl
theorem ex_ok {y : Nat → Nat} {n : Nat} : ∀ (j e f f' : Nat), e + j = 7 → 1 ≤ e → j < f → j < f' → Sm y n (5 * (e - 1)) (F_Rd_readExpr f (nI e)) (F_m_readExpression f' (nI (e - 1))) := by
  intro j
  induction j with
  | zero =>
    intro e f f' he e1 hf hf'
    obtain ⟨f, rfl⟩ : ∃ q, f = q + 1 := ⟨f - 1, by omega⟩
    obtain ⟨f', rfl⟩ : ∃ q, f' = q + 1 := ⟨f' - 1, by omega⟩
    have : e = 7 := by omega
    subst this
    intro s d b S M h hd
    obtain ⟨⟨a, k, t⟩, h2, h3⟩ := h
    have hk := t.k3
    have e12 : gi S 12 = nI k := by
      obtain ⟨_, _, _, _, _, _, _, _, _, t10, _⟩ := t
      exact t10
    have c40 := isSC t (c := 40) (by decide)
    rw [F_Rd_readExpr, F_m_readExpression, may_d t]
    unfold F_Rd_readExprb F_Rd_readExprb_32 F_m_readExpressionb_38
    rw [if_neg (by decide), e12, (show (2 : Int32) = nI 2 from rfl), (show (1 : Int32) = nI 1 from rfl), (show (40 : Int32) = nI 40 from rfl), c40, b1_s]
    have y2 : ∀ q : Nat, q ≤ 3 → k = q → nI k = nI q := fun q _ h => by rw [h]
    have n2 : ∀ q : Nat, q ≤ 3 → ¬ k = q → ¬ nI k = nI q := fun q hq h => by rw [k3I hk hq]; exact h
    have dead : ∀ e, 1 ≤ e → e ≤ 6 → ∃ S' M', F_Rd_readExprb_37 (F_Rd_readExpr f) (nI e) S = some ((), S') ∧ b2 (F_m_wrong (nI e) M) (fun _ M3 => F_m_readExpressionb_62 (F_m_readExpression f') (nI (7 - 1)) M3) = some ((), M') ∧ xC S S' ∧ xM M M' ∧ Ou y n s (d + 1) b S' M' := by
      intro e g1 g2
      obtain ⟨S1, M1, p1, p2, p3, p4, p5⟩ := t.bad (e := e) g1 g2
      refine ⟨S1, M1, ?_, ?_, p3.e.x, p4.e.x, Or.inr p5⟩
      · unfold F_Rd_readExprb_37
        rw [p1, b2_s]
      · rw [p2, b2_s]
        exact md_62 p5.m _ _
    by_cases w : k = 2 ∨ k = 1 ∨ sg y b k 40 = true
    · rw [decide_eq_true w, if_neg (show ¬ bI true = 0 by decide), if_pos (show nI (7 - 1) = 6 from rfl)]
      rcases w with w | w | w
      · rw [if_pos (y2 2 (by decide) w)]; exact dead 2 (by decide) (by decide)
      · rw [if_neg (n2 2 (by decide) (by omega)), if_pos (y2 1 (by decide) w)]; exact dead 2 (by decide) (by decide)
      · have k3 : k = 3 := (of_decide_eq_true w).1
        rw [if_neg (n2 2 (by decide) (by omega)), if_neg (n2 1 (by decide) (by omega)), if_neg (bT w)]; exact dead 2 (by decide) (by decide)
    · have k2 : ¬ k = 2 := fun z => w (Or.inl z)
      have k1 : ¬ k = 1 := fun z => w (Or.inr (Or.inl z))
      have k4 : sg y b k 40 = false := by
        cases z : sg y b k 40
        · rfl
        · exact absurd (Or.inr (Or.inr z)) w
      rw [decide_eq_false w, if_pos (show bI false = 0 from rfl), if_neg (n2 2 (by decide) k2), if_neg (n2 1 (by decide) k1), if_pos (bF k4)]
      exact dead 1 (by decide) (by decide)
  | succ j ih =>
    intro e f f' he e1 hf hf'
    obtain ⟨f, rfl⟩ : ∃ q, f = q + 1 := ⟨f - 1, by omega⟩
    obtain ⟨f', rfl⟩ : ∃ q, f' = q + 1 := ⟨f' - 1, by omega⟩
    obtain ⟨f', rfl⟩ : ∃ q, f' = q + 1 := ⟨f' - 1, by omega⟩
    have hrc := ih (e + 1) f (f' + 1) (by omega) (by omega) (by omega) (by omega)
    have hrc2 : Sm y n (5 * (e - 1) + 5) (F_Rd_readExpr f (nI e + 1)) (F_m_readExpression (f' + 1) (nI (e - 1) + 1)) := by
      have a1 : nI e + (1 : Int32) = nI (e + 1) := nI_add e 1
      have a2 : nI (e - 1) + (1 : Int32) = nI (e + 1 - 1) := (nI_add (e - 1) 1).trans (congrArg nI (by omega))
      rw [a1, a2, show 5 * (e - 1) + 5 = 5 * (e + 1 - 1) by omega]
      exact hrc
    have hp := part_ok (by omega) hrc2 (fun z M hM => md_expr hM f' z)
    have hor := or_ok (and_ok (not_ok (sum_ok (prod_ok hp))))
    intro s d b S M h hd
    have hX := h
    obtain ⟨⟨a, k, t⟩, h2, h3⟩ := h
    rw [F_Rd_readExpr, F_m_readExpression, may_d t]
    unfold F_Rd_readExprb F_m_readExpressionb_38
    rw [if_pos (show nI e ≤ 6 by rw [show (6 : Int32) = nI 6 from rfl, le_nI (by omega) (by decide)]; omega)]
    by_cases w : k = 2 ∨ k = 1 ∨ sg y b k 40 = true
    · rw [decide_eq_true w, if_neg (show ¬ bI true = 0 by decide), if_neg (show ¬ nI (e - 1) = 6 by rw [show (6 : Int32) = nI 6 from rfl, eq_nI (by omega) (by decide)]; omega)]
      exact hor s d b S M hX hd
    · have k2 : k ≠ 2 := fun z => w (Or.inl z)
      have k1 : k ≠ 1 := fun z => w (Or.inr (Or.inl z))
      have k4 : sg y b k 40 = false := by
        cases z : sg y b k 40
        · rfl
        · exact absurd (Or.inr (Or.inr z)) w
      obtain ⟨S1, M1, p1, p2, p3, p4, p5⟩ := t.bad (e := 1) (by decide) (by decide)
      refine ⟨S1, M1, ?_, ?_, p3.e.x, p4.e.x, Or.inr p5⟩
      · rw [no_part t k1 k2 k4, (show (1 : Int32) = nI 1 from rfl), p1, b2_s, b2_s, show FU = 1099511627775 + 1 from rfl, F_Rd_readExprb_48, if_neg (by decide), if_neg p5.c]
      · rw [decide_eq_false w, if_pos (show bI false = 0 from rfl), (show (1 : Int32) = nI 1 from rfl), p2, b2_s]
        exact md_62 p5.m _ _
