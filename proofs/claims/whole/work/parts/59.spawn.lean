/-! ===== the model's year ===== -/
theorem mbit_ok {x p : Nat} (hx : x < 4611686018427387904) (hp : p < 64) : F_m_bit (lN x) (nI p) = some (nI (bt2 x p)) := by
  unfold F_m_bit
  rw [bitM_ok hx hp, l2i_lN]
  rfl
theorem reckon_ok {code v : Nat} (h1 : 9 ≤ code) (h2 : code ≤ 16) (l r : Int32) : F_m_reckon (sgn code v) l r = some (jv code l r) := by
  unfold F_m_reckon
  have hcs : code = 9 ∨ code = 10 ∨ code = 11 ∨ code = 12 ∨ code = 13 ∨ code = 14 ∨ code = 15 ∨ code = 16 := by omega
  rcases hcs with q | q | q | q | q | q | q | q <;> subst q
  · rw [show sgn 9 v = -27 from rfl, if_neg (show ¬ (-27 : Int32) = (-26) by decide), if_neg (show ¬ (-27 : Int32) = (-25) by decide), if_neg (show ¬ (-27 : Int32) = (-24) by decide), if_neg (show ¬ (-27 : Int32) = (-23) by decide), if_neg (show ¬ (-27 : Int32) = (-22) by decide), if_neg (show ¬ (-27 : Int32) = (-21) by decide), if_neg (show ¬ (-27 : Int32) = (-20) by decide), show jv 9 l r = (if l = 0 then (if r = 0 then (0 : Int32) else 1) else 1) from rfl]
    by_cases w : l = 0
    · rw [if_pos w, if_pos w]
      by_cases v : r = 0
      · rw [if_pos v, if_pos v]
      · rw [if_neg v, if_neg v]
    · rw [if_neg w, if_neg w]
  · rw [show sgn 10 v = -26 from rfl, if_pos (show (-26 : Int32) = (-26) from rfl), show jv 10 l r = (if l = 0 then (0 : Int32) else if r = 0 then 0 else 1) from rfl]
    by_cases w : l = 0
    · rw [if_pos w, if_pos w]
    · rw [if_neg w, if_neg w]
      by_cases v : r = 0
      · rw [if_pos v, if_pos v]
      · rw [if_neg v, if_neg v]
  · rw [show sgn 11 v = -24 from rfl, if_neg (show ¬ (-24 : Int32) = (-26) by decide), if_neg (show ¬ (-24 : Int32) = (-25) by decide), if_pos (show (-24 : Int32) = (-24) from rfl), show jv 11 l r = (if r ≤ l then (0 : Int32) else 1) from rfl]
    by_cases w : r ≤ l
    · rw [if_pos w, if_pos w]
    · rw [if_neg w, if_neg w]
  · rw [show sgn 12 v = -25 from rfl, if_neg (show ¬ (-25 : Int32) = (-26) by decide), if_pos (show (-25 : Int32) = (-25) from rfl), show jv 12 l r = (if l = r then (1 : Int32) else 0) from rfl]
    by_cases w : l = r
    · rw [if_pos w, if_pos w]
    · rw [if_neg w, if_neg w]
  · rw [show sgn 13 v = -20 from rfl, if_neg (show ¬ (-20 : Int32) = (-26) by decide), if_neg (show ¬ (-20 : Int32) = (-25) by decide), if_neg (show ¬ (-20 : Int32) = (-24) by decide), if_neg (show ¬ (-20 : Int32) = (-23) by decide), if_neg (show ¬ (-20 : Int32) = (-22) by decide), if_neg (show ¬ (-20 : Int32) = (-21) by decide), if_pos (show (-20 : Int32) = (-20) from rfl), show jv 13 l r = (l + r) from rfl]
  · rw [show sgn 14 v = -21 from rfl, if_neg (show ¬ (-21 : Int32) = (-26) by decide), if_neg (show ¬ (-21 : Int32) = (-25) by decide), if_neg (show ¬ (-21 : Int32) = (-24) by decide), if_neg (show ¬ (-21 : Int32) = (-23) by decide), if_neg (show ¬ (-21 : Int32) = (-22) by decide), if_pos (show (-21 : Int32) = (-21) from rfl), show jv 14 l r = (l - r) from rfl]
  · rw [show sgn 15 v = -22 from rfl, if_neg (show ¬ (-22 : Int32) = (-26) by decide), if_neg (show ¬ (-22 : Int32) = (-25) by decide), if_neg (show ¬ (-22 : Int32) = (-24) by decide), if_neg (show ¬ (-22 : Int32) = (-23) by decide), if_pos (show (-22 : Int32) = (-22) from rfl), show jv 15 l r = (l * r) from rfl]
  · rw [show sgn 16 v = -23 from rfl, if_neg (show ¬ (-23 : Int32) = (-26) by decide), if_neg (show ¬ (-23 : Int32) = (-25) by decide), if_neg (show ¬ (-23 : Int32) = (-24) by decide), if_pos (show (-23 : Int32) = (-23) from rfl), show jv 16 l r = (if r = 0 then (0 : Int32) else l / r) from rfl]
    by_cases w : r = 0
    · rw [if_pos w, if_pos w]
    · rw [if_neg w, if_neg w, ck_t (show nzI r = true from decide_eq_true w)]
theorem val_lp {Z : Zt} {x : Nat} {y : Int32} {p : Nat} (hz : ZOk Z) (hs : zS Z ≠ 0) : ∀ (m n i : Nat) (M : Sto), i + m = zS Z → m < n → ZM Z M → (∀ c, 1 ≤ c → c ≤ 7 → ai M 1013 (c - 1) = pv (zP Z) x c y p) → (∀ j, j < dN (zC Z) i → ai M 1014 j = evs (zC Z) (vat Z x y p) i j) →
    ∃ M', F_m_valueNow_4 n (nI (dN (zC Z) i)) (nI i) M = some (evs (zC Z) (vat Z x y p) (zS Z) 0, M') ∧ Fr [] [] [1014] [] [] M M' := by
  obtain ⟨_, _, hP, hS5, hcv, hdep⟩ := hz
  obtain ⟨hd1, hd2⟩ := dep_s (zS Z) (hdep hs)
  intro m
  induction m with
  | zero =>
    intro n i M hi hn hR hask hrow
    obtain ⟨n, rfl⟩ : ∃ q, n = q + 1 := ⟨n - 1, by omega⟩
    have : i = zS Z := by omega
    subst this
    have e0 : ai M 1003 (Int32.toNatClampNeg 2) = nI (zS Z) := hR.2.2.1
    refine ⟨M, ?_, Fr.rfl⟩
    rw [F_m_valueNow_4, e0, if_pos (nI_le (by omega) (by omega)), ← hrow 0 (by omega)]
    rfl
  | succ m ih =>
    intro n i M hi hn hR hask hrow
    obtain ⟨n, rfl⟩ : ∃ q, n = q + 1 := ⟨n - 1, by omega⟩
    have e0 : ai M 1003 (Int32.toNatClampNeg 2) = nI (zS Z) := hR.2.2.1
    obtain ⟨k1, k2, k3⟩ := hd2 i (by omega)
    have h32 := dN_32 hd2 i (by omega)
    obtain ⟨v1, v2⟩ := hcv i (by omega)
    have sg := hR.2.2.2.2 i (by omega)
    have ed : dN (zC Z) (i + 1) = if zC Z i < 8 then dN (zC Z) i + 1 else if zC Z i = 8 then dN (zC Z) i else dN (zC Z) i - 1 := rfl
    have ee : evs (zC Z) (vat Z x y p) (i + 1) = if zC Z i < 8 then (fun j => if j = dN (zC Z) i then vat Z x y p i else evs (zC Z) (vat Z x y p) i j) else if zC Z i = 8 then (fun j => if j = dN (zC Z) i - 1 then jv 8 (evs (zC Z) (vat Z x y p) i (dN (zC Z) i - 1)) (evs (zC Z) (vat Z x y p) i (dN (zC Z) i - 1)) else evs (zC Z) (vat Z x y p) i j) else (fun j => if j = dN (zC Z) i - 2 then jv (zC Z i) (evs (zC Z) (vat Z x y p) i (dN (zC Z) i - 2)) (evs (zC Z) (vat Z x y p) i (dN (zC Z) i - 1)) else evs (zC Z) (vat Z x y p) i j) := rfl
    have hzm : ∀ T, Fr [] [] [1014] [] [] M T → ZM Z T := fun T q => ZM_fr hR q (by decide) (by decide)
    have hak : ∀ T, Fr [] [] [1014] [] [] M T → ∀ c, 1 ≤ c → c ≤ 7 → ai T 1013 (c - 1) = pv (zP Z) x c y p := fun T q c c1 c2 => by rw [q.ai _ (by decide)]; exact hask c c1 c2
    have go : ∀ (j : Nat) (w : Int32) (d' : Nat), j < 64 → dN (zC Z) (i + 1) = d' → (∀ k, k < d' → (if k = j then w else ai M 1014 k) = evs (zC Z) (vat Z x y p) (i + 1) k) →
        ∃ M', F_m_valueNow_4 n (nI d') (nI (i + 1)) (ui M 1014 (upd (ai M 1014) j w)) = some (evs (zC Z) (vat Z x y p) (zS Z) 0, M') ∧ Fr [] [] [1014] [] [] M M' := by
      intro j w d' hj hd hk
      have q : Fr [] [] [1014] [] [] M (ui M 1014 (upd (ai M 1014) j w)) := Fr.rfl.ui (by decide)
      obtain ⟨M', m1, m2⟩ := ih n (i + 1) (ui M 1014 (upd (ai M 1014) j w)) (by omega) (by omega) (hzm _ q) (hak _ q) (fun k hk2 => by
        show upd (ai M 1014) j w k = _
        rw [upd_at]
        exact hk k (by omega))
      rw [hd] at m1
      exact ⟨M', m1, q.trans m2⟩
    rw [F_m_valueNow_4, e0, if_neg (nI_ge (by omega) (by omega)), ck_t (ib_nI (by omega) (by decide)), nI_clamp (by omega), sg]
    unfold F_m_valueNow_84 F_m_valueNow_48 F_m_valueNow_117
    by_cases q1 : zC Z i < 8
    · have k1 := k1 q1
      rw [if_pos q1] at ed ee
      have push : ∀ w, w = vat Z x y p i → ∃ M', ck (ib (nI (dN (zC Z) i)) 64) (F_m_valueNow_4 n (nI (dN (zC Z) i) + 1) (nI i + 1) (ui M 1014 (upd (ai M 1014) (Int32.toNatClampNeg (nI (dN (zC Z) i))) w))) = some (evs (zC Z) (vat Z x y p) (zS Z) 0, M') ∧ Fr [] [] [1014] [] [] M M' := by
        intro w hw
        rw [ck_t (ib_nI (by omega) (by decide)), nI_clamp (by omega), (show (1 : Int32) = nI 1 from rfl), nI_add, nI_add]
        refine go _ w _ (by omega) ed (fun k hk => ?_)
        rw [ee, hw]
        show _ = if k = dN (zC Z) i then vat Z x y p i else evs (zC Z) (vat Z x y p) i k
        by_cases r : k = dN (zC Z) i
        · rw [if_pos r, if_pos r]
        · rw [if_neg r, if_neg r]; exact hrow k (by omega)
      by_cases c0 : zC Z i = 0
      · have es : sgn (zC Z i) (zV Z i) = nI (zV Z i) := by unfold sgn; rw [if_pos c0]
        rw [es, if_neg (show ¬ nI (zV Z i) ≤ -20 by rw [show (-20 : Int32) = zI (-20) from rfl, nI_z, le_zI (by omega) (by omega) (by decide) (by decide)]; omega), if_neg (nI_pos (by omega))]
        refine push _ ?_
        unfold vat vnm
        rw [c0]
        rfl
      · have es : sgn (zC Z i) (zV Z i) = zI (-(zC Z i : Int)) := by unfold sgn; rw [if_neg c0, if_pos q1]
        have e1 : (-1 : Int32) - zI (-(zC Z i : Int)) = nI (zC Z i - 1) := by
          rw [show (-1 : Int32) = zI (-1) from rfl, sub_zI, nI_z]
          congr 1
          omega
        rw [es, if_neg (show ¬ zI (-(zC Z i : Int)) ≤ -20 by rw [show (-20 : Int32) = zI (-20) from rfl, le_zI (by omega) (by omega) (by decide) (by decide)]; omega), if_pos (show zI (-(zC Z i : Int)) < 0 by rw [show (0 : Int32) = zI 0 from rfl, lt_zI (by omega) (by omega) (by decide) (by decide)]; omega), e1, ck_t (ib_nI (by omega) (by decide)), nI_clamp (by omega : zC Z i - 1 < 2 ^ 31)]
        refine push _ ?_
        rw [hask (zC Z i) (by omega) (by omega)]
        unfold vat vnm
        by_cases c7 : zC Z i = 7
        · rw [if_pos c7]
        · rw [if_neg c7]
          unfold pv
          by_cases w1 : zC Z i = 1
          · rw [if_pos w1, if_pos w1]
          rw [if_neg w1, if_neg w1]
          by_cases w2 : zC Z i = 2
          · rw [if_pos w2, if_pos w2]
          rw [if_neg w2, if_neg w2]
          by_cases w3 : zC Z i = 3
          · rw [if_pos w3, if_pos w3]
          rw [if_neg w3, if_neg w3]
          by_cases w4 : zC Z i = 4
          · rw [if_pos w4, if_pos w4]
          rw [if_neg w4, if_neg w4]
          by_cases w5 : zC Z i = 5
          · rw [if_pos w5, if_pos w5]
          rw [if_neg w5, if_neg w5]
          rw [if_pos (by omega), if_pos (by omega)]
    · rw [if_neg q1] at ed ee
      have hle : ∀ c v, 8 ≤ c → sgn c v ≤ -20 := by
        intro c v hc
        unfold sgn
        rw [if_neg (by omega), if_neg (by omega)]
        repeat' split
        all_goals decide
      rw [if_pos (hle _ _ (by omega))]
      by_cases q3 : zC Z i = 8
      · rw [if_pos q3] at ed ee
        have k2 := k2 q3
        rw [if_pos (show sgn (zC Z i) (zV Z i) = -28 by rw [q3]; rfl), (show (1 : Int32) = nI 1 from rfl), sub_nI (by omega), ck_t (ib_nI (by omega) (by decide)), nI_clamp (by omega)]
        have hj : ∀ w, w = jv 8 (evs (zC Z) (vat Z x y p) i (dN (zC Z) i - 1)) (evs (zC Z) (vat Z x y p) i (dN (zC Z) i - 1)) → ∃ M', ck (ib (nI (dN (zC Z) i - 1)) 64) (F_m_valueNow_4 n (nI (dN (zC Z) i)) (nI i + nI 1) (ui M 1014 (upd (ai M 1014) (dN (zC Z) i - 1) w))) = some (evs (zC Z) (vat Z x y p) (zS Z) 0, M') ∧ Fr [] [] [1014] [] [] M M' := by
          intro w hw
          rw [ck_t (ib_nI (by omega) (by decide)), nI_add]
          refine go _ w _ (by omega) ed (fun k hk => ?_)
          rw [ee, hw]
          show _ = if k = dN (zC Z) i - 1 then _ else evs (zC Z) (vat Z x y p) i k
          by_cases r : k = dN (zC Z) i - 1
          · rw [if_pos r, if_pos r]
          · rw [if_neg r, if_neg r]; exact hrow k hk
        rw [hrow _ (by omega)]
        have e8 : ∀ a b : Int32, jv 8 a b = if a = 0 then (1 : Int32) else 0 := fun _ _ => rfl
        by_cases w : evs (zC Z) (vat Z x y p) i (dN (zC Z) i - 1) = 0
        · rw [if_pos w]; exact hj _ (by rw [e8, if_pos w]; rfl)
        · rw [if_neg w]; exact hj _ (by rw [e8, if_neg w])
      · rw [if_neg q3] at ed ee
        have k3 := k3 (by omega)
        have hn28 : ¬ sgn (zC Z i) (zV Z i) = -28 := by
          unfold sgn
          rw [if_neg (by omega), if_neg (by omega), if_neg q3]
          repeat' split
          all_goals decide
        obtain ⟨dd, hdd⟩ : ∃ dd, dN (zC Z) i = dd + 1 + 1 := ⟨dN (zC Z) i - 2, by omega⟩
        rw [if_neg hn28]
        rw [hdd] at ed ee hrow ⊢
        rw [pk_m1 (dd + 1), nI_pred, ck_t (ib_nI (by omega) (by decide)), ck_t (ib_nI (by omega) (by decide)), nI_clamp (by omega), nI_clamp (by omega), hrow dd (by omega), hrow (dd + 1) (by omega), reckon_ok (by omega) v1, b1_s, ck_t (ib_nI (by omega) (by decide)), (show (1 : Int32) = nI 1 from rfl), nI_add]
        refine go _ _ _ (by omega) ed (fun k hk => ?_)
        rw [ee]
        show _ = if k = dd + 1 + 1 - 2 then jv (zC Z i) (evs (zC Z) (vat Z x y p) i (dd + 1 + 1 - 2)) (evs (zC Z) (vat Z x y p) i (dd + 1 + 1 - 1)) else evs (zC Z) (vat Z x y p) i k
        rw [show dd + 1 + 1 - 2 = dd by omega, show dd + 1 + 1 - 1 = dd + 1 by omega]
        by_cases r : k = dd
        · rw [if_pos r, if_pos r]
        · rw [if_neg r, if_neg r]; exact hrow k (by omega)
/-! the couples of the model -/
theorem sp_59 {k46 : Int64 → Int32 → Int32 → Int32 → Sto → Option (Int64 × Sto)} {P x a : Nat} {y : Int32} {g : Nat → Nat} (hx : x < 4611686018427387904) (hP : P ≤ 60) (ha : a < P) (hb : bt2 x a = 1) : ∀ (m n j : Nat) (M : Sto), j + m = P - 1 - a → m < n → (∀ p, p < P → ai M 1015 p = nI (pci P x a j g p)) →
    ∃ M', F_m_spawned_59 k46 n (lN x) y (nI P) (nI a) (nI (a + 1 + j)) M = k46 (lN x) y (nI P) (nI (a + 1)) M' ∧ Fr [] [] [1015] [] [] M M' ∧ ∀ p, p < P → ai M' 1015 p = nI (pci P x a (P - 1 - a) g p) := by
  intro m
  induction m with
  | zero =>
    intro n j M hj hn hp
    obtain ⟨n, rfl⟩ : ∃ q, n = q + 1 := ⟨n - 1, by omega⟩
    have : j = P - 1 - a := by omega
    subst this
    refine ⟨M, ?_, Fr.rfl, hp⟩
    rw [F_m_spawned_59, if_pos (nI_le (by omega) (by omega))]
    unfold F_m_spawned_104
    rw [(show (1 : Int32) = nI 1 from rfl), nI_add]
  | succ m ih =>
    intro n j M hj hn hp
    obtain ⟨n, rfl⟩ : ∃ q, n = q + 1 := ⟨n - 1, by omega⟩
    have hb2 : (a + (a + 1 + j)) % P < P := Nat.mod_lt _ (by omega)
    have es : ∀ p, pci P x a (j + 1) g p = if p = (a + (a + 1 + j)) % P then pci P x a j g p + bt2 x (a + 1 + j) else pci P x a j g p := fun _ => rfl
    obtain ⟨M', s1, s2, s3⟩ := ih n (j + 1) (ui M 1015 (upd (ai M 1015) ((a + (a + 1 + j)) % P) (nI (pci P x a j g ((a + (a + 1 + j)) % P) + bt2 x (a + 1 + j))))) (by omega) (by omega) (fun p hp2 => by
      show upd (ai M 1015) _ _ p = _
      rw [upd_at, es]
      by_cases q : p = (a + (a + 1 + j)) % P
      · rw [if_pos q, if_pos q, q]
      · rw [if_neg q, if_neg q]; exact hp p hp2)
    refine ⟨M', ?_, (Fr.rfl.ui (by decide)).trans s2, s3⟩
    rw [← s1, F_m_spawned_59, if_neg (nI_ge (by omega) (by omega)), mbit_ok hx (by omega), b1_s, hb, if_pos (show nI 1 = (1 : Int32) from rfl), nI_add, ck_t (nzI_nI (by omega) (by omega)), rem_nI (by omega) (by omega) (by omega), ck_t (ib_nI (by omega) (by decide)), mbit_ok hx (by omega), b1_s, ck_t (ib_nI (by omega) (by decide)), nI_clamp (by omega), hp _ hb2, nI_add, (show (1 : Int32) = nI 1 from rfl), nI_add]
    rfl
/-! the places, one by one -/
theorem sp_134 {Z : Zt} {x : Nat} {y : Int32} (hz : ZOk Z) (hx : x < 4611686018427387904) (hs : zS Z ≠ 0) : ∀ (m n k : Nat) (M : Sto), k + m = zP Z → m < n → ZM Z M → ai M 1013 5 = nI (pc x) → ai M 1013 6 = y → (∀ p, p < zP Z → ai M 1015 p = nI (pco (zP Z) x (zP Z) p)) →
    ∃ M', F_m_spawned_134 n (lN x) (nI (zP Z)) (lN (nb (grw Z x y) k)) (nI k) M = some (lN (nb (grw Z x y) (zP Z)), M') ∧ Fr [] [] [1013, 1014] [] [] M M' := by
  have hP := hz.2.2.1
  intro m
  induction m with
  | zero =>
    intro n k M hk hn hR h5 h6 hc
    obtain ⟨n, rfl⟩ : ∃ q, n = q + 1 := ⟨n - 1, by omega⟩
    have : k = zP Z := by omega
    subst this
    refine ⟨M, ?_, Fr.rfl⟩
    rw [F_m_spawned_134, if_pos (nI_le (by omega) (by omega))]
  | succ m ih =>
    intro n k M hk hn hR h5 h6 hc
    obtain ⟨n, rfl⟩ : ∃ q, n = q + 1 := ⟨n - 1, by omega⟩
    have e0 : (nI k + nI (zP Z)) - 1 = nI (k + zP Z - 1) := by rw [nI_add, (show (1 : Int32) = nI 1 from rfl), sub_nI (by omega)]
    have m1 : (k + zP Z - 1) % zP Z < zP Z := Nat.mod_lt _ (by omega)
    have m2 : (k + 1) % zP Z < zP Z := Nat.mod_lt _ (by omega)
    have p1 : (k + zP Z - 1) % zP Z = if k = 0 then zP Z - 1 else k - 1 := by
      by_cases w : k = 0
      · rw [if_pos w, w, Nat.zero_add, Nat.mod_eq_of_lt (by omega)]
      · rw [if_neg w, show k + zP Z - 1 = k - 1 + zP Z by omega, Nat.add_mod_right, Nat.mod_eq_of_lt (by omega)]
    have p2 : (k + 1) % zP Z = if k = zP Z - 1 then 0 else k + 1 := by
      by_cases w : k = zP Z - 1
      · rw [if_pos w, show k + 1 = zP Z by omega, Nat.mod_self]
      · rw [if_neg w, Nat.mod_eq_of_lt (by omega)]
    rw [F_m_spawned_134, if_neg (nI_ge (by omega) (by omega)), mbit_ok hx (by omega), b1_s, ck_t (nzI_nI (by omega) (by omega)), e0, rem_nI (by omega) (by omega) (by omega), mbit_ok hx (by omega), b1_s, ck_t (nzI_nI (by omega) (by omega)), show nI k + (1 : Int32) = nI (k + 1) from nI_add k 1, rem_nI (by omega) (by omega) (by omega), mbit_ok hx (by omega), b1_s, ck_t (ib_nI (by omega) (by decide)), nI_clamp (by omega)]
    generalize hT : ui (ui (ui (ui (ui M 1013 _) 1013 _) 1013 _) 1013 _) 1013 _ = T
    have qT : Fr [] [] [1013] [] [] M T := by rw [← hT]; exact ((((Fr.rfl.ui (by decide)).ui (by decide)).ui (by decide)).ui (by decide)).ui (by decide)
    have eT : ∀ j, ai T 1013 j = upd (upd (upd (upd (upd (ai M 1013) 0 (nI k)) 1 (nI (bt2 x k))) 2 (nI (bt2 x ((k + zP Z - 1) % zP Z)))) 3 (nI (bt2 x ((k + 1) % zP Z)))) 4 (ai M 1015 k) j := by intro j; rw [← hT]; rfl
    have hask : ∀ c, 1 ≤ c → c ≤ 7 → ai T 1013 (c - 1) = pv (zP Z) x c y k := by
      intro c c1 c2
      rw [eT]
      have hcs : c = 1 ∨ c = 2 ∨ c = 3 ∨ c = 4 ∨ c = 5 ∨ c = 6 ∨ c = 7 := by omega
      rcases hcs with q | q | q | q | q | q | q <;> subst q
      · rfl
      · rfl
      · show nI (bt2 x ((k + zP Z - 1) % zP Z)) = _
        rw [p1]; rfl
      · show nI (bt2 x ((k + 1) % zP Z)) = _
        rw [p2]; rfl
      · show ai M 1015 k = _
        rw [hc k (by omega)]; rfl
      · show ai M 1013 5 = _
        rw [h5]; rfl
      · show ai M 1013 6 = _
        rw [h6]; rfl
    clear hT eT
    obtain ⟨M1, s1, s2⟩ := val_lp (p := k) hz hs (zS Z) FU 0 T (Nat.zero_add _) (by rw [FU_v]; have := hz.2.2.2.1; omega) (ZM_fr hR qT (by decide) (by decide)) hask (fun j hj => absurd hj (Nat.not_lt_zero j))
    have s1' : F_m_valueNow T = some (evs (zC Z) (vat Z x y k) (zS Z) 0, M1) := s1
    rw [s1', b2_s]
    have q2 : Fr [] [] [1013, 1014] [] [] M M1 := (qT.mono (by decide) (by decide) (by decide) (by decide) (by decide)).trans (s2.mono (by decide) (by decide) (by decide) (by decide) (by decide))
    have a5 : ∀ j, 4 < j → ai M1 1013 j = ai M 1013 j ∨ True := fun _ _ => Or.inr trivial
    have h5' : ai M1 1013 5 = nI (pc x) := by rw [s2.ai _ (by decide)]; exact hask 6 (by decide) (by decide)
    have h6' : ai M1 1013 6 = y := by rw [s2.ai _ (by decide)]; exact hask 7 (by decide) (by decide)
    have ek : nb (grw Z x y) (k + 1) = nb (grw Z x y) k ||| (if grw Z x y k then 2 ^ k else 0) := rfl
    obtain ⟨M', t1, t2⟩ := ih n (k + 1) M1 (by omega) (by omega) (ZM_fr hR q2 (by decide) (by decide)) h5' h6' (fun p hp => by rw [q2.ai _ (by decide)]; exact hc p hp)
    refine ⟨M', ?_, q2.trans t2⟩
    unfold F_m_spawned_227
    rw [shl1 (by omega), fb_orL, show nI k + (1 : Int32) = nI (k + 1) from nI_add k 1]
    rw [ek] at t1
    by_cases w : evs (zC Z) (vat Z x y k) (zS Z) 0 = 0
    · rw [if_pos w]
      rw [show grw Z x y k = false from decide_eq_false (fun r => r w), if_neg (by decide), Nat.or_zero] at t1
      exact t1
    · rw [if_neg w]
      rw [show grw Z x y k = true from decide_eq_true w, if_pos rfl] at t1
      exact t1
theorem sp_46 {Z : Zt} {x : Nat} {y : Int32} (hz : ZOk Z) (hx : x < 4611686018427387904) (hs : zS Z ≠ 0) : ∀ (m n k : Nat) (M : Sto), k + m = zP Z → m < n → ZM Z M → (∀ p, p < zP Z → ai M 1015 p = nI (pco (zP Z) x k p)) →
    ∃ M', F_m_spawned_46 n (lN x) y (nI (zP Z)) (nI k) M = some (lN (nb (grw Z x y) (zP Z)), M') ∧ Fr [] [] [1013, 1014, 1015] [] [] M M' := by
  have hP := hz.2.2.1
  intro m
  induction m with
  | zero =>
    intro n k M hk hn hR hp
    obtain ⟨n, rfl⟩ : ∃ q, n = q + 1 := ⟨n - 1, by omega⟩
    have : k = zP Z := by omega
    subst this
    rw [F_m_spawned_46, if_pos (nI_le (by omega) (by omega)), bitsOf_ok (by omega), b1_s]
    generalize hT : ui (ui M 1013 _) 1013 _ = T
    have qT : Fr [] [] [1013, 1014, 1015] [] [] M T := by rw [← hT]; exact (Fr.rfl.ui (by decide)).ui (by decide)
    have e5 : ai T 1013 5 = nI (pc x) := by rw [← hT]; rfl
    have e6 : ai T 1013 6 = y := by rw [← hT]; rfl
    have e15 : ai T 1015 = ai M 1015 := by rw [← hT]; rfl
    obtain ⟨M', s1, s2⟩ := sp_134 hz hx hs (zP Z) FU 0 T (Nat.zero_add _) (by rw [FU_v]; omega) (ZM_fr hR qT (by decide) (by decide)) e5 e6 (by rw [e15]; exact hp)
    exact ⟨M', s1, qT.trans (s2.mono (by decide) (by decide) (by decide) (by decide) (by decide))⟩
  | succ m ih =>
    intro n k M hk hn hR hp
    obtain ⟨n, rfl⟩ : ∃ q, n = q + 1 := ⟨n - 1, by omega⟩
    have es : pco (zP Z) x (k + 1) = if bt2 x k = 1 then pci (zP Z) x k (zP Z - 1 - k) (pco (zP Z) x k) else pco (zP Z) x k := rfl
    rw [F_m_spawned_46, if_neg (nI_ge (by omega) (by omega)), show nI k + (1 : Int32) = nI (k + 1) from nI_add k 1]
    by_cases q : bt2 x k = 1
    · rw [if_pos q] at es
      obtain ⟨M1, s1, s2, s3⟩ := sp_59 (k46 := F_m_spawned_46 n) (y := y) (g := pco (zP Z) x k) hx hP.2 (by omega : k < zP Z) q (zP Z - 1 - k) FU 0 M (by omega) (by rw [FU_v]; omega) hp
      rw [Nat.add_zero] at s1
      rw [s1]
      have q2 : Fr [] [] [1013, 1014, 1015] [] [] M M1 := s2.mono (by decide) (by decide) (by decide) (by decide) (by decide)
      obtain ⟨M', t1, t2⟩ := ih n (k + 1) M1 (by omega) (by omega) (ZM_fr hR q2 (by decide) (by decide)) (fun p hp2 => by rw [es]; exact s3 p hp2)
      exact ⟨M', t1, q2.trans t2⟩
    · rw [if_neg q] at es
      obtain ⟨r, hr⟩ : ∃ r, FU = r + 1 := ⟨1099511627775, rfl⟩
      have ex : F_m_spawned_59 (F_m_spawned_46 n) FU (lN x) y (nI (zP Z)) (nI k) (nI (k + 1)) M = F_m_spawned_46 n (lN x) y (nI (zP Z)) (nI (k + 1)) M := by
        rw [hr, F_m_spawned_59]
        unfold F_m_spawned_104
        rw [show nI k + (1 : Int32) = nI (k + 1) from nI_add k 1, mbit_ok hx (by omega), b1_s, if_neg (show ¬ nI (bt2 x k) = 1 by
          have hb : bt2 x k < 2 := Nat.mod_lt _ (by decide)
          rw [(show (1 : Int32) = nI 1 from rfl), eq_nI (by omega) (by decide)]; exact q)]
        by_cases w : nI (zP Z) ≤ nI (k + 1)
        · rw [if_pos w]
        · rw [if_neg w]
      rw [ex]
      exact ih n (k + 1) M (by omega) (by omega) hR (fun p hp2 => by rw [es]; exact hp p hp2)
theorem sp_22 {Z : Zt} {x : Nat} {y : Int32} (hz : ZOk Z) (hx : x < 4611686018427387904) (hs : zS Z ≠ 0) : ∀ (m n k : Nat) (M : Sto), k + m = zP Z → m < n → ZM Z M → (∀ p, p < k → ai M 1015 p = nI 0) →
    ∃ M', F_m_spawned_22 n (lN x) y (nI (zP Z)) (nI k) M = some (lN (nb (grw Z x y) (zP Z)), M') ∧ Fr [] [] [1013, 1014, 1015] [] [] M M' := by
  have hP := hz.2.2.1
  intro m
  induction m with
  | zero =>
    intro n k M hk hn hR hp
    obtain ⟨n, rfl⟩ : ∃ q, n = q + 1 := ⟨n - 1, by omega⟩
    have : k = zP Z := by omega
    subst this
    rw [F_m_spawned_22, if_pos (nI_le (by omega) (by omega))]
    exact sp_46 hz hx hs (zP Z) FU 0 M (Nat.zero_add _) (by rw [FU_v]; omega) hR hp
  | succ m ih =>
    intro n k M hk hn hR hp
    obtain ⟨n, rfl⟩ : ∃ q, n = q + 1 := ⟨n - 1, by omega⟩
    rw [F_m_spawned_22, if_neg (nI_ge (by omega) (by omega)), ck_t (ib_nI (by omega) (by decide)), nI_clamp (by omega), show nI k + (1 : Int32) = nI (k + 1) from nI_add k 1]
    have q2 : Fr [] [] [1013, 1014, 1015] [] [] M (ui M 1015 (upd (ai M 1015) k 0)) := Fr.rfl.ui (by decide)
    obtain ⟨M', s1, s2⟩ := ih n (k + 1) (ui M 1015 (upd (ai M 1015) k 0)) (by omega) (by omega) (ZM_fr hR q2 (by decide) (by decide)) (fun p hp2 => by
      show upd (ai M 1015) k 0 p = _
      rw [upd_at]
      by_cases q : p = k
      · rw [if_pos q]; rfl
      · rw [if_neg q]; exact hp p (by omega))
    exact ⟨M', s1, q2.trans s2⟩
theorem spawned_ok {Z : Zt} {x : Nat} {y : Int32} {M : Sto} (hz : ZOk Z) (hx : x < 4611686018427387904) (h : ZM Z M) : ∃ M', F_m_spawned (lN x) y M = some (lN (spw Z x y), M') ∧ Fr [] [] [1013, 1014, 1015] [] [] M M' := by
  unfold F_m_spawned spw
  have e0 : ai M 1003 (Int32.toNatClampNeg 2) = nI (zS Z) := h.2.2.1
  have e1 : ai M 1003 (Int32.toNatClampNeg 1) = nI (zP Z) := h.2.1
  rw [e0, e1]
  by_cases hs : zS Z = 0
  · rw [hs, if_pos (show nI 0 = 0 from rfl), if_pos rfl]
    exact ⟨M, rfl, Fr.rfl⟩
  · rw [if_neg (nI_ne0 (by omega) (by have := hz.2.2.2.1; omega)), if_neg hs]
    exact sp_22 hz hx hs (zP Z) FU 0 M (Nat.zero_add _) (by rw [FU_v]; have := hz.2.2.1; omega) h (fun p hp => absurd hp (Nat.not_lt_zero p))
