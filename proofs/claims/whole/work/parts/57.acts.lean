/-! ===== acts ===== -/
def kA (c : Scn) : Nat := if sA c < 40 then sA c + 1 else 40
def kAc (c : Scn) : Nat → Snap := if sA c < 40 then (fun i => if i = sA c then c.1 else sAc c i) else (fun i => if i = 39 then c.1 else sAc c (i + 1))
def cKp (c : Scn) (nw : Snap) : Scn := (nw, (kA c, kAc c), c.2.2)
theorem sn_eta (q : Snap) : q = (q.1, q.2.1, q.2.2.1, q.2.2.2.1, q.2.2.2.2) := rfl
theorem kp_79 {S : Sto} {A : Nat} (hA : gi S 31 = nI A) (h40 : A < 40) (k : Int32) (f s : Int64) : F_Sc_keepAct_79 k f s S = some ((), si (ul (ul (ui S 28 (upd (ai S 28) A k)) 29 (vp_updL (al S 29) A f)) 30 (vp_updL (al S 30) A s)) 31 (nI (A + 1))) := by
  unfold F_Sc_keepAct_79
  rw [hA, if_neg (nI_pos (by omega)), (show (40 : Int32) = nI 40 from rfl), if_neg (nI_ge h40 (by decide)), ck_t (ib_nI h40 (by decide)), nI_clamp (by omega), gi_ui, hA, ck_t (ib_nI h40 (by decide)), nI_clamp (by omega), gi_ul, gi_ui, hA, ck_t (ib_nI h40 (by decide)), nI_clamp (by omega), gi_ul, gi_ul, gi_ui, hA, (show (1 : Int32) = nI 1 from rfl), nI_add]
  rfl
theorem kp_12 (k : Int32) (f s : Int64) (A1 : Nat → Int32) (A2 A3 : Nat → Int64) : ∀ (j n p : Nat) (S : Sto), p + j = 40 → j < n → 1 ≤ p → (∀ i, i + 1 < p → ai S 28 i = A1 (i + 1) ∧ al S 29 i = A2 (i + 1) ∧ al S 30 i = A3 (i + 1)) → (∀ i, p ≤ i + 1 → ai S 28 i = A1 i ∧ al S 29 i = A2 i ∧ al S 30 i = A3 i) →
    ∃ T, F_Sc_keepAct_12 n k f s (nI p) S = F_Sc_keepAct_79 k f s (si T 31 39) ∧ Fr [] [] [28] [29, 30] [] S T ∧ (∀ i, i < 39 → ai T 28 i = A1 (i + 1) ∧ al T 29 i = A2 (i + 1) ∧ al T 30 i = A3 (i + 1)) := by
  intro j
  induction j with
  | zero =>
    intro n p S hp hn h1 ha hb
    obtain ⟨n, rfl⟩ : ∃ q, n = q + 1 := ⟨n - 1, by omega⟩
    refine ⟨S, ?_, Fr.rfl, fun i hi => ha i (by omega)⟩
    rw [F_Sc_keepAct_12, (show (40 : Int32) = nI 40 from rfl), if_pos (nI_le (by omega) (by omega))]
  | succ j ih =>
    intro n p S hp hn h1 ha hb
    obtain ⟨n, rfl⟩ : ∃ q, n = q + 1 := ⟨n - 1, by omega⟩
    obtain ⟨T, t1, t2, t3⟩ := ih n (p + 1) (ul (ul (ui S 28 (upd (ai S 28) (p - 1) (ai S 28 p))) 29 (vp_updL (al S 29) (p - 1) (al S 29 p))) 30 (vp_updL (al S 30) (p - 1) (al S 30 p))) (by omega) (by omega) (by omega) (fun i hi => by
      show upd (ai S 28) (p - 1) (ai S 28 p) i = _ ∧ vp_updL (al S 29) (p - 1) (al S 29 p) i = _ ∧ vp_updL (al S 30) (p - 1) (al S 30 p) i = _
      rw [upd_at, updL_at, updL_at]
      by_cases e : i = p - 1
      · rw [if_pos e, if_pos e, if_pos e, show i + 1 = p by omega]
        exact hb p (by omega)
      · rw [if_neg e, if_neg e, if_neg e]
        exact ha i (by omega)) (fun i hi => by
      show upd (ai S 28) (p - 1) (ai S 28 p) i = _ ∧ vp_updL (al S 29) (p - 1) (al S 29 p) i = _ ∧ vp_updL (al S 30) (p - 1) (al S 30 p) i = _
      rw [upd_at, updL_at, updL_at, if_neg (by omega), if_neg (by omega), if_neg (by omega)]
      exact hb i (by omega))
    refine ⟨T, ?_, Fr.trans (((Fr.rfl.ui (by decide)).ul (by decide)).ul (by decide)) t2, t3⟩
    rw [← t1, F_Sc_keepAct_12, (show (40 : Int32) = nI 40 from rfl), if_neg (nI_ge (by omega) (by omega)), (show (1 : Int32) = nI 1 from rfl), sub_nI h1, ck_t (ib_nI (by omega) (by decide)), ck_t (ib_nI (by omega) (by decide)), ck_t (ib_nI (by omega) (by decide)), ck_t (ib_nI (by omega) (by decide)), ck_t (ib_nI (by omega) (by decide)), ck_t (ib_nI (by omega) (by decide)), nI_clamp (by omega), nI_clamp (by omega), nI_add]
    rfl
theorem kpC_ok {c : Scn} {S : Sto} (h : Sc0 c S) (hA : sA c ≤ 40) (k : Int32) (f s : Int64) : ∃ S', F_Sc_keepAct k f s S = some ((), S') ∧ Fr [31] [] [28] [29, 30] [] S S' ∧ gi S' 31 = nI (kA c) ∧
    ∀ nw, Dif k f s c.1 nw → ∀ i, i < kA c → Dif (ai S' 28 i) (al S' 29 i) (al S' 30 i) (kAc c i) (nxt (cKp c nw) i) := by
  obtain ⟨_, _, _, _, _, c6, c7, _⟩ := h
  unfold F_Sc_keepAct
  rw [c6, (show (40 : Int32) = nI 40 from rfl)]
  by_cases q : sA c < 40
  · rw [if_pos (nI_lt q (by decide)), kp_79 c6 q]
    refine ⟨_, rfl, (((Fr.rfl.ui (by decide)).ul (by decide)).ul (by decide)).si (by decide), ?_, fun nw hd i hi => ?_⟩
    · unfold kA; rw [if_pos q]; rfl
    · have hi' : i < sA c + 1 := by unfold kA at hi; rwa [if_pos q] at hi
      have e1 : nxt (cKp c nw) i = if i + 1 < kA c then kAc c (i + 1) else nw := rfl
      rw [e1]
      unfold kA kAc
      rw [if_pos q, if_pos q]
      show Dif (upd (ai S 28) (sA c) k i) (vp_updL (al S 29) (sA c) f i) (vp_updL (al S 30) (sA c) s i) (if i = sA c then c.1 else sAc c i) (if i + 1 < sA c + 1 then (if i + 1 = sA c then c.1 else sAc c (i + 1)) else nw)
      rw [upd_at, updL_at, updL_at]
      by_cases e : i = sA c
      · rw [if_pos e, if_pos e, if_pos e, if_pos e, if_neg (by omega)]
        exact hd
      · rw [if_neg e, if_neg e, if_neg e, if_neg e, if_pos (by omega)]
        have h7 := c7 i (by omega)
        unfold nxt at h7
        by_cases e2 : i + 1 = sA c
        · rw [if_pos e2]; rwa [if_neg (by omega)] at h7
        · rw [if_neg e2]; rwa [if_pos (by omega)] at h7
  · rw [if_neg (by rw [lt_nI (by omega) (by decide)]; exact q)]
    obtain ⟨T, t1, t2, t3⟩ := kp_12 k f s (ai S 28) (al S 29) (al S 30) 39 FU 1 S rfl (by rw [FU_v]; decide) (by decide) (fun i hi => by omega) (fun i _ => ⟨rfl, rfl, rfl⟩)
    rw [← (show (1 : Int32) = nI 1 from rfl)] at t1
    rw [t1, kp_79 (A := 39) rfl (by decide)]
    refine ⟨_, rfl, Fr.si (Fr.ul (Fr.ul (Fr.ui (Fr.si (t2.mono (by decide) (by decide) (by decide) (by decide) (by decide)) (by decide)) (by decide)) (by decide)) (by decide)) (by decide), ?_, fun nw hd i hi => ?_⟩
    · unfold kA; rw [if_neg q]; rfl
    · have hi' : i < 40 := by unfold kA at hi; rwa [if_neg q] at hi
      have hA2 : sA c = 40 := by omega
      have e1 : nxt (cKp c nw) i = if i + 1 < kA c then kAc c (i + 1) else nw := rfl
      rw [e1]
      unfold kA kAc
      rw [if_neg q, if_neg q]
      show Dif (upd (ai T 28) 39 k i) (vp_updL (al T 29) 39 f i) (vp_updL (al T 30) 39 s i) (if i = 39 then c.1 else sAc c (i + 1)) (if i + 1 < 40 then (if i + 1 = 39 then c.1 else sAc c (i + 1 + 1)) else nw)
      rw [upd_at, updL_at, updL_at]
      by_cases e : i = 39
      · rw [if_pos e, if_pos e, if_pos e, if_pos e, if_neg (by omega)]
        exact hd
      · obtain ⟨u1, u2, u3⟩ := t3 i (by omega)
        rw [if_neg e, if_neg e, if_neg e, if_neg e, if_pos (by omega), u1, u2, u3]
        have h7 := c7 (i + 1) (by omega)
        unfold nxt at h7
        by_cases e2 : i + 1 = 39
        · rw [if_pos e2]; rwa [if_neg (by omega)] at h7
        · rw [if_neg e2]; rwa [if_pos (by omega)] at h7
/-! the model's -/
def Sc5 (q : Snap) (M : Sto) : Prop := q.2.2.1 < 2147483648 ∧ gl M 1013 = lN q.1 ∧ gl M 1014 = lN q.2.1 ∧ gi M 1016 = nI q.2.2.1 ∧ gl M 1015 = lN q.2.2.2.1 ∧ gi M 1017 = q.2.2.2.2
theorem pkM_ok {c : Scn} {M : Sto} (h : Sc5 c.1 M) {b : Nat} (hb : b + 5 ≤ 200) : ∃ M', F_m_pack_1000_1012 (nI b) M = some ((), M') ∧ Fr [] [] [] [1012] [] M M' ∧ pkd (al M' 1012) b c.1 ∧ (∀ i, i < b ∨ b + 5 ≤ i → al M' 1012 i = al M 1012 i) := by
  obtain ⟨c0, c1, c2, c3, c4, c5⟩ := h
  unfold F_m_pack_1000_1012
  rw [(show (1 : Int32) = nI 1 from rfl), (show (2 : Int32) = nI 2 from rfl), (show (3 : Int32) = nI 3 from rfl), (show (4 : Int32) = nI 4 from rfl), nI_add, nI_add, nI_add, nI_add, ck_t (ib_nI (by omega) (by decide)), ck_t (ib_nI (by omega) (by decide)), ck_t (ib_nI (by omega) (by decide)), ck_t (ib_nI (by omega) (by decide)), ck_t (ib_nI (by omega) (by decide)), nI_clamp (by omega), nI_clamp (by omega), nI_clamp (by omega), nI_clamp (by omega), nI_clamp (by omega)]
  refine ⟨_, rfl, ((((Fr.rfl.ul (by decide)).ul (by decide)).ul (by decide)).ul (by decide)).ul (by decide), ?_, fun i hi => ?_⟩
  · show pkd (vp_updL (vp_updL (vp_updL (vp_updL (vp_updL (al M 1012) b (gl M 1013)) (b + 1) (gl M 1014)) (b + 2) (gi M 1016).toInt64) (b + 3) (gl M 1015)) (b + 4) (gi M 1017).toInt64) b c.1
    rw [c1, c2, c3, c4, c5, i2l_nI c0]
    unfold pkd
    simp only [updL_at]
    refine ⟨?_, ?_, ?_, ?_, ?_⟩
    · rw [if_neg (by omega), if_neg (by omega), if_neg (by omega), if_neg (by omega), if_pos trivial]
    · rw [if_neg (by omega), if_neg (by omega), if_neg (by omega), if_pos trivial]
    · rw [if_neg (by omega), if_neg (by omega), if_pos trivial]
    · rw [if_neg (by omega), if_pos trivial]
    · rw [if_pos trivial]
  · show vp_updL (vp_updL (vp_updL (vp_updL (vp_updL (al M 1012) b (gl M 1013)) (b + 1) (gl M 1014)) (b + 2) (gi M 1016).toInt64) (b + 3) (gl M 1015)) (b + 4) (gi M 1017).toInt64 i = _
    simp only [updL_at]
    rw [if_neg (by omega), if_neg (by omega), if_neg (by omega), if_neg (by omega), if_neg (by omega)]
theorem kpM_11 (P : Nat → Int64) : ∀ (j n p : Nat) (M : Sto), p + j = 200 → j < n → 5 ≤ p → (∀ i, i + 5 < p → al M 1012 i = P (i + 5)) → (∀ i, p ≤ i + 5 → al M 1012 i = P i) →
    ∃ T, F_m_keep_11 n (nI p) M = F_m_keep_50 (si T 1018 (gi T 1018 - 1)) ∧ Fr [] [] [] [1012] [] M T ∧ (∀ i, i < 195 → al T 1012 i = P (i + 5)) := by
  intro j
  induction j with
  | zero =>
    intro n p M hp hn h1 ha hb
    obtain ⟨n, rfl⟩ : ∃ q, n = q + 1 := ⟨n - 1, by omega⟩
    refine ⟨M, ?_, Fr.rfl, fun i hi => ha i (by omega)⟩
    rw [F_m_keep_11, if_pos (nI_le (by omega) (by omega))]
  | succ j ih =>
    intro n p M hp hn h1 ha hb
    obtain ⟨n, rfl⟩ : ∃ q, n = q + 1 := ⟨n - 1, by omega⟩
    obtain ⟨T, t1, t2, t3⟩ := ih n (p + 1) (ul M 1012 (vp_updL (al M 1012) (p - 5) (al M 1012 p))) (by omega) (by omega) (by omega) (fun i hi => by
      show vp_updL (al M 1012) (p - 5) (al M 1012 p) i = _
      rw [updL_at]
      by_cases e : i = p - 5
      · rw [if_pos e, show i + 5 = p by omega]
        exact hb p (by omega)
      · rw [if_neg e]
        exact ha i (by omega)) (fun i hi => by
      show vp_updL (al M 1012) (p - 5) (al M 1012 p) i = _
      rw [updL_at, if_neg (by omega)]
      exact hb i (by omega))
    refine ⟨T, ?_, Fr.trans (Fr.rfl.ul (by decide)) t2, t3⟩
    rw [← t1, F_m_keep_11, if_neg (nI_ge (by omega) (by omega)), (show (5 : Int32) = nI 5 from rfl), sub_nI h1, ck_t (ib_nI (by omega) (by decide)), ck_t (ib_nI (by omega) (by decide)), nI_clamp (by omega), nI_clamp (by omega), (show (1 : Int32) = nI 1 from rfl), nI_add]
theorem kpM_50 {c : Scn} {M : Sto} (h : Sc5 c.1 M) {A : Nat} (hA : gi M 1018 = nI A) (h40 : A < 40) : ∃ M', F_m_keep_50 M = some ((), M') ∧ Fr [1018] [] [] [1012] [] M M' ∧ gi M' 1018 = nI (A + 1) ∧ pkd (al M' 1012) (5 * A) c.1 ∧ (∀ i, i < 5 * A → al M' 1012 i = al M 1012 i) := by
  unfold F_m_keep_50
  obtain ⟨M', p1, p2, p3, p4⟩ := pkM_ok h (b := 5 * A) (by omega)
  rw [hA, (show (5 : Int32) = nI 5 from rfl), pk_mul, p1, b2_s, p2.gi _ (by decide), hA, (show (1 : Int32) = nI 1 from rfl), nI_add]
  exact ⟨_, rfl, (p2.mono (by decide) (by decide) (by decide) (by decide) (by decide)).si (by decide), rfl, p3, fun i hi => p4 i (Or.inl hi)⟩
theorem pkd_cong {f g : Nat → Int64} {a b : Nat} {q : Snap} (h : pkd f a q) (e : ∀ j, j < 5 → g (b + j) = f (a + j)) : pkd g b q := by
  obtain ⟨h1, h2, h3, h4, h5⟩ := h
  exact ⟨(e 0 (by decide)).trans h1, (e 1 (by decide)).trans h2, (e 2 (by decide)).trans h3, (e 3 (by decide)).trans h4, (e 4 (by decide)).trans h5⟩
theorem Sc5_fr {a b d e g : List Nat} {q : Snap} {M T : Sto} (h : Sc5 q M) (r : Fr a b d e g M T) (h1 : 1013 ∉ b ∧ 1014 ∉ b ∧ 1015 ∉ b) (h2 : 1016 ∉ a ∧ 1017 ∉ a) : Sc5 q T := by
  unfold Sc5 at h ⊢
  rw [r.gl _ h1.1, r.gl _ h1.2.1, r.gl _ h1.2.2, r.gi _ h2.1, r.gi _ h2.2]
  exact h
theorem kpM_ok {c : Scn} {M : Sto} (h : ScM c M) (hA : sA c ≤ 40) (hl : sLw c < 2147483648) : ∃ M', F_m_keep M = some ((), M') ∧ Fr [1018] [] [] [1012] [] M M' ∧ gi M' 1018 = nI (kA c) ∧ ∀ i, i < kA c → pkd (al M' 1012) (5 * i) (kAc c i) := by
  obtain ⟨c1, c2, c3, c4, c5, c6, _, _, _, d1, _⟩ := h
  have h0 : Sc5 c.1 M := ⟨hl, c1, c2, c3, c4, c5⟩
  unfold F_m_keep
  rw [c6, (show (40 : Int32) = nI 40 from rfl)]
  by_cases q : sA c < 40
  · rw [if_neg (by rw [eq_nI (by omega) (by decide)]; omega)]
    obtain ⟨M', e1, e2, e3, e4, e5⟩ := kpM_50 h0 c6 q
    refine ⟨M', e1, e2, by unfold kA; rw [if_pos q]; exact e3, fun i hi => ?_⟩
    unfold kA at hi
    rw [if_pos q] at hi
    unfold kAc
    rw [if_pos q]
    show pkd (al M' 1012) (5 * i) (if i = sA c then c.1 else sAc c i)
    by_cases e : i = sA c
    · rw [if_pos e, e]; exact e4
    · rw [if_neg e]
      exact pkd_cong (d1 i (by omega)) (fun j hj => e5 _ (by omega))
  · rw [if_pos (by rw [eq_nI (by omega) (by decide)]; omega)]
    have hA2 : sA c = 40 := by omega
    obtain ⟨T, t1, t2, t3⟩ := kpM_11 (al M 1012) 195 FU 5 M rfl (by rw [FU_v]; decide) (by decide) (fun i hi => by omega) (fun i _ => rfl)
    rw [← (show (5 : Int32) = nI 5 from rfl)] at t1
    rw [t1, t2.gi _ (by decide), c6, hA2]
    have q2 : Fr [1018] [] [] [1012] [] M (si T 1018 (nI 40 - 1)) := (t2.mono (by decide) (by decide) (by decide) (by decide) (by decide)).si (by decide)
    obtain ⟨M', e1, e2, e3, e4, e5⟩ := kpM_50 (Sc5_fr h0 q2 (by decide) (by decide)) (A := 39) rfl (by decide)
    refine ⟨M', e1, q2.trans e2, by unfold kA; rw [if_neg q]; exact e3, fun i hi => ?_⟩
    unfold kA at hi
    rw [if_neg q] at hi
    unfold kAc
    rw [if_neg q]
    show pkd (al M' 1012) (5 * i) (if i = 39 then c.1 else sAc c (i + 1))
    by_cases e : i = 39
    · rw [if_pos e, e]; exact e4
    · rw [if_neg e]
      refine pkd_cong (d1 (i + 1) (by omega)) (fun j hj => ?_)
      rw [e5 _ (by omega)]
      show al T 1012 (5 * i + j) = _
      rw [t3 _ (by omega), show 5 * i + j + 5 = 5 * (i + 1) + j by omega]
/-! what an act leads to -/
section Acts
variable {t : Tp} {f : Int32} {Z : Zt} {c : Scn} {i : Option Scn} {S M T : Sto}
theorem ScOk_kp (h : ScOk Z c) {nw : Snap} (hn : SnOk Z nw) : ScOk Z (cKp c nw) := by
  obtain ⟨g1, g2, g3, g4⟩ := h
  refine ⟨hn, ?_, fun j hj => ?_, g4⟩
  · show (if sA c < 40 then sA c + 1 else 40) ≤ 40
    split <;> omega
  · have hj : j < (if sA c < 40 then sA c + 1 else 40) := hj
    show SnOk Z (kAc c j)
    unfold kAc
    by_cases q : sA c < 40
    · rw [if_pos q] at hj ⊢
      show SnOk Z (if j = sA c then c.1 else sAc c j)
      by_cases e : j = sA c
      · rw [if_pos e]; exact g1
      · rw [if_neg e]; exact g3 j (by omega)
    · rw [if_neg q] at hj ⊢
      show SnOk Z (if j = 39 then c.1 else sAc c (j + 1))
      by_cases e : j = 39
      · rw [if_pos e]; exact g1
      · rw [if_neg e]; exact g3 (j + 1) (by omega)
def CurC (q : Snap) (S : Sto) : Prop := gl S 26 = lN q.1 ∧ gl S 27 = lN q.2.1 ∧ gi S 28 = nI q.2.2.1 ∧ gl S 29 = lN q.2.2.2.1 ∧ gi S 30 = q.2.2.2.2
def CurM (q : Snap) (M : Sto) : Prop := gl M 1013 = lN q.1 ∧ gl M 1014 = lN q.2.1 ∧ gi M 1016 = nI q.2.2.1 ∧ gl M 1015 = lN q.2.2.2.1 ∧ gi M 1017 = q.2.2.2.2
/-- the class behind an act: acts kept, the scene new -/
theorem RC_kp (h : RC t f Z c i S) {nw : Snap} (q : Fr [28, 30, 31, 42, 43] [26, 27, 29] (28 :: qc) (29 :: 30 :: qd) [] S T) (h1 : gi T 31 = nI (kA c)) (h2 : ∀ j, j < kA c → Dif (ai T 28 j) (al T 29 j) (al T 30 j) (kAc c j) (nxt (cKp c nw) j)) (h3 : CurC nw T) : RC t f Z (cKp c nw) i T := by
  obtain ⟨a1, a2, a3, a4, a5, a6, a7⟩ := h
  refine ⟨?_, ?_, ZC_fr a3 q (by decide) (by decide) (by decide), ?_, ?_, fun k hk => ScC_fr (a6 k hk) q (by decide) (by decide) (by decide) (by decide), ?_⟩
  · unfold TpC at a1 ⊢
    rw [q.gi 7 (by decide), q.ai 2 (by decide)]
    exact a1
  · rw [q.gi 8 (by decide)]; exact a2
  · obtain ⟨_, _, _, _, _, _, _, c8, c9, c10, c11, c12⟩ := Sc0_of a4
    obtain ⟨b1, b2, b3, b4, b5⟩ := h3
    refine Sc0_to ⟨b1, b2, b3, b4, b5, h1, h2, ?_, ?_, ?_, ?_, ?_⟩
    · rw [q.gi 32 (by decide)]; exact c8
    · rw [q.al 31 (by decide), q.ai 32 (by decide)]; exact c9
    · rw [q.gi 33 (by decide)]; exact c10
    · rw [q.al 33 (by decide)]; exact c11
    · rw [q.ai 34 (by decide)]; exact c12
  · rw [q.gi 50 (by decide)]; exact a5
  · rw [q.gr 48 (by decide), q.gr 49 (by decide)]; exact a7
theorem RM_kp (h : RM t f Z c i M) {nw : Snap} (q : Fr [1001, 1016, 1017, 1018] [1013, 1014, 1015] mc (1012 :: md) [] M T) (h1 : gi T 1018 = nI (kA c)) (h2 : ∀ j, j < kA c → pkd (al T 1012) (5 * j) (kAc c j)) (h3 : CurM nw T) : RM t f Z (cKp c nw) i T := by
  obtain ⟨a1, a2, a3, a4, a5, a6⟩ := h
  refine ⟨?_, ?_, ZM_fr a3 q (by decide) (by decide), ?_, ?_, fun k hk => ScN_fr (a6 k hk) q (by decide) (by decide) (by decide)⟩
  · unfold TpM at a1 ⊢
    rw [q.gi 1003 (by decide), q.ai 1011 (by decide)]
    exact a1
  · rw [q.gi 1012 (by decide)]; exact a2
  · obtain ⟨_, _, _, _, _, _, c7, c8, c9, d1, d2, d3, d4⟩ := a4
    obtain ⟨b1, b2, b3, b4, b5⟩ := h3
    refine ⟨b1, b2, b3, b4, b5, h1, ?_, ?_, ?_, h2, ?_, ?_, ?_⟩
    · rw [q.gi 1019 (by decide)]; exact c7
    · rw [q.gi 1020 (by decide)]; exact c8
    · rw [q.gi 1021 (by decide)]; exact c9
    · rw [q.al 1016 (by decide), q.ai 1018 (by decide)]; exact d2
    · rw [q.al 1017 (by decide)]; exact d3
    · rw [q.ai 1008 (by decide)]; exact d4
  · rw [q.gi 1029 (by decide)]; exact a5
end Acts
theorem lw_lt {Z : Zt} {c : Scn} (h1 : ZOk Z) (h2 : ScOk Z c) : sLw c < 256 :=
  Nat.lt_of_lt_of_le h2.1.2.2.2.1 (Nat.le_trans (Nat.pow_le_pow_right (by decide) h1.1) (by decide))
/-! waters -/
theorem waters_ok {S M : Sto} (h : Rl S M) (x y : Int64) : ∃ r S' M', F_w_waters x y S = some (r, S') ∧ F_m_waters x y M = some (r, M') ∧ Rl S' M' := by
  obtain ⟨t, f, Z, c, i, h1, h2, h3, hC, hM⟩ := h
  have bad : (F_w_waters x y S = F_w_waters_20 S ∧ F_m_waters x y M = F_m_waters_25 (si M 1001 0)) → ∃ r S' M', F_w_waters x y S = some (r, S') ∧ F_m_waters x y M = some (r, M') ∧ Rl S' M' := by
    intro hv
    obtain ⟨S', s1, s2⟩ := refC_ok hC (k := 1) (by decide)
    refine ⟨0, S', _, ?_, ?_, t, f, Z, cSt c 1, i, h1, h2, h3, s2, refM_ok (hM.cd 0) (k := 1) (by decide)⟩
    · rw [hv.1]
      unfold F_w_waters_20
      rw [(show (1 : Int32) = nI 1 from rfl), s1, b2_s]
    · rw [hv.2]
      rfl
  by_cases hx : isNum x
  · by_cases hy : isNum y
    · obtain ⟨a, a1, a2, rfl⟩ := hx
      obtain ⟨b, b1, b2, rfl⟩ := hy
      by_cases q : a ≤ b
      · obtain ⟨S', s1, s2, s3, s4⟩ := kpC_ok hC.sc h2.2.1 0 (gl S 26) (gl S 27)
        obtain ⟨M', m1, m2, m3, m4⟩ := kpM_ok (hM.cd 0).sc h2.2.1 (by have := lw_lt h1 h2; omega)
        obtain ⟨c1, c2, c3, c4, c5, _⟩ := hC.sc
        obtain ⟨n1, n2, n3, n4, n5, _⟩ := (hM.cd 0).sc
        have hn : SnOk Z (a, b, c.1.2.2) := ⟨a1, q, b2, h2.1.2.2.2⟩
        have hd : Dif 0 (gl S 26) (gl S 27) c.1 (a, b, c.1.2.2) := Or.inl ⟨rfl, c1, c2, rfl⟩
        refine ⟨1, _, _, ?_, ?_, t, f, Z, cKp c (a, b, c.1.2.2), i, h1, ScOk_kp h2 hn, h3, RC_kp hC (T := sl (sl S' 26 (lN a)) 27 (lN b)) ?_ s3 (s4 _ hd) ?_, RM_kp (hM.cd 0) (T := sl (sl M' 1013 (lN a)) 1014 (lN b)) ?_ m3 m4 ?_⟩
        · unfold F_w_waters
          rw [wnum_y a1 a2, b1_s, if_neg I1_0, wnum_y b1 b2, b1_s, if_neg I1_0, if_pos (by rw [le_lN (by omega) (by omega)]; exact q), s1, b2_s]
        · unfold F_m_waters
          rw [mnum_y a1 a2, b1_s, if_neg I1_0, mnum_y b1 b2, b1_s, if_neg I1_0, if_pos (by rw [le_lN (by omega) (by omega)]; exact q), m1, b2_s]
        · exact ((s2.mono (by decide) (by decide) (by decide) (by decide) (by decide)).sl (by decide)).sl (by decide)
        · refine ⟨rfl, rfl, ?_, ?_, ?_⟩
          · show gi S' 28 = _; rw [s2.gi _ (by decide)]; exact c3
          · show gl S' 29 = _; rw [s2.gl _ (by decide)]; exact c4
          · show gi S' 30 = _; rw [s2.gi _ (by decide)]; exact c5
        · exact ((m2.mono (by decide) (by decide) (by decide) (by decide) (by decide)).sl (by decide)).sl (by decide)
        · refine ⟨rfl, rfl, ?_, ?_, ?_⟩
          · show gi M' 1016 = _; rw [m2.gi _ (by decide)]; exact n3
          · show gl M' 1015 = _; rw [m2.gl _ (by decide)]; exact n4
          · show gi M' 1017 = _; rw [m2.gi _ (by decide)]; exact n5
      · refine bad ⟨?_, ?_⟩
        · unfold F_w_waters
          rw [wnum_y a1 a2, b1_s, if_neg I1_0, wnum_y b1 b2, b1_s, if_neg I1_0, if_neg (by rw [le_lN (by omega) (by omega)]; exact q)]
        · unfold F_m_waters
          rw [mnum_y a1 a2, b1_s, if_neg I1_0, mnum_y b1 b2, b1_s, if_neg I1_0, if_neg (by rw [le_lN (by omega) (by omega)]; exact q)]
    · obtain ⟨a, a1, a2, rfl⟩ := hx
      refine bad ⟨?_, ?_⟩
      · unfold F_w_waters
        rw [wnum_y a1 a2, b1_s, if_neg I1_0, wnum_n hy, b1_s, if_pos rfl]
      · unfold F_m_waters
        rw [mnum_y a1 a2, b1_s, if_neg I1_0, mnum_n hy, b1_s, if_pos rfl]
  · refine bad ⟨?_, ?_⟩
    · unfold F_w_waters
      rw [wnum_n hx, b1_s, if_pos rfl]
    · unfold F_m_waters
      rw [mnum_n hx, b1_s, if_pos rfl]
/-! lower -/
theorem shr1 {n k : Nat} (hn : n < 2147483648) (hk : k < 31) : (nI n >>> (nI k &&& 31)) &&& 1 = nI (n / 2 ^ k % 2) := by
  rw [pk_shrN hn (nI k &&& 31) k (s_l k (by omega))]
  exact fa_mask (n / 2 ^ k) 1
theorem lower_ok {S M O : Sto} (h : Rl S M) (x : Int32) (d : Bool) : ∃ k S' O' b M', F_l_lower x (bI d) S O = some (k, S', O') ∧ F_m_lower x (bI d) M = some (b, M') ∧ gi M' 1001 = k ∧ (k = 0 → al O' 2000 (Int32.toNatClampNeg 0) = if b = 0 then 0 else 1) ∧ Rl S' M' := by
  obtain ⟨t, f, Z, c, i, h1, h2, h3, hC, hM⟩ := h
  have h8 : zN Z ≤ 8 := h1.1
  have zc := hC.z
  have e3 : ai (si M 1001 0) 1003 (Int32.toNatClampNeg 0) = nI (zN Z) := (hM.cd 0).z.1
  obtain ⟨c1, c2, c3, c4, c5, _⟩ := hC.sc
  obtain ⟨n1, n2, n3, n4, n5, _⟩ := (hM.cd 0).sc
  have hl := lw_lt h1 h2
  by_cases hx : ∃ k, k < zN Z ∧ x = nI k
  · obtain ⟨k, hk, rfl⟩ := hx
    have a1 : F_w_lower (nI k) (bI d) S = F_w_lower_40 (bI d) (nI (2 ^ k)) (bI ((sLw c).testBit k)) S := by
      unfold F_w_lower
      rw [has_y zc.1 h8 hk, b1_s, if_neg I1_0, c3, sh1 (by omega)]
      cases hb : (sLw c).testBit k
      · rw [if_pos (by rw [fa_bit (by omega)]; exact hb)]; rfl
      · rw [if_neg (by rw [fa_bit (by omega), hb]; decide)]; rfl
    have a2 : F_m_lower (nI k) (bI d) M = F_m_lower_47 (nI k) (bI ((sLw c).testBit k)) (bI d) (si M 1001 0) := by
      have e5 : nI (sLw c / 2 ^ k % 2) = bI ((sLw c).testBit k) := by
        rw [Nat.testBit_eq_decide_div_mod_eq]
        rcases Nat.mod_two_eq_zero_or_one (sLw c / 2 ^ k) with q | q <;> rw [q] <;> rfl
      unfold F_m_lower
      rw [e3, isNet_y hk (by omega), b1_s, if_neg I1_0, n3, shr1 (by omega) (by omega), e5]
      cases d with
      | true => rw [if_neg (by decide)]; rfl
      | false => rw [if_pos (by decide)]; rfl
    by_cases q : (sLw c).testBit k = d
    · obtain ⟨S', s1, s2⟩ := refC_ok hC (k := 1) (by decide)
      refine ⟨0, S', oW O 0, 0, _, ?_, ?_, ?_, fun _ => rfl, t, f, Z, cSt c 1, i, h1, h2, h3, s2, refM_ok (hM.cd 0) (k := 1) (by decide)⟩
      · unfold F_l_lower
        rw [a1]
        unfold F_w_lower_40
        rw [if_pos (by rw [q]), (show (1 : Int32) = nI 1 from rfl), s1, b2_s, b2_s, su_l, if_pos rfl]
        unfold F_l_lower_16
        rw [ck_t (by decide)]
      · rw [a2]
        unfold F_m_lower_47
        rw [if_pos (by rw [q])]
        rfl
      · rfl
    · obtain ⟨S', s1, s2, s3, s4⟩ := kpC_ok hC.sc h2.2.1 1 (gi S 28).toInt64 0
      obtain ⟨M', m1, m2, m3, m4⟩ := kpM_ok (hM.cd 0).sc h2.2.1 (by omega)
      have hn : SnOk Z (c.1.1, c.1.2.1, sLw c ^^^ 2 ^ k, c.1.2.2.2) := by
        obtain ⟨g1, g2, g3, g4, g5⟩ := h2.1
        exact ⟨g1, g2, g3, Nat.xor_lt_two_pow g4 (Nat.pow_lt_pow_right (by decide) hk), g5⟩
      have hd : Dif 1 (gi S 28).toInt64 0 c.1 (c.1.1, c.1.2.1, sLw c ^^^ 2 ^ k, c.1.2.2.2) := by
        refine Or.inr (Or.inl ⟨rfl, ?_, rfl, rfl, rfl⟩)
        rw [c3, i2l_nI (by omega)]
        rfl
      refine ⟨0, si S' 28 (gi S' 28 ^^^ nI (2 ^ k)), oW O 1, 1, si M' 1016 (gi M' 1016 ^^^ nI (2 ^ k)), ?_, ?_, ?_, fun _ => rfl, t, f, Z, cKp c (c.1.1, c.1.2.1, sLw c ^^^ 2 ^ k, c.1.2.2.2), i, h1, ScOk_kp h2 hn, h3, RC_kp hC ?_ s3 (s4 _ hd) ?_, RM_kp (hM.cd 0) ?_ m3 m4 ?_⟩
      · unfold F_l_lower
        rw [a1]
        unfold F_w_lower_40
        rw [if_neg (by rw [bI_inj]; exact q), s1, b2_s, b2_s, su_l, if_neg I1_0]
        unfold F_l_lower_16
        rw [ck_t (by decide)]
      · rw [a2]
        unfold F_m_lower_47
        rw [if_neg (by rw [bI_inj]; exact q), m1, b2_s, sh1 (by omega)]
      · show gi M' 1001 = 0
        rw [m2.gi _ (by decide)]
        rfl
      · exact (s2.mono (by decide) (by decide) (by decide) (by decide) (by decide)).si (by decide)
      · refine ⟨?_, ?_, ?_, ?_, ?_⟩
        · show gl S' 26 = _; rw [s2.gl _ (by decide)]; exact c1
        · show gl S' 27 = _; rw [s2.gl _ (by decide)]; exact c2
        · show gi S' 28 ^^^ nI (2 ^ k) = _
          rw [s2.gi _ (by decide), c3, fb_xorI]
        · show gl S' 29 = _; rw [s2.gl _ (by decide)]; exact c4
        · show gi S' 30 = _; rw [s2.gi _ (by decide)]; exact c5
      · exact (m2.mono (by decide) (by decide) (by decide) (by decide) (by decide)).si (by decide)
      · refine ⟨?_, ?_, ?_, ?_, ?_⟩
        · show gl M' 1013 = _; rw [m2.gl _ (by decide)]; exact n1
        · show gl M' 1014 = _; rw [m2.gl _ (by decide)]; exact n2
        · show gi M' 1016 ^^^ nI (2 ^ k) = _
          rw [m2.gi _ (by decide), n3, fb_xorI]
        · show gl M' 1015 = _; rw [m2.gl _ (by decide)]; exact n4
        · show gi M' 1017 = _; rw [m2.gi _ (by decide)]; exact n5
  · refine ⟨1, S, O, 0, si (si M 1001 0) 1001 1, ?_, ?_, rfl, fun e => absurd e (by decide), t, f, Z, c, i, h1, h2, h3, hC, (hM.cd 0).cd 1⟩
    · unfold F_l_lower F_w_lower
      rw [has_n zc.1 h8 hx, b1_s, if_pos rfl, b2_s, su_r]
      rfl
    · unfold F_m_lower
      rw [e3, isNet_n (by omega) hx, b1_s, if_pos rfl]
/-! undo -/
def cUn (c : Scn) : Scn := (sAc c (sA c - 1), (sA c - 1, c.2.1.2), c.2.2)
theorem undo_ok {S M : Sto} (h : Rl S M) : ∃ r S' M', F_w_undo S = some (r, S') ∧ F_m_undo M = some (r, M') ∧ Rl S' M' := by
  obtain ⟨t, f, Z, c, i, h1, h2, h3, hC, hM⟩ := h
  obtain ⟨c1, c2, c3, c4, c5, c6, c7, c8, c9, c10, c11, c12⟩ := hC.sc
  obtain ⟨n1, n2, n3, n4, n5, n6, n7, n8, n9, d1, d2, d3, d4⟩ := (hM.cd 0).sc
  have hA : sA c ≤ 40 := h2.2.1
  by_cases q : sA c = 0
  · refine ⟨-1, S, si M 1001 0, ?_, ?_, t, f, Z, c, i, h1, h2, h3, hC, hM.cd 0⟩
    · unfold F_w_undo F_Sc_takeBack
      rw [c6, q, if_pos (by decide), b2_s]
    · unfold F_m_undo
      rw [n6, q, if_pos (by decide)]
  · obtain ⟨A, hA1⟩ : ∃ A, sA c = A + 1 := ⟨sA c - 1, by omega⟩
    have hcu : cUn c = (sAc c A, (A, c.2.1.2), c.2.2) := by unfold cUn; rw [hA1]; rfl
    have hok : ScOk Z (cUn c) := by
      obtain ⟨g1, g2, g3, g4⟩ := h2
      rw [hcu]
      exact ⟨g3 A (by omega), (by show A ≤ 40; omega), fun j hj => g3 j (by have : j < A := hj; omega), g4⟩
    have e1 : gi S 31 - 1 = nI A := by rw [c6, hA1, nI_pred]
    have hlast : Dif (ai S 28 A) (al S 29 A) (al S 30 A) (sAc c A) c.1 := by
      have := c7 A (by omega)
      unfold nxt at this
      rwa [if_neg (by omega)] at this
    have dif : ∀ j, j < A → Dif (ai S 28 j) (al S 29 j) (al S 30 j) (sAc c j) (nxt (sAc c A, (A, c.2.1.2), c.2.2) j) := by
      intro j hj
      have := c7 j (by omega)
      unfold nxt at this
      rw [if_pos (by omega)] at this
      show Dif (ai S 28 j) (al S 29 j) (al S 30 j) (sAc c j) (if j + 1 < A then sAc c (j + 1) else sAc c A)
      by_cases e : j + 1 < A
      · rw [if_pos e]; exact this
      · rw [if_neg e, ← show j + 1 = A by omega]; exact this
    have hm : ∃ M', F_m_undo M = some (nI A, M') ∧ RM t f Z (cUn c) i M' := by
      obtain ⟨p1, p2, p3, p4, p5⟩ := d1 A (by omega)
      have e2 : gi (si M 1001 0) 1018 - 1 = nI A := by rw [n6, hA1, nI_pred]
      unfold F_m_undo
      rw [n6, if_neg (nI_ne0 (by omega) (by omega)), hA1, nI_pred]
      unfold F_m_unpack_1000_1012
      have e3 : (5 : Int32) * gi (si (si M 1001 0) 1018 (nI A)) 1018 = nI (5 * A) := pk_mul 5 A
      rw [e3, (show (1 : Int32) = nI 1 from rfl), (show (2 : Int32) = nI 2 from rfl), (show (3 : Int32) = nI 3 from rfl), (show (4 : Int32) = nI 4 from rfl), nI_add, nI_add, nI_add, nI_add, ck_t (ib_nI (by omega) (by decide)), ck_t (ib_nI (by omega) (by decide)), ck_t (ib_nI (by omega) (by decide)), ck_t (ib_nI (by omega) (by decide)), ck_t (ib_nI (by omega) (by decide)), nI_clamp (by omega), nI_clamp (by omega), nI_clamp (by omega), nI_clamp (by omega), nI_clamp (by omega), b2_s]
      refine ⟨_, rfl, ?_⟩
      obtain ⟨a1, a2, a3, a4, a5, a6⟩ := hM.cd 0
      rw [hcu]
      refine ⟨a1, a2, a3, ⟨p1, p2, ?_, p4, ?_, rfl, n7, n8, n9, fun j hj => d1 j (by have : j < A := hj; omega), d2, d3, d4⟩, a5, a6⟩
      · show (al (si M 1001 0) 1012 (5 * A + 2)).toInt32 = _
        rw [p3, l2i_lN]; rfl
      · show (al (si M 1001 0) 1012 (5 * A + 4)).toInt32 = _
        rw [p5]; exact Int32.toInt32_toInt64 _
    obtain ⟨M', hm1, hm2⟩ := hm
    have hc : ∃ S', F_w_undo S = some (nI A, S') ∧ RC t f Z (cUn c) i S' := by
      unfold F_w_undo F_Sc_takeBack F_Sc_takeBack_106
      rw [e1, if_neg (nI_pos (by omega)), (show (40 : Int32) = nI 40 from rfl), if_pos (nI_lt (by omega) (by decide)), ck_t (ib_nI (by omega) (by decide)), nI_clamp (by omega)]
      obtain ⟨a1, a2, a3, a4, a5, a6, a7⟩ := hC
      rcases hlast with ⟨k0, f0, s0, r0⟩ | ⟨k0, f0, r0, r1, r2⟩ | ⟨k0, f0, s0, r0, r1, r2⟩
      · rw [k0, if_pos (by decide), ck_t (ib_nI (by omega) (by decide)), ck_t (ib_nI (by omega) (by decide)), b2_s]
        refine ⟨_, rfl, a1, a2, a3, ?_, a5, a6, a7⟩
        rw [hcu]
        refine Sc0_to ⟨f0, s0, ?_, ?_, ?_, rfl, dif, c8, c9, c10, c11, c12⟩
        · show gi S 28 = nI (sAc c A).2.2.1; rw [r0]; exact c3
        · show gl S 29 = lN (sAc c A).2.2.2.1; rw [r0]; exact c4
        · show gi S 30 = (sAc c A).2.2.2.2; rw [r0]; exact c5
      · rw [k0, if_neg (by decide), ck_t (ib_nI (by omega) (by decide)), if_pos (by decide), ck_t (ib_nI (by omega) (by decide)), b2_s]
        refine ⟨_, rfl, a1, a2, a3, ?_, a5, a6, a7⟩
        rw [hcu]
        refine Sc0_to ⟨?_, ?_, ?_, ?_, ?_, rfl, dif, c8, c9, c10, c11, c12⟩
        · show gl S 26 = lN (sAc c A).1; rw [r0]; exact c1
        · show gl S 27 = lN (sAc c A).2.1; rw [r1]; exact c2
        · show (al S 29 A).toInt32 = nI (sAc c A).2.2.1; rw [f0, l2i_lN]
        · show gl S 29 = lN (sAc c A).2.2.2.1; rw [r2]; exact c4
        · show gi S 30 = (sAc c A).2.2.2.2; rw [r2]; exact c5
      · rw [k0, if_neg (by decide), ck_t (ib_nI (by omega) (by decide)), if_neg (by decide), ck_t (ib_nI (by omega) (by decide)), if_pos (by decide), ck_t (ib_nI (by omega) (by decide)), ck_t (ib_nI (by omega) (by decide)), b2_s]
        refine ⟨_, rfl, a1, a2, a3, ?_, a5, a6, a7⟩
        rw [hcu]
        refine Sc0_to ⟨?_, ?_, ?_, f0, ?_, rfl, dif, c8, c9, c10, c11, c12⟩
        · show gl S 26 = lN (sAc c A).1; rw [r0]; exact c1
        · show gl S 27 = lN (sAc c A).2.1; rw [r1]; exact c2
        · show gi S 28 = nI (sAc c A).2.2.1; rw [r2]; exact c3
        · show (al S 30 A).toInt32 = (sAc c A).2.2.2.2; rw [s0]; exact Int32.toInt32_toInt64 _
    obtain ⟨S', hc1, hc2⟩ := hc
    exact ⟨nI A, S', M', hc1, hm1, t, f, Z, cUn c, i, h1, hok, h3, hc2, hm2⟩
