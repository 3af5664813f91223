/-! ===== the pond's year: what it is ===== -/
def bt2 (x p : Nat) : Nat := x / 2 ^ p % 2
def pci (P x a : Nat) : Nat → (Nat → Nat) → Nat → Nat
  | 0, g => g
  | j + 1, g => fun p => if p = (a + (a + 1 + j)) % P then pci P x a j g p + bt2 x (a + 1 + j) else pci P x a j g p
def pco (P x : Nat) : Nat → Nat → Nat
  | 0 => fun _ => 0
  | k + 1 => if bt2 x k = 1 then pci P x k (P - 1 - k) (pco P x k) else pco P x k
def pv (P x : Nat) (code : Nat) (num : Int32) (p : Nat) : Int32 := if code = 1 then nI p else if code = 2 then nI (bt2 x p) else if code = 3 then nI (bt2 x (if p = 0 then P - 1 else p - 1)) else if code = 4 then nI (bt2 x (if p = P - 1 then 0 else p + 1)) else if code = 5 then nI (pco P x P p) else if code = 6 then nI (pc x) else num
def jv (code : Nat) (l r : Int32) : Int32 := if code = 8 then (if l = 0 then 1 else 0) else if code = 9 then (if l = 0 then (if r = 0 then 0 else 1) else 1) else if code = 10 then (if l = 0 then 0 else if r = 0 then 0 else 1) else if code = 11 then (if r ≤ l then 0 else 1) else if code = 12 then (if l = r then 1 else 0) else if code = 13 then l + r else if code = 14 then l - r else if code = 15 then l * r else if r = 0 then 0 else l / r
def dN (cd : Nat → Nat) : Nat → Nat
  | 0 => 0
  | i + 1 => if cd i < 8 then dN cd i + 1 else if cd i = 8 then dN cd i else dN cd i - 1
def evs (cd : Nat → Nat) (val : Nat → Int32) : Nat → Nat → Int32
  | 0 => fun _ => 0
  | i + 1 => if cd i < 8 then (fun j => if j = dN cd i then val i else evs cd val i j) else if cd i = 8 then (fun j => if j = dN cd i - 1 then jv 8 (evs cd val i (dN cd i - 1)) (evs cd val i (dN cd i - 1)) else evs cd val i j) else (fun j => if j = dN cd i - 2 then jv (cd i) (evs cd val i (dN cd i - 2)) (evs cd val i (dN cd i - 1)) else evs cd val i j)
def vnm (Z : Zt) (y : Int32) (i : Nat) : Int32 := if zC Z i = 7 then y else nI (zV Z i)
def vat (Z : Zt) (x : Nat) (y : Int32) (p i : Nat) : Int32 := pv (zP Z) x (zC Z i) (vnm Z y i) p
def grw (Z : Zt) (x : Nat) (y : Int32) (p : Nat) : Bool := decide (¬ evs (zC Z) (vat Z x y p) (zS Z) 0 = 0)
/-- the places that are taken behind a year -/
def spw (Z : Zt) (x : Nat) (y : Int32) : Nat := if zS Z = 0 then x else nb (grw Z x y) (zP Z)
theorem spw_lt {Z : Zt} {x : Nat} (y : Int32) (h : x < 2 ^ zP Z) : spw Z x y < 2 ^ zP Z := by
  unfold spw
  split
  · exact h
  · exact nb_lt _ _
theorem dep_s {cd : Nat → Nat} : ∀ (n : Nat) {d : Nat}, dep cd n = some d → d = dN cd n ∧ ∀ i, i < n → (cd i < 8 → dN cd i < 32) ∧ (cd i = 8 → 0 < dN cd i) ∧ (8 < cd i → 1 < dN cd i)
  | 0, d, h => by
    cases h
    exact ⟨rfl, fun i hi => absurd hi (Nat.not_lt_zero i)⟩
  | n + 1, d, h => by
    unfold dep at h
    cases hd : dep cd n with
    | none => rw [hd] at h; cases h
    | some e =>
      rw [hd] at h
      obtain ⟨e1, e2⟩ := dep_s n hd
      subst e1
      dsimp only at h
      have ed : dN cd (n + 1) = if cd n < 8 then dN cd n + 1 else if cd n = 8 then dN cd n else dN cd n - 1 := rfl
      rw [ed]
      by_cases q1 : cd n < 8
      · rw [if_pos q1] at h ⊢
        by_cases q2 : dN cd n < 32
        · rw [if_pos q2] at h
          cases h
          refine ⟨rfl, fun i hi => ?_⟩
          by_cases r : i = n
          · subst r; exact ⟨fun _ => q2, fun _ => by omega, fun _ => by omega⟩
          · exact e2 i (by omega)
        · rw [if_neg q2] at h; cases h
      · rw [if_neg q1] at h ⊢
        by_cases q3 : cd n = 8
        · rw [if_pos q3] at h ⊢
          by_cases q2 : 0 < dN cd n
          · rw [if_pos q2] at h
            cases h
            refine ⟨rfl, fun i hi => ?_⟩
            by_cases r : i = n
            · subst r; exact ⟨fun _ => by omega, fun _ => q2, fun _ => by omega⟩
            · exact e2 i (by omega)
          · rw [if_neg q2] at h; cases h
        · rw [if_neg q3] at h ⊢
          by_cases q2 : 1 < dN cd n
          · rw [if_pos q2] at h
            cases h
            refine ⟨rfl, fun i hi => ?_⟩
            by_cases r : i = n
            · subst r; exact ⟨fun _ => by omega, fun _ => by omega, fun _ => q2⟩
            · exact e2 i (by omega)
          · rw [if_neg q2] at h; cases h
theorem dN_32 {cd : Nat → Nat} {n : Nat} (h : ∀ i, i < n → (cd i < 8 → dN cd i < 32) ∧ (cd i = 8 → 0 < dN cd i) ∧ (8 < cd i → 1 < dN cd i)) : ∀ i, i ≤ n → dN cd i ≤ 32
  | 0, _ => Nat.zero_le _
  | i + 1, hi => by
    have h1 := dN_32 h i (by omega)
    have h2 := h i (by omega)
    have ed : dN cd (i + 1) = if cd i < 8 then dN cd i + 1 else if cd i = 8 then dN cd i else dN cd i - 1 := rfl
    rw [ed]
    by_cases q1 : cd i < 8
    · rw [if_pos q1]; have := h2.1 q1; omega
    · rw [if_neg q1]
      by_cases q3 : cd i = 8
      · rw [if_pos q3]; exact h1
      · rw [if_neg q3]; omega
/-! the class's couples -/
theorem row_w : ∀ j, j < 32 → 300 + j ∈ qc := by decide
theorem au_53 {k27 : Int32 → Int64 → Int32 → Sto → Option (Unit × Sto)} {P x a : Nat} {g : Nat → Nat} (hx : x < 4611686018427387904) (hP : P ≤ 60) (ha : a < P) : ∀ (m n j : Nat) (S : Sto), j + m = P - 1 - a → m < n → (∀ p, p < P → ai S 45 p = nI (pci P x a j g p)) →
    ∃ S', F_Po_addUp_53 k27 n (nI P) (lN x) (nI a) (nI (a + 1 + j)) S = k27 (nI P) (lN x) (nI (a + 1)) S' ∧ Fr [] [] [45] [] [] S S' ∧ ∀ p, p < P → ai S' 45 p = nI (pci P x a (P - 1 - a) g p) := by
  intro m
  induction m with
  | zero =>
    intro n j S hj hn hp
    obtain ⟨n, rfl⟩ : ∃ q, n = q + 1 := ⟨n - 1, by omega⟩
    have : j = P - 1 - a := by omega
    subst this
    refine ⟨S, ?_, Fr.rfl, hp⟩
    rw [F_Po_addUp_53, if_pos (nI_le (by omega) (by omega)), (show (1 : Int32) = nI 1 from rfl), nI_add]
  | succ m ih =>
    intro n j S hj hn hp
    obtain ⟨n, rfl⟩ : ∃ q, n = q + 1 := ⟨n - 1, by omega⟩
    have hb : (a + (a + 1 + j)) % P < P := Nat.mod_lt _ (by omega)
    have key : F_Po_addUp_53 k27 (n + 1) (nI P) (lN x) (nI a) (nI (a + 1 + j)) S = F_Po_addUp_83 k27 (F_Po_addUp_53 k27 n) (nI P) (lN x) (nI a) (nI (a + 1 + j)) (nI ((a + (a + 1 + j)) % P)) S := by
      rw [F_Po_addUp_53, if_neg (nI_ge (by omega) (by omega)), nI_add]
      by_cases q : a + (a + 1 + j) < P
      · rw [if_pos (nI_lt q (by omega)), Nat.mod_eq_of_lt q]
      · rw [if_neg (by rw [lt_nI (by omega) (by omega)]; exact q), sub_nI (by omega), Nat.mod_eq_sub_mod (by omega), Nat.mod_eq_of_lt (by omega)]
    have es : ∀ p, pci P x a (j + 1) g p = if p = (a + (a + 1 + j)) % P then pci P x a j g p + bt2 x (a + 1 + j) else pci P x a j g p := fun _ => rfl
    obtain ⟨S', s1, s2, s3⟩ := ih n (j + 1) (ui S 45 (upd (ai S 45) ((a + (a + 1 + j)) % P) (nI (pci P x a j g ((a + (a + 1 + j)) % P) + bt2 x (a + 1 + j))))) (by omega) (by omega) (fun p hp2 => by
      show upd (ai S 45) _ _ p = _
      rw [upd_at, es]
      by_cases q : p = (a + (a + 1 + j)) % P
      · rw [if_pos q, if_pos q, q]
      · rw [if_neg q, if_neg q]; exact hp p hp2)
    refine ⟨S', ?_, (Fr.rfl.ui (by decide)).trans s2, s3⟩
    rw [← s1, key]
    unfold F_Po_addUp_83 F_Po_addUp_113
    rw [if_neg (nI_pos (by omega)), (show (60 : Int32) = nI 60 from rfl), if_neg (nI_ge (by omega) (by decide)), ck_t (ib_nI (by omega) (by decide)), bitC_ok (by omega) (by omega), b1_s, ck_t (ib_nI (by omega) (by decide)), nI_clamp (by omega), hp _ hb, nI_add, (show (1 : Int32) = nI 1 from rfl), nI_add]
    rfl
theorem au_27 {P x : Nat} (hx : x < 4611686018427387904) (hP : P ≤ 60) : ∀ (m n k : Nat) (S : Sto), k + m = P → m < n → (∀ p, p < P → ai S 45 p = nI (pco P x k p)) →
    ∃ S', F_Po_addUp_27 n (nI P) (lN x) (nI k) S = some ((), S') ∧ Fr [] [] [45] [] [] S S' ∧ ∀ p, p < P → ai S' 45 p = nI (pco P x P p) := by
  intro m
  induction m with
  | zero =>
    intro n k S hk hn hp
    obtain ⟨n, rfl⟩ : ∃ q, n = q + 1 := ⟨n - 1, by omega⟩
    have : k = P := by omega
    subst this
    refine ⟨S, ?_, Fr.rfl, hp⟩
    rw [F_Po_addUp_27, if_pos (nI_le (by omega) (by omega))]
  | succ m ih =>
    intro n k S hk hn hp
    obtain ⟨n, rfl⟩ : ∃ q, n = q + 1 := ⟨n - 1, by omega⟩
    rw [F_Po_addUp_27, if_neg (nI_ge (by omega) (by omega)), bitC_ok (by omega) (by omega), b1_s]
    unfold F_Po_addUp_51
    have es : pco P x (k + 1) = if bt2 x k = 1 then pci P x k (P - 1 - k) (pco P x k) else pco P x k := rfl
    by_cases q : bt2 x k = 1
    · rw [if_pos q] at es
      have q' : x / 2 ^ k % 2 = 1 := q
      rw [q', if_pos (show nI 1 = (1 : Int32) from rfl), (show (1 : Int32) = nI 1 from rfl), nI_add]
      obtain ⟨S1, s1, s2, s3⟩ := au_53 (k27 := F_Po_addUp_27 n) (g := pco P x k) hx hP (by omega : k < P) (P - 1 - k) FU 0 S (by omega) (by rw [FU_v]; omega) hp
      rw [Nat.add_zero] at s1
      rw [s1]
      obtain ⟨S', t1, t2, t3⟩ := ih n (k + 1) S1 (by omega) (by omega) (fun p hp2 => by rw [es]; exact s3 p hp2)
      exact ⟨S', t1, s2.trans t2, t3⟩
    · rw [if_neg q] at es
      have q' : ¬ x / 2 ^ k % 2 = 1 := q
      rw [if_neg (by rw [(show (1 : Int32) = nI 1 from rfl), eq_nI (by omega) (by decide)]; exact q')]
      obtain ⟨r, hr⟩ : ∃ r, FU = r + 1 := ⟨1099511627775, rfl⟩
      rw [hr, F_Po_addUp_53, if_pos (nI_le (by omega) (by omega)), (show (1 : Int32) = nI 1 from rfl), nI_add]
      exact ih n (k + 1) S (by omega) (by omega) (fun p hp2 => by rw [es]; exact hp p hp2)
theorem au_3 {P x : Nat} (hx : x < 4611686018427387904) (hP : P ≤ 60) : ∀ (m n k : Nat) (S : Sto), k + m = 60 → m < n → (∀ p, p < k → ai S 45 p = nI 0) →
    ∃ S', F_Po_addUp_3 n (nI P) (lN x) (nI k) S = some ((), S') ∧ Fr [] [] [45] [] [] S S' ∧ ∀ p, p < P → ai S' 45 p = nI (pco P x P p) := by
  intro m
  induction m with
  | zero =>
    intro n k S hk hn hp
    obtain ⟨n, rfl⟩ : ∃ q, n = q + 1 := ⟨n - 1, by omega⟩
    rw [F_Po_addUp_3, (show (60 : Int32) = nI 60 from rfl), if_pos (nI_le (by omega) (by omega))]
    exact au_27 hx hP P FU 0 S (Nat.zero_add _) (by rw [FU_v]; omega) (fun p hp2 => hp p (by omega))
  | succ m ih =>
    intro n k S hk hn hp
    obtain ⟨n, rfl⟩ : ∃ q, n = q + 1 := ⟨n - 1, by omega⟩
    rw [F_Po_addUp_3, (show (60 : Int32) = nI 60 from rfl), if_neg (nI_ge (by omega) (by omega)), ck_t (ib_nI (by omega) (by decide)), nI_clamp (by omega), (show (1 : Int32) = nI 1 from rfl), nI_add]
    obtain ⟨S', s1, s2, s3⟩ := ih n (k + 1) (ui S 45 (upd (ai S 45) k 0)) (by omega) (by omega) (fun p hp2 => by
      show upd (ai S 45) k 0 p = _
      rw [upd_at]
      by_cases q : p = k
      · rw [if_pos q]; rfl
      · rw [if_neg q]; exact hp p (by omega))
    exact ⟨S', s1, (Fr.rfl.ui (by decide)).trans s2, s3⟩
theorem au_ok {P x : Nat} (hx : x < 4611686018427387904) (hP : P ≤ 60) (S : Sto) : ∃ S', F_Po_addUp (nI P) (lN x) S = some ((), S') ∧ Fr [] [] [45] [] [] S S' ∧ ∀ p, p < P → ai S' 45 p = nI (pco P x P p) := by
  unfold F_Po_addUp
  exact au_3 hx hP 60 FU 0 S rfl (by rw [FU_v]; decide) (fun p hp => absurd hp (Nat.not_lt_zero p))
/-! a value put into a row -/
theorem put_lp {P x code r : Nat} {num : Int32} (hx : x < 4611686018427387904) (hP : P ≤ 60) (hc : code < 8) (hr : r ≠ 45) : ∀ (m n k : Nat) (S : Sto), k + m = P → m < n → (∀ p, p < k → ai S r p = pv P x code num p) → (code = 5 → ∀ p, p < P → ai S 45 p = nI (pco P x P p)) →
    ∃ S', F_Po_put_10 n r (nI code) num (nI P) (lN x) (nI (pc x)) (nI k) S = some ((), S') ∧ Fr [] [] [r] [] [] S S' ∧ ∀ p, p < P → ai S' r p = pv P x code num p := by
  intro m
  induction m with
  | zero =>
    intro n k S hk hn hp _
    obtain ⟨n, rfl⟩ : ∃ q, n = q + 1 := ⟨n - 1, by omega⟩
    have : k = P := by omega
    subst this
    refine ⟨S, ?_, Fr.rfl, hp⟩
    rw [F_Po_put_10, if_pos (nI_le (by omega) (by omega))]
  | succ m ih =>
    intro n k S hk hn hp h5
    obtain ⟨n, rfl⟩ : ∃ q, n = q + 1 := ⟨n - 1, by omega⟩
    have key : F_Po_put_10 (n + 1) r (nI code) num (nI P) (lN x) (nI (pc x)) (nI k) S = F_Po_put_10 n r (nI code) num (nI P) (lN x) (nI (pc x)) (nI (k + 1)) (ui S r (upd (ai S r) k (pv P x code num k))) := by
      rw [F_Po_put_10, if_neg (nI_ge (by omega) (by omega)), (show (60 : Int32) = nI 60 from rfl), if_neg (nI_ge (by omega) (by omega)), if_neg (nI_ge (by omega) (by omega))]
      unfold F_Po_put_180 F_Po_put_116 F_Po_put_145 F_Po_put_180
      have hcs : code = 0 ∨ code = 1 ∨ code = 2 ∨ code = 3 ∨ code = 4 ∨ code = 5 ∨ code = 6 ∨ code = 7 := by omega
      rcases hcs with q | q | q | q | q | q | q | q <;> subst q
      · rw [if_neg (by decide), if_neg (by decide), if_neg (by decide), if_neg (by decide), if_neg (by decide), if_neg (by decide), ck_t (ib_nI (by omega) (by decide)), nI_clamp (by omega), (show (1 : Int32) = nI 1 from rfl), nI_add]
        rfl
      · rw [if_pos (by decide), ck_t (ib_nI (by omega) (by decide)), nI_clamp (by omega), (show (1 : Int32) = nI 1 from rfl), nI_add]
        rfl
      · rw [if_neg (by decide), if_pos (by decide), bitC_ok (by omega) (by omega), b1_s, ck_t (ib_nI (by omega) (by decide)), nI_clamp (by omega), (show (1 : Int32) = nI 1 from rfl), nI_add]
        rfl
      · rw [if_neg (by decide), if_neg (by decide), if_pos (by decide), show pv P x 3 num k = nI (bt2 x (if k = 0 then P - 1 else k - 1)) from rfl]
        by_cases w : k = 0
        · rw [if_pos (by rw [w]; rfl), if_pos w, (show (1 : Int32) = nI 1 from rfl), sub_nI (by omega), bitC_ok (by omega) (by omega), b1_s, ck_t (ib_nI (by omega) (by decide)), nI_clamp (by omega), nI_add]
          rfl
        · rw [if_neg (nI_ne0 (by omega) (by omega)), if_neg w, (show (1 : Int32) = nI 1 from rfl), sub_nI (by omega), bitC_ok (by omega) (by omega), b1_s, ck_t (ib_nI (by omega) (by decide)), nI_clamp (by omega), nI_add]
          rfl
      · rw [if_neg (by decide), if_neg (by decide), if_neg (by decide), if_pos (by decide), show pv P x 4 num k = nI (bt2 x (if k = P - 1 then 0 else k + 1)) from rfl, (show (1 : Int32) = nI 1 from rfl), sub_nI (by omega)]
        by_cases w : k = P - 1
        · rw [if_pos (by rw [w]), if_pos w, (show (0 : Int32) = nI 0 from rfl), bitC_ok (by omega) (by omega), b1_s, ck_t (ib_nI (by omega) (by decide)), nI_clamp (by omega), nI_add]
          rfl
        · rw [if_neg (by rw [eq_nI (by omega) (by omega)]; exact w), if_neg w, nI_add, bitC_ok (by omega) (by omega), b1_s, ck_t (ib_nI (by omega) (by decide)), nI_clamp (by omega)]
          rfl
      · rw [if_neg (by decide), if_neg (by decide), if_neg (by decide), if_neg (by decide), if_pos (by decide), ck_t (ib_nI (by omega) (by decide)), ck_t (ib_nI (by omega) (by decide)), nI_clamp (by omega), h5 rfl k (by omega), (show (1 : Int32) = nI 1 from rfl), nI_add]
        rfl
      · rw [if_neg (by decide), if_neg (by decide), if_neg (by decide), if_neg (by decide), if_neg (by decide), if_pos (by decide), ck_t (ib_nI (by omega) (by decide)), nI_clamp (by omega), (show (1 : Int32) = nI 1 from rfl), nI_add]
        rfl
      · rw [if_neg (by decide), if_neg (by decide), if_neg (by decide), if_neg (by decide), if_neg (by decide), if_neg (by decide), ck_t (ib_nI (by omega) (by decide)), nI_clamp (by omega), (show (1 : Int32) = nI 1 from rfl), nI_add]
        rfl
    obtain ⟨S', s1, s2, s3⟩ := ih n (k + 1) (ui S r (upd (ai S r) k (pv P x code num k))) (by omega) (by omega) (fun p hp2 => by
      have e : ai (ui S r (upd (ai S r) k (pv P x code num k))) r = upd (ai S r) k (pv P x code num k) := by rw [ai_ui, if_pos rfl]
      rw [e, upd_at]
      by_cases q : p = k
      · rw [if_pos q, q]
      · rw [if_neg q]; exact hp p (by omega)) (fun hc5 p hp2 => by
      rw [ai_ui, if_neg (Ne.symm hr)]
      exact h5 hc5 p hp2)
    rw [key]
    exact ⟨S', s1, (Fr.rfl.ui (List.mem_singleton.mpr rfl)).trans s2, s3⟩
theorem put_ok {P x code r : Nat} {num : Int32} {S : Sto} (hx : x < 4611686018427387904) (hP : P ≤ 60) (hc : code < 8) (hr : r ≠ 45) (h5 : code = 5 → ∀ p, p < P → ai S 45 p = nI (pco P x P p)) :
    ∃ S', F_Po_put r (nI code) num (nI P) (lN x) S = some ((), S') ∧ Fr [] [] [r] [] [] S S' ∧ ∀ p, p < P → ai S' r p = pv P x code num p := by
  unfold F_Po_put
  rw [bitCountJ_ok (by omega), b1_s]
  exact put_lp hx hP hc hr P FU 0 S (Nat.zero_add _) (by rw [FU_v]; omega) (fun p hp => absurd hp (Nat.not_lt_zero p)) h5
/-! two rows joined -/
theorem joined_ok {code : Nat} (h1 : 8 ≤ code) (h2 : code ≤ 16) (l r : Int32) : F_Po_joined (nI code) l r = some (jv code l r) := by
  unfold F_Po_joined
  have hcs : code = 8 ∨ code = 9 ∨ code = 10 ∨ code = 11 ∨ code = 12 ∨ code = 13 ∨ code = 14 ∨ code = 15 ∨ code = 16 := by omega
  rcases hcs with q | q | q | q | q | q | q | q | q <;> subst q
  · rw [if_pos (show nI 8 = (8 : Int32) from rfl), show jv 8 l r = (if l = 0 then (1 : Int32) else 0) from rfl]
    by_cases w : l = 0
    · rw [if_pos w, if_pos w]
    · rw [if_neg w, if_neg w]
  · rw [if_neg (show ¬ nI 9 = (8 : Int32) by decide), if_pos (show nI 9 = (9 : Int32) from rfl), show jv 9 l r = (if l = 0 then (if r = 0 then (0 : Int32) else 1) else 1) from rfl]
    by_cases w : l = 0
    · rw [if_pos w, if_pos w]
      by_cases v : r = 0
      · rw [if_pos v, if_pos v]
      · rw [if_neg v, if_neg v]
    · rw [if_neg w, if_neg w]
  · rw [if_neg (show ¬ nI 10 = (8 : Int32) by decide), if_neg (show ¬ nI 10 = (9 : Int32) by decide), if_pos (show nI 10 = (10 : Int32) from rfl), show jv 10 l r = (if l = 0 then (0 : Int32) else if r = 0 then 0 else 1) from rfl]
    by_cases w : l = 0
    · rw [if_pos w, if_pos w]
    · rw [if_neg w, if_neg w]
      by_cases v : r = 0
      · rw [if_pos v, if_pos v]
      · rw [if_neg v, if_neg v]
  · rw [if_neg (show ¬ nI 11 = (8 : Int32) by decide), if_neg (show ¬ nI 11 = (9 : Int32) by decide), if_neg (show ¬ nI 11 = (10 : Int32) by decide), if_pos (show nI 11 = (11 : Int32) from rfl), show jv 11 l r = (if r ≤ l then (0 : Int32) else 1) from rfl]
    by_cases w : r ≤ l
    · rw [if_pos w, if_pos w]
    · rw [if_neg w, if_neg w]
  · rw [if_neg (show ¬ nI 12 = (8 : Int32) by decide), if_neg (show ¬ nI 12 = (9 : Int32) by decide), if_neg (show ¬ nI 12 = (10 : Int32) by decide), if_neg (show ¬ nI 12 = (11 : Int32) by decide), if_pos (show nI 12 = (12 : Int32) from rfl), show jv 12 l r = (if l = r then (1 : Int32) else 0) from rfl]
    by_cases w : l = r
    · rw [if_pos w, if_pos w]
    · rw [if_neg w, if_neg w]
  · rw [if_neg (show ¬ nI 13 = (8 : Int32) by decide), if_neg (show ¬ nI 13 = (9 : Int32) by decide), if_neg (show ¬ nI 13 = (10 : Int32) by decide), if_neg (show ¬ nI 13 = (11 : Int32) by decide), if_neg (show ¬ nI 13 = (12 : Int32) by decide), if_pos (show nI 13 = (13 : Int32) from rfl), show jv 13 l r = (l + r) from rfl]
  · rw [if_neg (show ¬ nI 14 = (8 : Int32) by decide), if_neg (show ¬ nI 14 = (9 : Int32) by decide), if_neg (show ¬ nI 14 = (10 : Int32) by decide), if_neg (show ¬ nI 14 = (11 : Int32) by decide), if_neg (show ¬ nI 14 = (12 : Int32) by decide), if_neg (show ¬ nI 14 = (13 : Int32) by decide), if_pos (show nI 14 = (14 : Int32) from rfl), show jv 14 l r = (l - r) from rfl]
  · rw [if_neg (show ¬ nI 15 = (8 : Int32) by decide), if_neg (show ¬ nI 15 = (9 : Int32) by decide), if_neg (show ¬ nI 15 = (10 : Int32) by decide), if_neg (show ¬ nI 15 = (11 : Int32) by decide), if_neg (show ¬ nI 15 = (12 : Int32) by decide), if_neg (show ¬ nI 15 = (13 : Int32) by decide), if_neg (show ¬ nI 15 = (14 : Int32) by decide), if_pos (show nI 15 = (15 : Int32) from rfl), show jv 15 l r = (l * r) from rfl]
  · rw [if_neg (show ¬ nI 16 = (8 : Int32) by decide), if_neg (show ¬ nI 16 = (9 : Int32) by decide), if_neg (show ¬ nI 16 = (10 : Int32) by decide), if_neg (show ¬ nI 16 = (11 : Int32) by decide), if_neg (show ¬ nI 16 = (12 : Int32) by decide), if_neg (show ¬ nI 16 = (13 : Int32) by decide), if_neg (show ¬ nI 16 = (14 : Int32) by decide), if_neg (show ¬ nI 16 = (15 : Int32) by decide), show jv 16 l r = (if r = 0 then (0 : Int32) else l / r) from rfl]
    by_cases w : r = 0
    · rw [if_pos w, if_pos w]
    · rw [if_neg w, if_neg w, ck_t (show nzI r = true from decide_eq_true w)]
theorem join_lp {code P a b : Nat} {l r : Nat → Int32} (h1 : 8 ≤ code) (h2 : code ≤ 16) (hP : P ≤ 60) : ∀ (m n k : Nat) (S : Sto), k + m = P → m < n → (∀ p, p < k → ai S a p = jv code (l p) (r p)) → (∀ p, k ≤ p → p < P → ai S a p = l p ∧ ai S b p = r p) →
    ∃ S', F_Po_join_3 n (nI code) a b (nI P) (nI k) S = some ((), S') ∧ Fr [] [] [a] [] [] S S' ∧ ∀ p, p < P → ai S' a p = jv code (l p) (r p) := by
  intro m
  induction m with
  | zero =>
    intro n k S hk hn hp _
    obtain ⟨n, rfl⟩ : ∃ q, n = q + 1 := ⟨n - 1, by omega⟩
    have : k = P := by omega
    subst this
    refine ⟨S, ?_, Fr.rfl, hp⟩
    rw [F_Po_join_3, if_pos (nI_le (by omega) (by omega))]
  | succ m ih =>
    intro n k S hk hn hp hq
    obtain ⟨n, rfl⟩ : ∃ q, n = q + 1 := ⟨n - 1, by omega⟩
    obtain ⟨q1, q2⟩ := hq k (by omega) (by omega)
    have e : ai (ui S a (upd (ai S a) k (jv code (l k) (r k)))) a = upd (ai S a) k (jv code (l k) (r k)) := by rw [ai_ui, if_pos rfl]
    obtain ⟨S', s1, s2, s3⟩ := ih n (k + 1) (ui S a (upd (ai S a) k (jv code (l k) (r k)))) (by omega) (by omega) (fun p hp2 => by
      rw [e, upd_at]
      by_cases q : p = k
      · rw [if_pos q, q]
      · rw [if_neg q]; exact hp p (by omega)) (fun p p1 p2 => by
      refine ⟨?_, ?_⟩
      · rw [e, upd_at, if_neg (by omega)]; exact (hq p (by omega) p2).1
      · rw [ai_ui]
        by_cases w : b = a
        · rw [if_pos w, upd_at, if_neg (by omega), ← w]; exact (hq p (by omega) p2).2
        · rw [if_neg w]; exact (hq p (by omega) p2).2)
    refine ⟨S', ?_, (Fr.rfl.ui (List.mem_singleton.mpr rfl)).trans s2, s3⟩
    rw [← s1, F_Po_join_3, if_neg (nI_ge (by omega) (by omega)), if_neg (nI_ge (by omega) (by omega)), if_neg (nI_ge (by omega) (by omega)), ck_t (ib_nI (by omega) (by decide)), ck_t (ib_nI (by omega) (by decide)), nI_clamp (by omega), q1, q2, joined_ok h1 h2, b1_s, ck_t (ib_nI (by omega) (by decide)), (show (1 : Int32) = nI 1 from rfl), nI_add]
theorem join_ok {code P a b : Nat} {S : Sto} (h1 : 8 ≤ code) (h2 : code ≤ 16) (hP : P ≤ 60) : ∃ S', F_Po_join (nI code) a b (nI P) S = some ((), S') ∧ Fr [] [] [a] [] [] S S' ∧ ∀ p, p < P → ai S' a p = jv code (ai S a p) (ai S b p) := by
  unfold F_Po_join
  exact join_lp h1 h2 hP P FU 0 S (Nat.zero_add _) (by rw [FU_v]; omega) (fun p hp => absurd hp (Nat.not_lt_zero p)) (fun _ _ _ => ⟨rfl, rfl⟩)
/-! the class's year -/
def RD (Z : Zt) (S : Sto) : Prop := gi S 19 = nI (zS Z) ∧ gi S 23 = nI (zP Z) ∧ ∀ i, i < zS Z → ai S 19 i = nI (zC Z i) ∧ ai S 20 i = nI (zV Z i)
theorem RD_fr {Z : Zt} {S T : Sto} {d : List Nat} (h : RD Z S) (q : Fr [] [] d [] [] S T) (h2 : 19 ∉ d ∧ 20 ∉ d) : RD Z T := by
  unfold RD at h ⊢
  rw [q.gi _ (by decide), q.gi _ (by decide), q.ai _ h2.1, q.ai _ h2.2]
  exact h
theorem row_n : ∀ j, j < 32 → 19 ∉ [300 + j] ∧ 20 ∉ [300 + j] ∧ 45 ∉ [300 + j] := by decide
theorem behind_lp {Z : Zt} {x : Nat} {y : Int32} (hz : ZOk Z) (hx : x < 4611686018427387904) (hs : zS Z ≠ 0) : ∀ (m n i : Nat) (S : Sto), i + m = zS Z → m < n → RD Z S → (∀ p, p < zP Z → ∀ j, j < dN (zC Z) i → ai S (300 + j) p = evs (zC Z) (vat Z x y p) i j) →
    ((∃ i, i < zS Z ∧ zC Z i = 5) → ∀ p, p < zP Z → ai S 45 p = nI (pco (zP Z) x (zP Z) p)) →
    ∃ S', F_Po_behind_39 n (lN x) y (nI (dN (zC Z) i)) (nI i) S = F_Po_behind_218 S' ∧ Fr [] [] qc [] [] S S' ∧ ∀ p, p < zP Z → ai S' 300 p = evs (zC Z) (vat Z x y p) (zS Z) 0 := by
  obtain ⟨_, _, hP, hS5, hcv, hdep⟩ := hz
  obtain ⟨hd1, hd2⟩ := dep_s (zS Z) (hdep hs)
  intro m
  induction m with
  | zero =>
    intro n i S hi hn hR hrow _
    obtain ⟨n, rfl⟩ : ∃ q, n = q + 1 := ⟨n - 1, by omega⟩
    have : i = zS Z := by omega
    subst this
    refine ⟨S, ?_, Fr.rfl, fun p hp => hrow p hp 0 (by omega)⟩
    rw [F_Po_behind_39, hR.1, if_pos (nI_le (by omega) (by omega))]
  | succ m ih =>
    intro n i S hi hn hR hrow h45
    obtain ⟨n, rfl⟩ : ∃ q, n = q + 1 := ⟨n - 1, by omega⟩
    obtain ⟨r1, r2⟩ := hR.2.2 i (by omega)
    obtain ⟨k1, k2, k3⟩ := hd2 i (by omega)
    have h32 := dN_32 hd2 i (by omega)
    obtain ⟨v1, v2⟩ := hcv i (by omega)
    have ed : dN (zC Z) (i + 1) = if zC Z i < 8 then dN (zC Z) i + 1 else if zC Z i = 8 then dN (zC Z) i else dN (zC Z) i - 1 := rfl
    have ee : ∀ p, evs (zC Z) (vat Z x y p) (i + 1) = if zC Z i < 8 then (fun j => if j = dN (zC Z) i then vat Z x y p i else evs (zC Z) (vat Z x y p) i j) else if zC Z i = 8 then (fun j => if j = dN (zC Z) i - 1 then jv 8 (evs (zC Z) (vat Z x y p) i (dN (zC Z) i - 1)) (evs (zC Z) (vat Z x y p) i (dN (zC Z) i - 1)) else evs (zC Z) (vat Z x y p) i j) else (fun j => if j = dN (zC Z) i - 2 then jv (zC Z i) (evs (zC Z) (vat Z x y p) i (dN (zC Z) i - 2)) (evs (zC Z) (vat Z x y p) i (dN (zC Z) i - 1)) else evs (zC Z) (vat Z x y p) i j) := fun _ => rfl
    rw [F_Po_behind_39, hR.1, if_neg (nI_ge (by omega) (by omega)), show (500 : Int32) = nI 500 from rfl, if_neg (nI_ge (by omega) (by omega)), ck_t (ib_nI (by omega) (by decide)), nI_clamp (by omega), r1, r2, (show (8 : Int32) = nI 8 from rfl)]
    by_cases q1 : zC Z i < 8
    · have k1 := k1 q1
      have e101 : ∀ num, F_Po_behind_101 (F_Po_behind_39 n) (lN x) y (nI (dN (zC Z) i)) (nI i) (nI (zC Z i)) num S = b2 (F_Po_put (300 + dN (zC Z) i) (nI (zC Z i)) num (nI (zP Z)) (lN x) S) (fun r2 S4 => F_Po_behind_39 n (lN x) y (nI (dN (zC Z) i + 1)) (nI (i + 1)) S4) := by
        intro num
        unfold F_Po_behind_101 F_Po_behind_212
        rw [ck_t (ib_nI k1 (by decide)), nI_clamp (by omega), hR.2.1, (show (1 : Int32) = nI 1 from rfl), nI_add, nI_add]
      have e2 : (if nI (zC Z i) = 7 then F_Po_behind_101 (F_Po_behind_39 n) (lN x) y (nI (dN (zC Z) i)) (nI i) (nI (zC Z i)) y S else ck (ib (nI i) 500) (F_Po_behind_101 (F_Po_behind_39 n) (lN x) y (nI (dN (zC Z) i)) (nI i) (nI (zC Z i)) (nI (zV Z i)) S)) = F_Po_behind_101 (F_Po_behind_39 n) (lN x) y (nI (dN (zC Z) i)) (nI i) (nI (zC Z i)) (vnm Z y i) S := by
        unfold vnm
        by_cases w : zC Z i = 7
        · rw [if_pos w, if_pos (by rw [w]; rfl)]
        · rw [if_neg w, if_neg (by rw [show (7 : Int32) = nI 7 from rfl, eq_nI (by omega) (by decide)]; exact w), ck_t (ib_nI (by omega) (by decide))]
      rw [if_neg (nI_ge q1 (by decide)), (show (32 : Int32) = nI 32 from rfl), if_neg (nI_ge k1 (by decide)), e2, e101]
      obtain ⟨hn1, hn2, hn3⟩ := row_n _ k1
      obtain ⟨S1, s1, s2, s3⟩ := put_ok (S := S) (r := 300 + dN (zC Z) i) (num := vnm Z y i) hx hP.2 q1 (by omega) (fun h5 => h45 ⟨i, by omega, h5⟩)
      rw [s1, b2_s]
      rw [if_pos q1] at ed
      obtain ⟨S', t1, t2, t3⟩ := ih n (i + 1) S1 (by omega) (by omega) (RD_fr hR s2 ⟨hn1, hn2⟩) (fun p hp j hj => by
        rw [ee, if_pos q1]
        show _ = if j = dN (zC Z) i then vat Z x y p i else evs (zC Z) (vat Z x y p) i j
        rw [ed] at hj
        by_cases w : j = dN (zC Z) i
        · rw [if_pos w, w, s3 p hp]; rfl
        · rw [if_neg w, s2.ai _ (by rw [List.mem_singleton]; omega)]; exact hrow p hp j (by omega)) (fun h p hp => by rw [s2.ai _ hn3]; exact h45 h p hp)
      rw [ed] at t1
      refine ⟨S', t1, Fr.trans (s2.mono (by decide) (by decide) (fun k hk => ?_) (by decide) (by decide)) t2, t3⟩
      rw [List.mem_singleton.mp hk]
      exact row_w _ k1
    · rw [if_pos (nI_le (by omega) (by omega))]
      by_cases q3 : zC Z i = 8
      · have k2 := k2 q3
        have e1 : F_Po_behind_129 (F_Po_behind_39 n) (lN x) y (nI (dN (zC Z) i)) (nI i) (nI (zC Z i)) S = b2 (F_Po_join (nI 8) (300 + (dN (zC Z) i - 1)) (300 + (dN (zC Z) i - 1)) (nI (zP Z)) S) (fun r3 S5 => F_Po_behind_39 n (lN x) y (nI (dN (zC Z) i)) (nI (i + 1)) S5) := by
          unfold F_Po_behind_129 F_Po_behind_212
          rw [q3, if_pos (show nI 8 = (8 : Int32) from rfl), if_neg (nI_nle k2 (by omega)), (show (1 : Int32) = nI 1 from rfl), sub_nI (by omega), ck_t (ib_nI (by omega) (by decide)), ck_t (ib_nI (by omega) (by decide)), nI_clamp (by omega), hR.2.1, nI_add]
          rfl
        obtain ⟨hn1, hn2, hn3⟩ := row_n (dN (zC Z) i - 1) (by omega)
        obtain ⟨S1, s1, s2, s3⟩ := join_ok (S := S) (code := 8) (a := 300 + (dN (zC Z) i - 1)) (b := 300 + (dN (zC Z) i - 1)) (by decide) (by decide) hP.2
        rw [e1, s1, b2_s]
        rw [if_neg q1, if_pos q3] at ed
        obtain ⟨S', t1, t2, t3⟩ := ih n (i + 1) S1 (by omega) (by omega) (RD_fr hR s2 ⟨hn1, hn2⟩) (fun p hp j hj => by
          rw [ee, if_neg q1, if_pos q3]
          show _ = if j = dN (zC Z) i - 1 then jv 8 (evs (zC Z) (vat Z x y p) i (dN (zC Z) i - 1)) (evs (zC Z) (vat Z x y p) i (dN (zC Z) i - 1)) else evs (zC Z) (vat Z x y p) i j
          rw [ed] at hj
          by_cases w : j = dN (zC Z) i - 1
          · rw [if_pos w, w, s3 p hp, hrow p hp _ (by omega)]
          · rw [if_neg w, s2.ai _ (by rw [List.mem_singleton]; omega)]; exact hrow p hp j hj) (fun h p hp => by rw [s2.ai _ hn3]; exact h45 h p hp)
        rw [ed] at t1
        refine ⟨S', t1, Fr.trans (s2.mono (by decide) (by decide) (fun k hk => ?_) (by decide) (by decide)) t2, t3⟩
        rw [List.mem_singleton.mp hk]
        exact row_w _ (by omega)
      · have k3 := k3 (by omega)
        have e1 : F_Po_behind_129 (F_Po_behind_39 n) (lN x) y (nI (dN (zC Z) i)) (nI i) (nI (zC Z i)) S = b2 (F_Po_join (nI (zC Z i)) (300 + (dN (zC Z) i - 2)) (300 + (dN (zC Z) i - 1)) (nI (zP Z)) S) (fun r3 S5 => F_Po_behind_39 n (lN x) y (nI (dN (zC Z) i - 1)) (nI (i + 1)) S5) := by
          obtain ⟨dd, hdd⟩ : ∃ dd, dN (zC Z) i = dd + 1 + 1 := ⟨dN (zC Z) i - 2, by omega⟩
          rw [hdd]
          unfold F_Po_behind_129 F_Po_behind_171 F_Po_behind_212
          rw [(show (8 : Int32) = nI 8 from rfl), if_neg (by rw [eq_nI (by omega) (by decide)]; exact q3), if_neg (by rw [le_nI (by omega) (by decide)]; omega), if_neg (show ¬ nI (dd + 1 + 1) ≤ (1 : Int32) by rw [(show (1 : Int32) = nI 1 from rfl), le_nI (by omega) (by decide)]; omega), pk_m1 (dd + 1), nI_pred, ck_t (ib_nI (by omega) (by decide)), ck_t (ib_nI (by omega) (by decide)), nI_clamp (by omega), nI_clamp (by omega), hR.2.1, (show (1 : Int32) = nI 1 from rfl), nI_add]
          rfl
        obtain ⟨hn1, hn2, hn3⟩ := row_n (dN (zC Z) i - 2) (by omega)
        obtain ⟨S1, s1, s2, s3⟩ := join_ok (S := S) (code := zC Z i) (a := 300 + (dN (zC Z) i - 2)) (b := 300 + (dN (zC Z) i - 1)) (by omega) v1 hP.2
        rw [e1, s1, b2_s]
        rw [if_neg q1, if_neg q3] at ed
        obtain ⟨S', t1, t2, t3⟩ := ih n (i + 1) S1 (by omega) (by omega) (RD_fr hR s2 ⟨hn1, hn2⟩) (fun p hp j hj => by
          rw [ee, if_neg q1, if_neg q3]
          show _ = if j = dN (zC Z) i - 2 then jv (zC Z i) (evs (zC Z) (vat Z x y p) i (dN (zC Z) i - 2)) (evs (zC Z) (vat Z x y p) i (dN (zC Z) i - 1)) else evs (zC Z) (vat Z x y p) i j
          rw [ed] at hj
          by_cases w : j = dN (zC Z) i - 2
          · rw [if_pos w, w, s3 p hp, hrow p hp _ (by omega), hrow p hp _ (by omega)]
          · rw [if_neg w, s2.ai _ (by rw [List.mem_singleton]; omega)]; exact hrow p hp j (by omega)) (fun h p hp => by rw [s2.ai _ hn3]; exact h45 h p hp)
        rw [ed] at t1
        refine ⟨S', t1, Fr.trans (s2.mono (by decide) (by decide) (fun k hk => ?_) (by decide) (by decide)) t2, t3⟩
        rw [List.mem_singleton.mp hk]
        exact row_w _ (by omega)
theorem shl1 {k : Nat} (hk : k < 63) : (1 : Int64) <<< ((nI k).toInt64 &&& 63) = lN (2 ^ k) := by
  have := wb_shl 1 (k := k) (by omega)
  rw [Nat.one_mul] at this
  exact this
theorem grow_lp {P : Nat} {q : Nat → Bool} {S : Sto} (hP : P ≤ 60) (h23 : gi S 23 = nI P) (h : ∀ p, p < P → q p = decide (¬ ai S 300 p = 0)) : ∀ (m n k : Nat), k + m = P → m < n → F_Po_behind_224 n (lN (nb q k)) (nI k) S = some (lN (nb q P), S) := by
  intro m
  induction m with
  | zero =>
    intro n k hk hn
    obtain ⟨n, rfl⟩ : ∃ r, n = r + 1 := ⟨n - 1, by omega⟩
    have : k = P := by omega
    subst this
    rw [F_Po_behind_224, h23, if_pos (nI_le (by omega) (by omega))]
  | succ m ih =>
    intro n k hk hn
    obtain ⟨n, rfl⟩ : ∃ r, n = r + 1 := ⟨n - 1, by omega⟩
    have e := ih n (k + 1) (by omega) (by omega)
    have ek : nb q (k + 1) = nb q k ||| (if q k then 2 ^ k else 0) := rfl
    rw [ek] at e
    rw [F_Po_behind_224, h23, if_neg (nI_ge (by omega) (by omega)), (show (60 : Int32) = nI 60 from rfl), if_neg (nI_ge (by omega) (by omega)), ck_t (ib_nI (by omega) (by decide)), nI_clamp (by omega)]
    unfold F_Po_behind_261
    rw [shl1 (by omega), fb_orL, (show (1 : Int32) = nI 1 from rfl), nI_add]
    have e0 : ai S (300 + Int32.toNatClampNeg 0) k = ai S 300 k := rfl
    rw [e0]
    have hq := h k (by omega)
    by_cases w : ai S 300 k = 0
    · rw [if_pos w]
      rw [hq, decide_eq_false (fun r => r w), if_neg (by decide), Nat.or_zero] at e
      exact e
    · rw [if_neg w]
      rw [hq, decide_eq_true w, if_pos rfl] at e
      exact e
theorem behind_ok {Z : Zt} {x : Nat} {y : Int32} {S : Sto} (hz : ZOk Z) (hx : x < 4611686018427387904) (h : ZC Z S) : ∃ S', F_Po_behind (lN x) y S = some (lN (spw Z x y), S') ∧ Fr [] [] qc [] [] S S' := by
  obtain ⟨_, _, z3, z4, z5, z6, z7, _⟩ := h
  unfold F_Po_behind spw
  rw [z5]
  by_cases hs : zS Z = 0
  · rw [decide_eq_false (fun w => w hs), if_pos (show bI false = 0 from rfl), if_pos hs]
    exact ⟨S, rfl, Fr.rfl⟩
  · rw [decide_eq_true hs, if_neg (show ¬ bI true = 0 by decide), if_neg hs, z7]
    have fin : ∀ S1 : Sto, Fr [] [] qc [] [] S S1 → ((∃ i, i < zS Z ∧ zC Z i = 5) → ∀ p, p < zP Z → ai S1 45 p = nI (pco (zP Z) x (zP Z) p)) → ∃ S', F_Po_behind_33 (lN x) y S1 = some (lN (nb (grw Z x y) (zP Z)), S') ∧ Fr [] [] qc [] [] S S' := by
      intro S1 q1 q2
      have hR : RD Z S1 := RD_fr ⟨z4, z3, z6⟩ q1 (by decide)
      obtain ⟨S', s1, s2, s3⟩ := behind_lp (y := y) hz hx hs (zS Z) FU 0 S1 (Nat.zero_add _) (by rw [FU_v]; have := hz.2.2.2.1; omega) hR (fun p _ j hj => absurd hj (Nat.not_lt_zero j)) q2
      unfold F_Po_behind_33
      refine ⟨S', ?_, q1.trans s2⟩
      rw [(show (0 : Int32) = nI 0 from rfl)]
      refine s1.trans ?_
      unfold F_Po_behind_218
      exact grow_lp hz.2.2.1.2 (by rw [s2.gi _ (by decide)]; exact hR.2.1) (fun p hp => by rw [s3 p hp]; rfl) (zP Z) FU 0 (Nat.zero_add _) (by rw [FU_v]; have := hz.2.2.1.2; omega)
    by_cases h5 : ∃ i, i < zS Z ∧ zC Z i = 5
    · rw [decide_eq_true h5, if_neg (show ¬ bI true = 0 by decide), z3]
      obtain ⟨S1, s1, s2, s3⟩ := au_ok (P := zP Z) hx hz.2.2.1.2 S
      rw [s1, b2_s]
      exact fin S1 (s2.mono (by decide) (by decide) (by decide) (by decide) (by decide)) (fun _ => s3)
    · rw [decide_eq_false h5, if_pos (show bI false = 0 from rfl)]
      exact fin S Fr.rfl (fun h => absurd h h5)
