/-! ===== what a token is ===== -/
def wl (p : Nat) : List Nat := kTx.getD (p - 3000) []
def tkW (y : Nat → Nat) (b a k p : Nat) : Bool := decide (k = 1) && decide ((List.range (a - b)).map (fun i => y (b + i)) = wl p)
theorem wl_len : ∀ p, p < 3020 → 3000 ≤ p → (wl p).length ≤ 8 ∧ ∀ i, i < (wl p).length → (wl p).getD i 0 < 256 := by
  have h : (List.range 20).all (fun t => decide ((wl (3000 + t)).length ≤ 8) && (List.range (wl (3000 + t)).length).all (fun i => decide ((wl (3000 + t)).getD i 0 < 256))) = true := by decide +kernel
  intro p p1 p2
  have h2 := List.all_eq_true.mp h (p - 3000) (List.mem_range.mpr (by omega))
  rw [show 3000 + (p - 3000) = p by omega, Bool.and_eq_true, decide_eq_true_iff] at h2
  exact ⟨h2.1, fun i hi => of_decide_eq_true (List.all_eq_true.mp h2.2 i (List.mem_range.mpr hi))⟩
theorem map_eq {f : Nat → Nat} {l : List Nat} : (List.range l.length).map f = l ↔ ∀ i, i < l.length → f i = l.getD i 0 := by
  constructor
  · intro h i hi
    have h2 : ((List.range l.length).map f)[i]? = l[i]? := by rw [h]
    rw [List.getElem?_map, List.getElem?_range hi, Option.map_some, List.getElem?_eq_getElem hi] at h2
    rw [List.getD_eq_getElem?_getD, List.getElem?_eq_getElem hi]
    exact Option.some.inj h2
  · intro h
    apply List.ext_getElem?
    intro i
    rw [List.getElem?_map]
    by_cases hi : i < l.length
    · rw [List.getElem?_range hi, Option.map_some, List.getElem?_eq_getElem hi, h i hi, List.getD_eq_getElem?_getD, List.getElem?_eq_getElem hi]
      rfl
    · rw [List.getElem?_eq_none (by rw [List.length_range]; omega), List.getElem?_eq_none (by omega)]
      rfl
theorem tkW_iff {y : Nat → Nat} {b a k p : Nat} : tkW y b a k p = true ↔ k = 1 ∧ a - b = (wl p).length ∧ ∀ i, i < (wl p).length → y (b + i) = (wl p).getD i 0 := by
  unfold tkW
  rw [Bool.and_eq_true, decide_eq_true_iff, decide_eq_true_iff]
  constructor
  · rintro ⟨h1, h2⟩
    have h3 := congrArg List.length h2
    rw [List.length_map, List.length_range] at h3
    rw [h3] at h2
    exact ⟨h1, h3, map_eq.mp h2⟩
  · rintro ⟨h1, h3, h4⟩
    rw [h3]
    exact ⟨h1, map_eq.mpr h4⟩
theorem tkW_ne {y : Nat → Nat} {b a k p q : Nat} (h : tkW y b a k p = true) (hn : wl p ≠ wl q) : tkW y b a k q = false := by
  cases w : tkW y b a k q
  · rfl
  · unfold tkW at h w
    rw [Bool.and_eq_true, decide_eq_true_iff, decide_eq_true_iff] at h w
    exact absurd (h.2.symm.trans w.2) hn
theorem tkW_k {y : Nat → Nat} {b a k p : Nat} (h : k ≠ 1) : tkW y b a k p = false := by
  unfold tkW
  rw [decide_eq_false h]
  rfl
def wq (y : Nat → Nat) (b p : Nat) : Nat → Nat → Bool
  | _, 0 => true
  | i, j + 1 => decide (y (b + i) = (wl p).getD i 0) && wq y b p (i + 1) j
theorem wq_iff {y : Nat → Nat} {b p : Nat} : ∀ j i, wq y b p i j = true ↔ ∀ i2, i ≤ i2 → i2 < i + j → y (b + i2) = (wl p).getD i2 0 := by
  intro j
  induction j with
  | zero => intro i; exact ⟨fun _ i2 h1 h2 => (by omega), fun _ => rfl⟩
  | succ j ih =>
    intro i
    rw [wq, Bool.and_eq_true, decide_eq_true_iff, ih]
    constructor
    · rintro ⟨h1, h2⟩ i2 i3 i4
      by_cases w : i2 = i
      · rw [w]; exact h1
      · exact h2 i2 (by omega) (by omega)
    · intro h
      exact ⟨h i (Nat.le_refl _) (by omega), fun i2 i3 i4 => h i2 (by omega) (by omega)⟩
theorem wq_w {y : Nat → Nat} {b a k p : Nat} (hk : k = 1) (hl : a - b = (wl p).length) : wq y b p 0 (wl p).length = tkW y b a k p := by
  rw [Bool.eq_iff_iff, wq_iff, tkW_iff]
  exact ⟨fun z => ⟨hk, hl, fun i hi => z i (Nat.zero_le _) (by omega)⟩, fun z i _ hi => z.2.2 i (by omega)⟩
section
variable {y : Nat → Nat} {n b a k : Nat} {S T M U : Sto}
theorem Tk.fr {c1 c2 c3 c4 c5 d1 d2 d3 d4 d5 : List Nat} (h : Tk y n b a k S M) (q : Fr c1 c2 c3 c4 c5 S T) (r : Fr d1 d2 d3 d4 d5 M U) (h1 : 9 ∉ c1 ∧ 10 ∉ c1 ∧ 11 ∉ c1 ∧ 12 ∉ c1 ∧ 13 ∉ c1 ∧ 14 ∉ c1 ∧ 15 ∉ c1 ∧ 16 ∉ c1 ∧ 8 ∉ c1) (h2 : 2 ∉ c3) (h3 : 1004 ∉ d1 ∧ 1005 ∉ d1 ∧ 1006 ∉ d1 ∧ 1007 ∉ d1 ∧ 1008 ∉ d1 ∧ 1009 ∉ d1 ∧ 1010 ∉ d1 ∧ 1012 ∉ d1) (h4 : 1011 ∉ d3) : Tk y n b a k T U := by
  obtain ⟨t1, t2, t3, t4, t5, t6, t7, t8, t9, t10, t11, t12, t13⟩ := h
  refine ⟨t1.fr q ⟨h1.2.1, h1.2.2.2.2.2.2.2.2⟩ h2, t2.fr r ⟨h3.2.1, h3.2.2.2.2.2.2.2⟩ h4, ?_, ?_, ?_, ?_, ?_, ?_, ?_, ?_, t11, t12, ?_⟩
  · rw [q.gi 9 h1.1]; exact t3
  · rw [r.gi 1010 h3.2.2.2.2.2.2.1]; exact t4
  · rw [q.gi 11 h1.2.2.1]; exact t5
  · rw [r.gi 1004 h3.1]; exact t6
  · rw [r.gi 1009 h3.2.2.2.2.2.1]; exact t7
  · rw [q.gi 13 h1.2.2.2.2.1]; exact t8
  · rw [r.gi 1008 h3.2.2.2.2.1]; exact t9
  · rw [q.gi 12 h1.2.2.2.1]; exact t10
  · rw [r.gi 1006 h3.2.2.1, q.gi 16 h1.2.2.2.2.2.2.2.1, q.gi 15 h1.2.2.2.2.2.2.1, r.gi 1007 h3.2.2.2.1, q.gi 14 h1.2.2.2.2.2.1]
    exact t13
theorem Tk.k3 (h : Tk y n b a k S M) : k ≤ 3 := by
  obtain ⟨_, _, _, _, _, _, _, _, _, _, _, _, t13⟩ := h
  omega
theorem Tk.ba (h : Tk y n b a k S M) : b ≤ a ∧ (k ≠ 0 → b < a) ∧ a ≤ n ∧ n ≤ 500 := by
  obtain ⟨t1, _, _, _, _, _, _, _, _, _, _, t12, t13⟩ := h
  have := t1.1
  refine ⟨?_, ?_, t12, this⟩ <;> omega
theorem Tk.go (h : Tk y n b a k S M) : ∃ b2 a2 k2 S' M', F_Rd_nextToken S = some ((), S') ∧ F_m_stepOn M = some ((), M') ∧ lC S S' ∧ lM M M' ∧ a ≤ b2 ∧ Tk y n b2 a2 k2 S' M' := by
  obtain ⟨t1, t2, t3, t4, t5, t6, t7, t8, t9, t10, t11, t12, t13⟩ := h
  exact step_ok t1 t2 t12 t3 t4 t5 t6
theorem k3I {k q : Nat} (hk : k ≤ 3) (hq : q ≤ 3) : (nI k = nI q) = (k = q) := eq_nI (by omega) (by omega)
theorem wl_C {p : Nat} (hp : 3000 ≤ p) (hp2 : p < 3020) (hC : LxC y n S) (h13 : gi S 13 = nI b) (hb : b + (wl p).length ≤ n) : ∀ (j f i : Nat), i + j = (wl p).length → j < f → F_Rd_isWord_28 f p (nI i) S = some (bI (wq y b p i j)) := by
  have hl := wl_len p hp2 hp
  have hs : stl p = (wl p).length := rfl
  have h5 := hC.1
  intro j
  induction j with
  | zero =>
    intro f i hi hf
    obtain ⟨f, rfl⟩ : ∃ q, f = q + 1 := ⟨f - 1, by omega⟩
    rw [F_Rd_isWord_28, show sln p = nI (wl p).length from rfl, if_pos (nI_le (by omega) (by omega))]
    rfl
  | succ j ih =>
    intro f i hi hf
    obtain ⟨f, rfl⟩ : ∃ q, f = q + 1 := ⟨f - 1, by omega⟩
    have hyb := (hC.2.2.1 (b + i) (by omega)).2
    have hw := hl.2 i (by omega)
    rw [F_Rd_isWord_28, show sln p = nI (wl p).length from rfl, if_neg (nI_ge (by omega) (by omega)), h13, nI_add, byC hC (by omega), b1_s, ck_t (ib_nI (show i < stl p by show i < (wl p).length; omega) (by omega)), show sch p (nI i) = nI ((wl p).getD i 0) by unfold sch; rw [nI_clamp (by omega)]; rfl, show nI i + (1 : Int32) = nI (i + 1) from nI_add i 1]
    by_cases q : y (b + i) = (wl p).getD i 0
    · rw [if_pos (by rw [q]), ih f (i + 1) (by omega) (by omega), wq, decide_eq_true q, Bool.true_and]
    · rw [if_neg (by rw [eq_nI (by omega) (by omega)]; exact q), wq, decide_eq_false q, Bool.false_and]
      rfl
theorem isWC (h : Tk y n b a k S M) {p : Nat} (hp : 3000 ≤ p) (hp2 : p < 3020) : F_Rd_isWord p S = some (bI (tkW y b a k p)) := by
  have hba := h.ba
  have hk := h.k3
  have hl := wl_len p hp2 hp
  have hs : stl p = (wl p).length := rfl
  obtain ⟨t1, t2, t3, t4, t5, t6, t7, t8, t9, t10, t11, t12, t13⟩ := h
  unfold F_Rd_isWord
  rw [t10, t5, t8, sub_nI hba.1, show sln p = nI (wl p).length from rfl, (show (1 : Int32) = nI 1 from rfl)]
  by_cases q : k = 1
  · rw [if_pos (by rw [q])]
    by_cases w : a - b = (wl p).length
    · rw [if_pos (by rw [w]), (show (0 : Int32) = nI 0 from rfl), wl_C hp hp2 t1 t8 (by omega) (wl p).length FU 0 (Nat.zero_add _) (by rw [FU_v]; omega), wq_w q w]
    · rw [if_neg (by rw [eq_nI (by omega) (by omega)]; exact w)]
      have : tkW y b a k p = false := by
        cases z : tkW y b a k p
        · rfl
        · exact absurd (tkW_iff.mp z).2.1 w
      rw [this]; rfl
  · rw [if_neg (by rw [k3I hk (by decide)]; exact q), tkW_k q]; rfl
theorem is_0 {p : Nat} {v : Int32} (f : Nat) : F_m_is_39 (f + 1) p 0 v M = some (bI false) := by
  rw [F_m_is_39, if_pos rfl, ck_t (by decide)]
  rfl
theorem is35 (p : Nat) (M : Sto) : F_m_is_35 p M = some (bI false) := by
  show F_m_is_39 (1099511627775 + 1) p 0 0 M = _
  exact is_0 _
theorem wl_M {p : Nat} (hp : 3000 ≤ p) (hp2 : p < 3020) (hM : LxM y n M) (h8 : gi M 1008 = nI b) (hb : b + (wl p).length ≤ n) : ∀ (j f i : Nat), i + j = (wl p).length → j + 1 < f → F_m_is_39 f p (nI 1) (nI i) M = some (bI (wq y b p i j)) := by
  have hl := wl_len p hp2 hp
  have hs : stl p = (wl p).length := rfl
  have h5 := hM.1
  intro j
  induction j with
  | zero =>
    intro f i hi hf
    obtain ⟨f, rfl⟩ : ∃ q, f = q + 1 := ⟨f - 1, by omega⟩
    rw [F_m_is_39, if_neg (show ¬ nI 1 = 0 by decide), show sln p = nI (wl p).length from rfl, if_pos (nI_le (by omega) (by omega)), ck_t (by decide)]
    rfl
  | succ j ih =>
    intro f i hi hf
    obtain ⟨f, rfl⟩ : ∃ q, f = q + 1 + 1 := ⟨f - 2, by omega⟩
    have hyb := (hM.2.2.1 (b + i) (by omega)).2
    have hw := hl.2 i (by omega)
    rw [F_m_is_39, if_neg (show ¬ nI 1 = 0 by decide), show sln p = nI (wl p).length from rfl, if_neg (nI_ge (by omega) (by omega)), ck_t (ib_nI (show i < stl p by show i < (wl p).length; omega) (by omega)), h8, nI_add, ck_t (ib_nI (by omega) (by omega)), nI_clamp (by omega), (hM.2.2.1 (b + i) (by omega)).1, show sch p (nI i) = nI ((wl p).getD i 0) by unfold sch; rw [nI_clamp (by omega)]; rfl]
    unfold F_m_is_75
    rw [show nI i + (1 : Int32) = nI (i + 1) from nI_add i 1]
    by_cases q : y (b + i) = (wl p).getD i 0
    · rw [if_pos (by rw [q]), (show (1 : Int32) = nI 1 from rfl), ih (f + 1) (i + 1) (by omega) (by omega), wq, decide_eq_true q, Bool.true_and]
    · rw [if_neg (by rw [eq_nI (by omega) (by omega)]; exact fun z => q z.symm), is_0, wq, decide_eq_false q, Bool.false_and]
theorem isWM (h : Tk y n b a k S M) {p : Nat} (hp : 3000 ≤ p) (hp2 : p < 3020) : F_m_is p M = some (bI (tkW y b a k p)) := by
  have hba := h.ba
  have hl := wl_len p hp2 hp
  have hs : stl p = (wl p).length := rfl
  obtain ⟨t1, t2, t3, t4, t5, t6, t7, t8, t9, t10, t11, t12, t13⟩ := h
  unfold F_m_is
  rw [if_pos t4, t7, t9, sub_nI hba.1, show sln p = nI (wl p).length from rfl, is35]
  by_cases q : k = 1
  · have e6 : gi M 1006 = 1 := by
      rcases t13 with w | w | w | w
      · omega
      · exact w.2.1
      · omega
      · omega
    rw [if_pos e6]
    by_cases w : a - b = (wl p).length
    · unfold F_m_is_36
      rw [if_pos (by rw [w]), (show (0 : Int32) = nI 0 from rfl), (show (1 : Int32) = nI 1 from rfl), wl_M hp hp2 t2 t9 (by omega) (wl p).length FU 0 (Nat.zero_add _) (by rw [FU_v]; omega), wq_w q w]
    · rw [if_neg (by rw [eq_nI (by omega) (by omega)]; exact fun z => w z.symm)]
      have : tkW y b a k p = false := by
        cases z : tkW y b a k p
        · rfl
        · exact absurd (tkW_iff.mp z).2.1 w
      rw [this]
  · have e6 : ¬ gi M 1006 = 1 := by
      rcases t13 with w | w | w | w
      · rw [w.2.1]; decide
      · omega
      · rw [w.2.1]; decide
      · rw [w.2.2.2]; split <;> decide
    rw [if_neg e6, tkW_k q]
/-- whether a token is a sign -/
def sg (y : Nat → Nat) (b k c : Nat) : Bool := decide (k = 3 ∧ y b = c)
theorem isSC (h : Tk y n b a k S M) {c : Nat} (hc : c < 256) : F_Rd_isSign (nI c) S = some (bI (sg y b k c)) := by
  have hk := h.k3
  have hba := h.ba
  obtain ⟨t1, t2, t3, t4, t5, t6, t7, t8, t9, t10, t11, t12, t13⟩ := h
  unfold F_Rd_isSign sg
  rw [t10, (show (3 : Int32) = nI 3 from rfl)]
  by_cases q : k = 3
  · rw [if_pos (by rw [q])]
    have e14 : gi S 14 = nI (y b) := by
      rcases t13 with w | w | w | w
      · omega
      · omega
      · omega
      · exact w.2.2.1
    have hyb := (t1.2.2.1 b (by omega)).2
    rw [e14]
    by_cases w : y b = c
    · rw [if_pos (by rw [w]), decide_eq_true ⟨q, w⟩]; rfl
    · rw [if_neg (by rw [eq_nI (by omega) (by omega)]; exact w), decide_eq_false (fun z => w z.2)]; rfl
  · rw [if_neg (by rw [k3I hk (by decide)]; exact q), decide_eq_false (fun z => q z.1)]; rfl
theorem isSM (h : Tk y n b a k S M) {c : Nat} (hm : isMk c = true) (hc : c < 256) : F_m_isMarked (nI c) M = some (bI (sg y b k c)) := by
  have hk := h.k3
  have hba := h.ba
  obtain ⟨t1, t2, t3, t4, t5, t6, t7, t8, t9, t10, t11, t12, t13⟩ := h
  unfold F_m_isMarked sg
  rw [if_pos t4]
  by_cases q : k = 3
  · have hyb := (t1.2.2.1 b (by omega)).2
    have e6 : gi M 1006 = if isMk (y b) = true then 3 else 4 := by
      rcases t13 with w | w | w | w
      · omega
      · omega
      · omega
      · exact w.2.2.2
    rw [e6]
    by_cases z : isMk (y b) = true
    · rw [if_pos z, if_pos rfl, t9, ck_t (ib_nI (by omega) (by omega)), nI_clamp (by omega), (t2.2.2.1 b (by omega)).1]
      by_cases w : y b = c
      · rw [if_pos (by rw [w]), decide_eq_true ⟨q, w⟩]; rfl
      · rw [if_neg (by rw [eq_nI (by omega) (by omega)]; exact w), decide_eq_false (fun z => w z.2)]; rfl
    · rw [if_neg z, if_neg (by decide), decide_eq_false (fun w => z (by rw [w.2]; exact hm))]; rfl
  · have e6 : ¬ gi M 1006 = 3 := by
      rcases t13 with w | w | w | w
      · rw [w.2.1]; decide
      · rw [w.2.1]; decide
      · rw [w.2.1]; decide
      · omega
    rw [if_neg e6, decide_eq_false (fun z => q z.1)]; rfl
/-! faults -/
def Dd (S M : Sto) : Prop := ∃ e : Nat, 1 ≤ e ∧ e ≤ 6 ∧ gi S 9 = nI e ∧ gi M 1010 = nI e ∧ gi S 8 = gi M 1011
theorem Dd.c (h : Dd S M) : ¬ gi S 9 = 0 := by
  obtain ⟨e, e1, e2, e3, _⟩ := h
  rw [e3, (show (0 : Int32) = nI 0 from rfl), eq_nI (by omega) (by decide)]
  omega
theorem Dd.m (h : Dd S M) : ¬ gi M 1010 = 0 := by
  obtain ⟨e, e1, e2, _, e3, _⟩ := h
  rw [e3, (show (0 : Int32) = nI 0 from rfl), eq_nI (by omega) (by decide)]
  omega
theorem Dd.fr {c1 c2 c3 c4 c5 d1 d2 d3 d4 d5 : List Nat} (h : Dd S M) (q : Fr c1 c2 c3 c4 c5 S T) (r : Fr d1 d2 d3 d4 d5 M U) (h1 : 9 ∉ c1 ∧ 8 ∉ c1) (h2 : 1010 ∉ d1 ∧ 1011 ∉ d1) : Dd T U := by
  obtain ⟨e, e1, e2, e3, e4, e5⟩ := h
  refine ⟨e, e1, e2, ?_, ?_, ?_⟩
  · rw [q.gi 9 h1.1]; exact e3
  · rw [r.gi 1010 h2.1]; exact e4
  · rw [q.gi 8 h1.2, r.gi 1011 h2.2]; exact e5
abbrev fC (S T : Sto) : Prop := Fr [8, 9] [] [] [] [] S T
abbrev fM (S T : Sto) : Prop := Fr [1010, 1011] [] [] [] [] S T
theorem Tk.bad (h : Tk y n b a k S M) {e : Nat} (h1 : 1 ≤ e) (h2 : e ≤ 6) : ∃ S' M', F_Rd_fail (nI e) S = some ((), S') ∧ F_m_wrong (nI e) M = some ((), M') ∧ fC S S' ∧ fM M M' ∧ Dd S' M' := by
  obtain ⟨t1, t2, t3, t4, t5, t6, t7, t8, t9, t10, t11, t12, t13⟩ := h
  refine ⟨si (si S 9 (nI e)) 8 (gi S 13), si (si M 1010 (nI e)) 1011 (gi M 1008), ?_, ?_, (Fr.rfl.si (by decide)).si (by decide), (Fr.rfl.si (by decide)).si (by decide), e, h1, h2, rfl, rfl, ?_⟩
  · unfold F_Rd_fail
    rw [if_pos t3]
    rfl
  · unfold F_m_wrong
    rw [if_pos t4]
    rfl
  · show gi S 13 = gi M 1008
    rw [t8, t9]
abbrev eC (S T : Sto) : Prop := Fr [8, 9, 11, 12, 13, 14, 15, 16] [] [] [] [] S T
abbrev eM (S T : Sto) : Prop := Fr [1004, 1006, 1007, 1008, 1009, 1010, 1011] [] [] [] [] S T
theorem lC.e (h : lC S T) : eC S T := h.mono (by decide) (by decide) (by decide) (by decide) (by decide)
theorem lM.e (h : lM S T) : eM S T := h.mono (by decide) (by decide) (by decide) (by decide) (by decide)
theorem fC.e (h : fC S T) : eC S T := h.mono (by decide) (by decide) (by decide) (by decide) (by decide)
theorem fM.e (h : fM S T) : eM S T := h.mono (by decide) (by decide) (by decide) (by decide) (by decide)
/-- a number that is asked for -/
theorem num_ok (h : Tk y n b a k S M) {lo hi : Nat} (hl : lo ≤ 10000) (hh : hi ≤ 9999) : ∃ r r' S' M', F_Rd_expectNumber (nI lo) (nI hi) S = some (r, S') ∧ F_m_readNumber (nI lo) (nI hi) M = some (r', M') ∧ eC S S' ∧ eM M M' ∧
    ((∃ v b2 a2 k2, lo ≤ v ∧ v ≤ hi ∧ r = nI v ∧ r' = nI v ∧ b < b2 ∧ Tk y n b2 a2 k2 S' M') ∨ (r' = 0 ∧ Dd S' M')) := by
  have hk := h.k3
  have hba := h.ba
  have h' := h
  obtain ⟨t1, t2, t3, t4, t5, t6, t7, t8, t9, t10, t11, t12, t13⟩ := h
  have wrong : ∀ e, 1 ≤ e → e ≤ 6 → ∃ r r' S' M', b2 (F_Rd_fail (nI e) S) (fun r1 S3 => F_Rd_expectNumber_45 S3) = some (r, S') ∧ b2 (b2 (F_m_wrong (nI e) M) (fun r1 M3 => F_m_numberNow_59 M3)) (fun r1 M3 => if (gi M3 1010) = 0 then b2 (F_m_stepOn M3) (fun r4 M6 => some (r1, M6)) else some (r1, M3)) = some (r', M') ∧ eC S S' ∧ eM M M' ∧
    ((∃ v b2 a2 k2, lo ≤ v ∧ v ≤ hi ∧ r = nI v ∧ r' = nI v ∧ b < b2 ∧ Tk y n b2 a2 k2 S' M') ∨ (r' = 0 ∧ Dd S' M')) := by
    intro e e1 e2
    obtain ⟨S', M', s1, m1, s2, m2, hd⟩ := h'.bad e1 e2
    refine ⟨gi S' 15, 0, S', M', ?_, ?_, s2.e, m2.e, Or.inr ⟨rfl, hd⟩⟩
    · rw [s1, b2_s]
      unfold F_Rd_expectNumber_45
      rw [if_neg hd.c]
    · rw [m1, b2_s]
      unfold F_m_numberNow_59
      rw [if_neg hd.m, b2_s, if_neg hd.m]
  unfold F_Rd_expectNumber F_m_readNumber F_m_numberNow
  rw [if_pos t4, t10, (show (2 : Int32) = nI 2 from rfl)]
  by_cases q : k = 2
  · have hh2 : gi M 1006 = 2 ∧ b < a ∧ gi S 16 = nI (a - b) ∧ (a - b ≤ 4 → ∃ v, v ≤ 9999 ∧ gi S 15 = nI v ∧ gi M 1007 = nI v) := by
      rcases t13 with w | w | w | w
      · omega
      · omega
      · exact w.2
      · omega
    obtain ⟨e6, e7, e16, ev⟩ := hh2
    rw [if_pos (by rw [q]), if_pos (show gi M 1006 = nI 2 from e6), e16, t7, t9, sub_nI hba.1, (show (4 : Int32) = nI 4 from rfl)]
    by_cases w : a - b ≤ 4
    · obtain ⟨v, v1, v2, v3⟩ := ev w
      have w2 : ¬ (nI 4 < nI (a - b)) := by rw [lt_nI (by decide) (by omega)]; omega
      rw [if_neg w2, if_neg w2, v2, v3]
      by_cases u1 : v < lo
      · rw [if_pos (nI_lt u1 (by omega)), if_pos (nI_lt u1 (by omega))]
        exact wrong 2 (by decide) (by decide)
      · have u2 : ¬ (nI v < nI lo) := by rw [lt_nI (by omega) (by omega)]; omega
        rw [if_neg u2, if_neg u2]
        by_cases u3 : v ≤ hi
        · rw [if_pos (nI_le u3 (by omega)), if_pos (nI_le u3 (by omega))]
          obtain ⟨b2', a2, k2, S', M', s1, m1, s2, m2, p1, p2⟩ := h'.go
          refine ⟨nI v, nI v, S', M', ?_, ?_, s2.e, m2.e, Or.inl ⟨v, b2', a2, k2, by omega, u3, rfl, rfl, by omega, p2⟩⟩
          · unfold F_Rd_expectNumber_45
            rw [if_pos t3, s1, b2_s, v2]
          · unfold F_m_numberNow_59
            rw [if_pos t4, b2_s, v3, if_pos t4, m1, b2_s]
        · rw [if_neg (nI_ge (by omega) (by omega)), if_neg (nI_ge (by omega) (by omega))]
          exact wrong 2 (by decide) (by decide)
    · have w2 : nI 4 < nI (a - b) := nI_lt (by omega) (by omega)
      rw [if_pos w2, if_pos w2]
      exact wrong 2 (by decide) (by decide)
  · have e6 : ¬ gi M 1006 = nI 2 := by
      rcases t13 with w | w | w | w
      · rw [w.2.1]; decide
      · rw [w.2.1]; decide
      · omega
      · rw [w.2.2.2]; split <;> decide
    rw [if_neg (by rw [k3I hk (by decide)]; exact q), if_neg e6]
    exact wrong 1 (by decide) (by decide)
theorem mk_20 (h : gi M 1010 = 0) {M' : Sto} (g : F_m_stepOn M = some ((), M')) : F_m_mark_20 M = some ((), M') := by
  unfold F_m_mark_20
  rw [if_pos h, g, b2_s]
theorem mark_ok (h : Tk y n b a k S M) {c : Nat} (hm : isMk c = true) (hc : c < 256) : ∃ S' M', F_Rd_expectSign (nI c) S = some ((), S') ∧ F_m_mark (nI c) M = some ((), M') ∧ eC S S' ∧ eM M M' ∧ ((∃ b2 a2 k2, b < b2 ∧ Tk y n b2 a2 k2 S' M') ∨ Dd S' M') := by
  have h' := h
  have hba := h.ba
  have e1 := isSC h hc
  have e2 := isSM h hm hc
  unfold F_Rd_expectSign F_m_mark
  rw [e1, b1_s, e2, b1_s, if_pos h.2.2.2.1]
  cases q : sg y b k c
  · rw [if_pos (show bI false = 0 from rfl), if_pos (show bI false = 0 from rfl)]
    obtain ⟨S', M', s1, m1, s2, m2, hd⟩ := h'.bad (e := 1) (by decide) (by decide)
    refine ⟨S', M', ?_, ?_, s2.e, m2.e, Or.inr hd⟩
    · rw [(show (1 : Int32) = nI 1 from rfl), s1, b2_s]
    · rw [(show (1 : Int32) = nI 1 from rfl), m1, b2_s]
      unfold F_m_mark_20
      rw [if_neg hd.m]
  · rw [if_neg (show ¬ bI true = 0 by decide), if_neg (show ¬ bI true = 0 by decide)]
    obtain ⟨b2', a2, k2, S', M', s1, m1, s2, m2, p1, p2⟩ := h'.go
    have hk : k = 3 := by
      unfold sg at q
      exact (of_decide_eq_true q).1
    refine ⟨S', M', ?_, mk_20 h.2.2.2.1 m1, s2.e, m2.e, Or.inl ⟨b2', a2, k2, by omega, p2⟩⟩
    rw [s1, b2_s]
/-! the model behind a fault -/
theorem md_mark (h : ¬ gi M 1010 = 0) (c : Int32) : F_m_mark c M = some ((), M) := by
  unfold F_m_mark F_m_mark_20
  rw [if_neg h, if_neg h]
theorem md_lay (h : ¬ gi M 1010 = 0) (c : Int32) : F_m_lay c M = some ((), M) := by
  unfold F_m_lay
  rw [if_neg h]
theorem md_num (h : ¬ gi M 1010 = 0) (c d : Int32) : F_m_readNumber c d M = some (0, M) := by
  unfold F_m_readNumber F_m_numberNow
  rw [if_neg h, b2_s, if_neg h]
theorem md_is (h : ¬ gi M 1010 = 0) (p : Nat) : F_m_is p M = some (bI false) := by
  unfold F_m_is
  rw [if_neg h, is35]
theorem md_isM (h : ¬ gi M 1010 = 0) (c : Int32) : F_m_isMarked c M = some (bI false) := by
  unfold F_m_isMarked
  rw [if_neg h]
  rfl
theorem md_wrong (h : ¬ gi M 1010 = 0) (c : Int32) : F_m_wrong c M = some ((), M) := by
  unfold F_m_wrong
  rw [if_neg h]
end
