/-! ===== the state of the class and of the model, and what ties them ===== -/
abbrev Snap : Type := Nat × Nat × Nat × Nat × Int32
abbrev Scn : Type := Snap × (Nat × (Nat → Snap)) × (Nat × (Nat → Nat) × (Nat → Bool)) × (Nat × (Nat → Nat)) × (Nat → Int32)
abbrev Zt : Type := (Nat × (Nat → Nat × Nat × Nat × Nat × Nat)) × Nat × (Nat × (Nat → Nat × Nat))
abbrev Tp : Type := Nat × (Nat → Nat)
def zN (Z : Zt) : Nat := Z.1.1
def zK (Z : Zt) (i : Nat) : Nat := (Z.1.2 i).1
def zM (Z : Zt) (i : Nat) : Nat := (Z.1.2 i).2.1
def zR (Z : Zt) (i : Nat) : Nat := (Z.1.2 i).2.2.1
def zF (Z : Zt) (i : Nat) : Nat := (Z.1.2 i).2.2.2.1
def zT (Z : Zt) (i : Nat) : Nat := (Z.1.2 i).2.2.2.2
def zP (Z : Zt) : Nat := Z.2.1
def zS (Z : Zt) : Nat := Z.2.2.1
def zC (Z : Zt) (i : Nat) : Nat := (Z.2.2.2 i).1
def zV (Z : Zt) (i : Nat) : Nat := (Z.2.2.2 i).2
/-- a number is caught by a net -/
def catB (Z : Zt) (i v : Nat) : Bool := decide (zF Z i ≤ v) && (decide (v ≤ zT Z i) && decide (v % zM Z i = zR Z i))
/-- how many rows are in use behind i steps of the rule; none: it fails -/
def dep (cd : Nat → Nat) : Nat → Option Nat
  | 0 => some 0
  | i + 1 => match dep cd i with
    | none => none
    | some d => if cd i < 8 then (if d < 32 then some (d + 1) else none) else if cd i = 8 then (if 0 < d then some d else none) else (if 1 < d then some (d - 1) else none)
def ZOk (Z : Zt) : Prop := zN Z ≤ 8 ∧ (∀ i, i < zN Z → zK Z i ≤ 4 ∧ 1 ≤ zM Z i ∧ zM Z i ≤ 2097152 ∧ zR Z i < zM Z i ∧ 1 ≤ zF Z i ∧ zF Z i ≤ zT Z i ∧ zT Z i ≤ 1000000000000) ∧
  (2 ≤ zP Z ∧ zP Z ≤ 60) ∧ zS Z ≤ 500 ∧ (∀ i, i < zS Z → zC Z i ≤ 16 ∧ zV Z i ≤ 9999) ∧ (zS Z ≠ 0 → dep (zC Z) (zS Z) = some 1)
def sgn (c v : Nat) : Int32 := if c = 0 then nI v else if c < 8 then zI (-(c : Int)) else if c = 8 then -28 else if c = 9 then -27 else if c = 10 then -26 else if c = 11 then -24 else if c = 12 then -25 else if c = 13 then -20 else if c = 14 then -21 else if c = 15 then -22 else -23
/-- the shares of a set: what they say of a number up to 10 to the power of 12 -/
def shOk (Z : Zt) (s : Nat) (g r f t : Nat) : Prop := (1 ≤ f ∧ f ≤ 1000000000000) ∧ t ≤ 1000000000000 ∧ g ≤ 2097152000000000000 ∧ (g = 0 ∨ r < g) ∧
  ∀ v, 1 ≤ v → v ≤ 1000000000000 → ((∀ i, i < zN Z → s.testBit i = true → catB Z i v = true) ↔ f ≤ v ∧ v ≤ t ∧ g ≠ 0 ∧ v % g = r)
def ShC (Z : Zt) (S : Sto) : Prop := gi S 25 = nI (2 ^ zN Z) ∧ ∀ s, s < 2 ^ zN Z → ∃ g r f t : Nat, al S 22 s = lN g ∧ al S 23 s = lN r ∧ al S 24 s = lN f ∧ al S 25 s = lN t ∧ shOk Z s g r f t
def ZC (Z : Zt) (S : Sto) : Prop := gi S 22 = nI (zN Z) ∧ (∀ i, i < zN Z → ai S 13 i = nI (zK Z i) ∧ al S 14 i = lN (zM Z i) ∧ al S 15 i = lN (zR Z i) ∧ al S 16 i = lN (zF Z i) ∧ al S 17 i = lN (zT Z i)) ∧
  gi S 23 = nI (zP Z) ∧ gi S 19 = nI (zS Z) ∧ gi S 20 = bI (decide (zS Z ≠ 0)) ∧ (∀ i, i < zS Z → ai S 19 i = nI (zC Z i) ∧ ai S 20 i = nI (zV Z i)) ∧ gi S 21 = bI (decide (∃ i, i < zS Z ∧ zC Z i = 5)) ∧ ShC Z S
def ZM (Z : Zt) (M : Sto) : Prop := ai M 1003 0 = nI (zN Z) ∧ ai M 1003 1 = nI (zP Z) ∧ ai M 1003 2 = nI (zS Z) ∧
  (∀ i, i < zN Z → ai M 1004 i = nI (zK Z i) ∧ al M 1009 i = lN (zM Z i) ∧ al M 1010 i = lN (zR Z i) ∧ (∃ q, q ≤ 9999 ∧ ai M 1005 i = nI q ∧ zF Z i = if q = 0 then 1 else q) ∧ (∃ q, q ≤ 9999 ∧ ai M 1006 i = nI q ∧ zT Z i = if q = 0 then 1000000000000 else q)) ∧
  (∀ i, i < zS Z → ai M 1007 i = sgn (zC Z i) (zV Z i))
/-! a scene -/
def sLo (c : Scn) : Nat := c.1.1
def sHi (c : Scn) : Nat := c.1.2.1
def sLw (c : Scn) : Nat := c.1.2.2.1
def sPd (c : Scn) : Nat := c.1.2.2.2.1
def sYs (c : Scn) : Int32 := c.1.2.2.2.2
def sA (c : Scn) : Nat := c.2.1.1
def sAc (c : Scn) : Nat → Snap := c.2.1.2
def sW (c : Scn) : Nat := c.2.2.1.1
def sWn (c : Scn) : Nat → Nat := c.2.2.1.2.1
def sWb (c : Scn) : Nat → Bool := c.2.2.1.2.2
def sE (c : Scn) : Nat := c.2.2.2.1.1
def sEn (c : Scn) : Nat → Nat := c.2.2.2.1.2
def sSt (c : Scn) : Nat → Int32 := c.2.2.2.2
def SnOk (Z : Zt) (q : Snap) : Prop := 1 ≤ q.1 ∧ q.1 ≤ q.2.1 ∧ q.2.1 ≤ 1000000000000 ∧ q.2.2.1 < 2 ^ zN Z ∧ q.2.2.2.1 < 2 ^ zP Z
def wCt (wb : Nat → Bool) (W : Nat) : Nat := fb_ct wb W
def ScOk (Z : Zt) (c : Scn) : Prop := SnOk Z c.1 ∧ sA c ≤ 40 ∧ (∀ i, i < sA c → SnOk Z (sAc c i)) ∧ sW c ≤ 12 ∧ (∀ i, i < sW c → 1 ≤ sWn c i ∧ sWn c i ≤ 1000000000000) ∧ sE c ≤ 12 ∧ (∀ i, i < sE c → 1 ≤ sEn c i ∧ sEn c i ≤ 1000000000000)
/-- an act of the class: what it keeps leads from the scene behind it to the one ahead -/
def Dif (k : Int32) (f s : Int64) (p q : Snap) : Prop :=
  (k = nI 0 ∧ f = lN p.1 ∧ s = lN p.2.1 ∧ p.2.2 = q.2.2) ∨
  (k = nI 1 ∧ f = lN p.2.2.1 ∧ p.1 = q.1 ∧ p.2.1 = q.2.1 ∧ p.2.2.2 = q.2.2.2) ∨
  (k = nI 2 ∧ f = lN p.2.2.2.1 ∧ s = p.2.2.2.2.toInt64 ∧ p.1 = q.1 ∧ p.2.1 = q.2.1 ∧ p.2.2.1 = q.2.2.1)
def nxt (c : Scn) (i : Nat) : Snap := if i + 1 < sA c then sAc c (i + 1) else c.1
def ScC (o : Nat) (c : Scn) (S : Sto) : Prop := gl S (26 + 8 * o) = lN (sLo c) ∧ gl S (27 + 8 * o) = lN (sHi c) ∧ gi S (28 + 8 * o) = nI (sLw c) ∧ gl S (29 + 8 * o) = lN (sPd c) ∧ gi S (30 + 8 * o) = sYs c ∧
  gi S (31 + 8 * o) = nI (sA c) ∧ (∀ i, i < sA c → Dif (ai S (28 + 8 * o) i) (al S (29 + 8 * o) i) (al S (30 + 8 * o) i) (sAc c i) (nxt c i)) ∧
  gi S (32 + 8 * o) = nI (sW c) ∧ (∀ i, i < sW c → al S (31 + 8 * o) i = lN (sWn c i) ∧ ai S (32 + 8 * o) i = bI (sWb c i)) ∧
  gi S (33 + 8 * o) = nI (sE c) ∧ (∀ i, i < sE c → al S (33 + 8 * o) i = lN (sEn c i)) ∧ (∀ i, i < 3 → ai S (34 + 8 * o) i = sSt c i)
def pkd (f : Nat → Int64) (b : Nat) (q : Snap) : Prop := f b = lN q.1 ∧ f (b + 1) = lN q.2.1 ∧ f (b + 2) = lN q.2.2.1 ∧ f (b + 3) = lN q.2.2.2.1 ∧ f (b + 4) = q.2.2.2.2.toInt64
/-- the rows of a scene of the model: past, wishes, which, seen, status -/
def ScMr (c : Scn) (p w e : Nat → Int64) (b s : Nat → Int32) : Prop := (∀ i, i < sA c → pkd p (5 * i) (sAc c i)) ∧ (∀ i, i < sW c → w i = lN (sWn c i) ∧ b i = bI (sWb c i)) ∧ (∀ i, i < sE c → e i = lN (sEn c i)) ∧ (∀ i, i < 3 → s i = sSt c i)
def ScM (c : Scn) (M : Sto) : Prop := gl M 1013 = lN (sLo c) ∧ gl M 1014 = lN (sHi c) ∧ gi M 1016 = nI (sLw c) ∧ gl M 1015 = lN (sPd c) ∧ gi M 1017 = sYs c ∧
  gi M 1018 = nI (sA c) ∧ gi M 1019 = nI (sW c) ∧ gi M 1020 = nI (wCt (sWb c) (sW c)) ∧ gi M 1021 = nI (sE c) ∧ ScMr c (al M 1012) (al M 1016) (al M 1017) (ai M 1018) (ai M 1008)
def ScN (c : Scn) (M : Sto) : Prop := pkd (al M 1027) 0 c.1 ∧ gi M 1030 = nI (sA c) ∧ gi M 1031 = nI (sW c) ∧ gi M 1032 = nI (wCt (sWb c) (sW c)) ∧ gi M 1033 = nI (sE c) ∧ ScMr c (al M 1028) (al M 1029) (al M 1030) (ai M 1031) (ai M 1032)
def TpC (t : Tp) (S : Sto) : Prop := gi S 7 = nI t.1 ∧ t.1 ≤ 500 ∧ ∀ i, i < t.1 → ai S 2 i = nI (t.2 i) ∧ t.2 i < 256
def TpM (t : Tp) (M : Sto) : Prop := gi M 1003 = nI t.1 ∧ ∀ i, i < t.1 → ai M 1011 i = nI (t.2 i)
def RC (t : Tp) (f : Int32) (Z : Zt) (c : Scn) (i : Option Scn) (S : Sto) : Prop := TpC t S ∧ gi S 8 = f ∧ ZC Z S ∧ ScC 0 c S ∧ gi S 50 = bI i.isSome ∧ (∀ k, i = some k → ScC 1 k S) ∧ ((gr S 48 = 54 ∧ gr S 49 = 55) ∨ (gr S 48 = 55 ∧ gr S 49 = 54))
def RM (t : Tp) (f : Int32) (Z : Zt) (c : Scn) (i : Option Scn) (M : Sto) : Prop := TpM t M ∧ gi M 1012 = f ∧ ZM Z M ∧ ScM c M ∧ gi M 1029 = bI i.isSome ∧ (∀ k, i = some k → ScN k M)
def Rl (S M : Sto) : Prop := ∃ t f Z c i, ZOk Z ∧ ScOk Z c ∧ (∀ k, i = some k → ScOk Z k) ∧ RC t f Z c i S ∧ RM t f Z c i M
/-! what questions keep -/
section
variable {t : Tp} {f : Int32} {Z : Zt} {c : Scn} {i : Option Scn} {S T : Sto}
theorem ScC_fr {a b d e g : List Nat} {o : Nat} (h : ScC o c S) (q : Fr a b d e g S T) (h1 : 26 + 8 * o ∉ b ∧ 27 + 8 * o ∉ b ∧ 29 + 8 * o ∉ b) (h2 : 28 + 8 * o ∉ a ∧ 30 + 8 * o ∉ a ∧ 31 + 8 * o ∉ a ∧ 32 + 8 * o ∉ a ∧ 33 + 8 * o ∉ a)
    (h3 : 28 + 8 * o ∉ d ∧ 32 + 8 * o ∉ d ∧ 34 + 8 * o ∉ d) (h4 : 29 + 8 * o ∉ e ∧ 30 + 8 * o ∉ e ∧ 31 + 8 * o ∉ e ∧ 33 + 8 * o ∉ e) : ScC o c T := by
  unfold ScC at h ⊢
  rw [q.gl _ h1.1, q.gl _ h1.2.1, q.gl _ h1.2.2, q.gi _ h2.1, q.gi _ h2.2.1, q.gi _ h2.2.2.1, q.gi _ h2.2.2.2.1, q.gi _ h2.2.2.2.2, q.ai _ h3.1, q.ai _ h3.2.1, q.ai _ h3.2.2, q.al _ h4.1, q.al _ h4.2.1, q.al _ h4.2.2.1, q.al _ h4.2.2.2]
  exact h
theorem ShC_q {a b d e g : List Nat} (h : ShC Z S) (q : Fr a b d e g S T) (h1 : 25 ∉ a) (h2 : 22 ∉ e ∧ 23 ∉ e ∧ 24 ∉ e ∧ 25 ∉ e) : ShC Z T := by
  unfold ShC at h ⊢
  rw [q.gi _ h1, q.al _ h2.1, q.al _ h2.2.1, q.al _ h2.2.2.1, q.al _ h2.2.2.2]
  exact h
theorem ZC_fr {a b d e g : List Nat} (h : ZC Z S) (q : Fr a b d e g S T) (h1 : 19 ∉ a ∧ 20 ∉ a ∧ 21 ∉ a ∧ 22 ∉ a ∧ 23 ∉ a ∧ 25 ∉ a) (h2 : 13 ∉ d ∧ 19 ∉ d ∧ 20 ∉ d) (h3 : 14 ∉ e ∧ 15 ∉ e ∧ 16 ∉ e ∧ 17 ∉ e ∧ 22 ∉ e ∧ 23 ∉ e ∧ 24 ∉ e ∧ 25 ∉ e) : ZC Z T := by
  obtain ⟨e1, e2, e3, e4, e5, e6, e7, e8⟩ := h
  refine ⟨?_, ?_, ?_, ?_, ?_, ?_, ?_, ShC_q e8 q h1.2.2.2.2.2 h3.2.2.2.2⟩
  · rw [q.gi _ h1.2.2.2.1]; exact e1
  · rw [q.ai _ h2.1, q.al _ h3.1, q.al _ h3.2.1, q.al _ h3.2.2.1, q.al _ h3.2.2.2.1]; exact e2
  · rw [q.gi _ h1.2.2.2.2.1]; exact e3
  · rw [q.gi _ h1.1]; exact e4
  · rw [q.gi _ h1.2.1]; exact e5
  · rw [q.ai _ h2.2.1, q.ai _ h2.2.2]; exact e6
  · rw [q.gi _ h1.2.2.1]; exact e7
theorem RC_q (h : RC t f Z c i S) (q : QS S T) (hg : (gr T 48 = 54 ∧ gr T 49 = 55) ∨ (gr T 48 = 55 ∧ gr T 49 = 54)) : RC t f Z c i T := by
  obtain ⟨h1, h2, h3, h4, h5, h6, h7⟩ := h
  have q' : Fr qa [] qc qd qe S T := q
  refine ⟨?_, ?_, ZC_fr h3 q' (by decide) (by decide) (by decide), ScC_fr h4 q' (by decide) (by decide) (by decide) (by decide), ?_, fun k hk => ScC_fr (h6 k hk) q' (by decide) (by decide) (by decide) (by decide), hg⟩
  · unfold TpC at h1 ⊢
    rw [q'.gi 7 (by decide), q'.ai 2 (by decide)]
    exact h1
  · rw [q'.gi 8 (by decide)]; exact h2
  · rw [q'.gi 50 (by decide)]; exact h5
theorem ZM_fr {a b d e g : List Nat} (h : ZM Z S) (q : Fr a b d e g S T) (h1 : 1003 ∉ d ∧ 1004 ∉ d ∧ 1005 ∉ d ∧ 1006 ∉ d ∧ 1007 ∉ d) (h2 : 1009 ∉ e ∧ 1010 ∉ e) : ZM Z T := by
  unfold ZM at h ⊢
  rw [q.ai _ h1.1, q.ai _ h1.2.1, q.ai _ h1.2.2.1, q.ai _ h1.2.2.2.1, q.ai _ h1.2.2.2.2, q.al _ h2.1, q.al _ h2.2]
  exact h
theorem ScM_fr {a b d e g : List Nat} (h : ScM c S) (q : Fr a b d e g S T) (h1 : 1013 ∉ b ∧ 1014 ∉ b ∧ 1015 ∉ b) (h2 : 1016 ∉ a ∧ 1017 ∉ a ∧ 1018 ∉ a ∧ 1019 ∉ a ∧ 1020 ∉ a ∧ 1021 ∉ a) (h3 : 1018 ∉ d ∧ 1008 ∉ d) (h4 : 1012 ∉ e ∧ 1016 ∉ e ∧ 1017 ∉ e) : ScM c T := by
  unfold ScM at h ⊢
  rw [q.gl _ h1.1, q.gl _ h1.2.1, q.gl _ h1.2.2, q.gi _ h2.1, q.gi _ h2.2.1, q.gi _ h2.2.2.1, q.gi _ h2.2.2.2.1, q.gi _ h2.2.2.2.2.1, q.gi _ h2.2.2.2.2.2, q.ai _ h3.1, q.ai _ h3.2, q.al _ h4.1, q.al _ h4.2.1, q.al _ h4.2.2]
  exact h
theorem ScN_fr {a b d e g : List Nat} (h : ScN c S) (q : Fr a b d e g S T) (h2 : 1030 ∉ a ∧ 1031 ∉ a ∧ 1032 ∉ a ∧ 1033 ∉ a) (h3 : 1031 ∉ d ∧ 1032 ∉ d) (h4 : 1027 ∉ e ∧ 1028 ∉ e ∧ 1029 ∉ e ∧ 1030 ∉ e) : ScN c T := by
  unfold ScN at h ⊢
  rw [q.gi _ h2.1, q.gi _ h2.2.1, q.gi _ h2.2.2.1, q.gi _ h2.2.2.2, q.ai _ h3.1, q.ai _ h3.2, q.al _ h4.1, q.al _ h4.2.1, q.al _ h4.2.2.1, q.al _ h4.2.2.2]
  exact h
theorem RM_q (h : RM t f Z c i S) (q : QM S T) : RM t f Z c i T := by
  obtain ⟨h1, h2, h3, h4, h5, h6⟩ := h
  have q' : Fr ma mb mc md [] S T := q
  refine ⟨?_, ?_, ZM_fr h3 q' (by decide) (by decide), ScM_fr h4 q' (by decide) (by decide) (by decide) (by decide), ?_, fun k hk => ScN_fr (h6 k hk) q' (by decide) (by decide) (by decide)⟩
  · unfold TpM at h1 ⊢
    rw [q'.gi 1003 (by decide), q'.ai 1011 (by decide)]
    exact h1
  · rw [q'.gi 1012 (by decide)]; exact h2
  · rw [q'.gi 1029 (by decide)]; exact h5
end
