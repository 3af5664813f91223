/-! ===== for the printed functions ===== -/
abbrev EX (nL : Nat) (xs : Nat → Int32) (K : Nat) (mi : MI) (d pc : Nat) (L : Lo) (st : List Value) (σ : St3) (r : Res) (σ2 : St3) : Prop := Ex kSh (nL, xs, kTx) MT K mi d pc L st σ r σ2
def rsI (r : Int32 ⊕ Nat) : Res := match r with
  | .inl v => .inl (some (.int v))
  | .inr x => .inr x
def rsJ (r : Int64 ⊕ Nat) : Res := match r with
  | .inl v => .inl (some (.long v))
  | .inr x => .inr x
theorem Le_0 : Le [] [] := trivial
theorem Le_n {a b : Lo} {x : Option Value} (h : Le a b) : Le (none :: a) (x :: b) := h
theorem Le_s {a b : Lo} {v : Value} (h : Le a b) : Le (some v :: a) (some v :: b) := ⟨rfl, h⟩
abbrev isS (p : Nat) : Prop := 3000 ≤ p ∧ p < 3020
abbrev isW (p : Nat) : Prop := 300 ≤ p ∧ p < 332
def isLb (p : Nat) : Bool := decide (p = 54 ∨ p = 55)
def stl (p : Nat) : Nat := (kTx.getD (p - 3000) []).length
def sln (p : Nat) : Int32 := nI (stl p)
def sch (p : Nat) (j : Int32) : Int32 := nI ((kTx.getD (p - 3000) []).getD j.toNatClampNeg 0)
theorem kSh_S (t : Nat) (ht : t < 20) : kSh (3000 + t) = some (6, t, []) := by
  have h : (List.range 20).all (fun t => decide (kSh (3000 + t) = some (6, t, []))) = true := by decide +kernel
  exact of_decide_eq_true (List.all_eq_true.mp h t (List.mem_range.mpr ht))
theorem kSh_W (t : Nat) (ht : t < 32) : kSh (300 + t) = some (1, 60, []) := by
  have h : (List.range 32).all (fun t => decide (kSh (300 + t) = some (1, 60, []))) = true := by decide +kernel
  exact of_decide_eq_true (List.all_eq_true.mp h t (List.mem_range.mpr ht))
theorem isS_sh {p : Nat} (h : isS p) : kSh p = some (6, p - 3000, []) := by
  have := kSh_S (p - 3000) (by omega)
  rwa [show 3000 + (p - 3000) = p by omega] at this
theorem isW_sh {p : Nat} (h : isW p) : kSh p = some (1, 60, []) := by
  have := kSh_W (p - 300) (by omega)
  rwa [show 300 + (p - 300) = p by omega] at this
theorem isL_at {p : Nat} (h : isLb p = true) : p = 54 ∨ p = 55 := of_decide_eq_true h
theorem isLb_at {p : Nat} (h : isLb p = true) : kSh p = some (3, 50, []) ∧ Nat.blt p 1000 = true := by
  rcases isL_at h with rfl | rfl <;> exact ⟨rfl, rfl⟩
theorem ib_lt {x : Int32} {n : Nat} (h : ib x n = true) : x.toNatClampNeg < n := Nat.not_le.mp fun q => ib_in h (Or.inr q)
theorem isS_5 {x : Int32} (h : ib x 5 = true) : isS (3000 + Int32.toNatClampNeg x) := by have := ib_lt h; omega
theorem isS_7 {x : Int32} (h : ib x 7 = true) : isS (3005 + Int32.toNatClampNeg x) := by have := ib_lt h; omega
theorem isW_32 {x : Int32} (h : ib x 32 = true) : isW (300 + Int32.toNatClampNeg x) := by have := ib_lt h; omega
theorem blt_len {nL : Nat} {xs : Nat → Int32} {p : Nat} (h : isS p) : ibuilt kSh (nL, xs, kTx) 7 [.ref p] = some (.int (sln p)) := by
  show (match kSh p with
    | some (6, i, _) => some (Value.int (nI (kTx.getD i []).length))
    | _ => none) = _
  rw [isS_sh h]
  rfl
theorem blt_chr {nL : Nat} {xs : Nat → Int32} {p : Nat} {j : Int32} (h : isS p) (hj : ib j (stl p) = true) : ibuilt kSh (nL, xs, kTx) 8 [.ref p, .int j] = some (.int (sch p j)) := by
  show (match kSh p with
    | some (6, i, _) => bif ib j (kTx.getD i []).length then some (Value.int (nI ((kTx.getD i []).getD j.toNatClampNeg 0))) else none
    | _ => none) = _
  rw [isS_sh h]
  show (bif ib j (stl p) then some (Value.int (sch p j)) else none) = _
  rw [hj]
  rfl
section
variable {sc : Sct} {mi : MI} {pc a b p : Nat} {v : Value} {L : Lo} {st : List Value} {S M O : Sto}
theorem stW_ld {i : Int32} (hc : mi.code pc = some (.iaload, 1, a, b, v)) (h : isW p) : istep kSh sc mi pc L (.int i :: .ref p :: st) (S, M, O) = (bif ib i 60 then some (pc + 1, L, .int (ai S p i.toNatClampNeg) :: st, (S, M, O)) else none) := by
  unfold istep
  rw [hc]
  dsimp only
  rw [isW_sh h]
  have : Nat.blt p 1000 = true := Nat.ble_eq_true_of_le (by omega)
  show (bif ib i 60 then some (pc + 1, L, Value.int (ai (g3 (S, M, O) p) p i.toNatClampNeg) :: st, (S, M, O)) else none) = _
  rw [g3, this]
  rfl
theorem stW_st {i x : Int32} (hc : mi.code pc = some (.iastore, 1, a, b, v)) (h : isW p) : istep kSh sc mi pc L (.int x :: .int i :: .ref p :: st) (S, M, O) = (bif ib i 60 then some (pc + 1, L, st, (ui S p (upd (ai S p) i.toNatClampNeg x), M, O)) else none) := by
  unfold istep
  rw [hc]
  dsimp only
  rw [isW_sh h]
  have : Nat.blt p 1000 = true := Nat.ble_eq_true_of_le (by omega)
  show (bif ib i 60 then some (pc + 1, L, st, p3 (S, M, O) p (ui (g3 (S, M, O) p) p (upd (ai (g3 (S, M, O) p) p) i.toNatClampNeg x))) else none) = _
  rw [p3, g3, this]
  rfl
theorem stW_len {σ : St3} (hc : mi.code pc = some (.arraylength, 1, a, b, v)) (h : isW p) : istep kSh sc mi pc L (.ref p :: st) σ = some (pc + 1, L, .int (nI 60) :: st, σ) := by
  unfold istep
  rw [hc]
  dsimp only
  rw [isW_sh h]
  rfl
theorem stL_ld {i : Int32} (hc : mi.code pc = some (.laload, 1, a, b, v)) (h : kSh p = some (3, 50, []) ∧ Nat.blt p 1000 = true) : istep kSh sc mi pc L (.int i :: .ref p :: st) (S, M, O) = (bif ib i 50 then some (pc + 1, L, .long (al S p i.toNatClampNeg) :: st, (S, M, O)) else none) := by
  unfold istep
  rw [hc]
  dsimp only
  rw [h.1]
  show (bif ib i 50 then some (pc + 1, L, Value.long (al (g3 (S, M, O) p) p i.toNatClampNeg) :: st, (S, M, O)) else none) = _
  rw [g3, h.2]
  rfl
theorem stL_st {i : Int32} {x : Int64} (hc : mi.code pc = some (.lastore, 1, a, b, v)) (h : kSh p = some (3, 50, []) ∧ Nat.blt p 1000 = true) : istep kSh sc mi pc L (.long x :: .int i :: .ref p :: st) (S, M, O) = (bif ib i 50 then some (pc + 1, L, st, (ul S p (vp_updL (al S p) i.toNatClampNeg x), M, O)) else none) := by
  unfold istep
  rw [hc]
  dsimp only
  rw [h.1]
  show (bif ib i 50 then some (pc + 1, L, st, p3 (S, M, O) p (ul (g3 (S, M, O) p) p (vp_updL (al (g3 (S, M, O) p) p) i.toNatClampNeg x))) else none) = _
  rw [p3, g3, h.2]
  rfl
end
