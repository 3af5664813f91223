/-! ===== what the methods do, as functions, and that the small machine does it (printed by wip/whole/gen4.py) ===== -/
def F_w_fault (S : Sto) : Option Int32 := some (gi S 8)
set_option maxRecDepth 100000 in
theorem X_w_fault {nL : Nat} {xs : Nat → Int32} {M : Sto} {O : Sto} {d : Nat} (hd : 1 ≤ d) : ∀ (S : Sto) (r : Int32), F_w_fault S = some r → EX nL xs 0 MI_78 d 0 [some (.ref 0)] [] (S, M, O) (.inl (some (.int r))) (S, M, O) := by
  intro S r hF
  unfold F_w_fault at hF
  refine Ex_go 3 (pc' := 7) (L' := [some (.ref 0)]) (st' := [.int (gi S 8)]) (σ' := (S, M, O)) (rfl) ?_
  cases hF
  exact Ex_fin rfl
def F_m_fault (M : Sto) : Option (Int32 × Sto) := some ((gi (si M 1001 (0 : Int32)) 1012), (si M 1001 (0 : Int32)))
set_option maxRecDepth 100000 in
theorem X_m_fault {nL : Nat} {xs : Nat → Int32} {S : Sto} {O : Sto} {d : Nat} (hd : 1 ≤ d) : ∀ (M : Sto) (r : Int32) (M' : Sto), F_m_fault M = some (r, M') → EX nL xs 0 MI_79 d 0 [some (.ref 1000)] [] (S, M, O) (.inl (some (.int r))) (S, M', O) := by
  intro M r M' hF
  unfold F_m_fault at hF
  refine Ex_go 5 (pc' := 9) (L' := [some (.ref 1000)]) (st' := [.int (gi (si M 1001 (0 : Int32)) 1012)]) (σ' := (S, (si M 1001 (0 : Int32)), O)) (rfl) ?_
  cases hF
  exact Ex_fin rfl
def F_Ru_clear (S : Sto) : Option (Unit × Sto) := some ((), (si (si (si S 1 (0 : Int32)) 2 (0 : Int32)) 3 (0 : Int32)))
set_option maxRecDepth 100000 in
theorem X_Ru_clear {nL : Nat} {xs : Nat → Int32} {M : Sto} {O : Sto} {d : Nat} (hd : 1 ≤ d) : ∀ (S : Sto) (r : Unit) (S' : Sto), F_Ru_clear S = some (r, S') → EX nL xs 0 MI_3 d 0 [some (.ref 9)] [] (S, M, O) (.inl none) (S', M, O) := by
  intro S r S' hF
  unfold F_Ru_clear at hF
  refine Ex_go 5 (pc' := 7) (L' := [some (.ref 9)]) (st' := [.int (0 : Int32), .ref 9]) (σ' := ((si S 1 (0 : Int32)), M, O)) (rfl) ?_
  refine Ex_chk (b := b01 (0 : Int32)) (pc' := 10) (L' := [some (.ref 9)]) (st' := []) (σ' := ((si (si S 1 (0 : Int32)) 2 (0 : Int32)), M, O)) rfl (by decide) ?_
  refine Ex_go 2 (pc' := 12) (L' := [some (.ref 9)]) (st' := [.int (0 : Int32), .ref 9]) (σ' := ((si (si S 1 (0 : Int32)) 2 (0 : Int32)), M, O)) (rfl) ?_
  refine Ex_chk (b := b01 (0 : Int32)) (pc' := 15) (L' := [some (.ref 9)]) (st' := []) (σ' := ((si (si (si S 1 (0 : Int32)) 2 (0 : Int32)) 3 (0 : Int32)), M, O)) rfl (by decide) ?_
  cases hF
  exact Ex_fin rfl
def F_Se_clear (S : Sto) : Option (Unit × Sto) := b2 (F_Ru_clear (sl (si (si S 4 (0 : Int32)) 5 (30 : Int32)) 6 (0 : Int64))) (fun r1 S3 => some ((), S3))
set_option maxRecDepth 100000 in
theorem X_Se_clear {nL : Nat} {xs : Nat → Int32} {M : Sto} {O : Sto} {d : Nat} (hd : 2 ≤ d) : ∀ (S : Sto) (r : Unit) (S' : Sto), F_Se_clear S = some (r, S') → EX nL xs 0 MI_4 d 0 [some (.ref 3)] [] (S, M, O) (.inl none) (S', M, O) := by
  intro S r S' hF
  unfold F_Se_clear at hF
  refine Ex_go 10 (pc' := 17) (L' := [some (.ref 3)]) (st' := [.ref 3]) (σ' := ((sl (si (si S 4 (0 : Int32)) 5 (30 : Int32)) 6 (0 : Int64)), M, O)) (rfl) ?_
  refine Ex_go 1 (pc' := 20) (L' := [some (.ref 3)]) (st' := [.ref 9]) (σ' := ((sl (si (si S 4 (0 : Int32)) 5 (30 : Int32)) 6 (0 : Int64)), M, O)) (rfl) ?_
  obtain ⟨r1, S3, hx2, hF⟩ := b2_i hF
  refine Ex_call (kind := 2) (y := 3) (as := [.ref 9]) (rest := []) (L0 := [some (.ref 9)]) (d' := 1) (v := none) (σ1 := (S3, M, O)) rfl rfl mt_3 rfl rfl (by omega) (X_Ru_clear (Nat.le_refl _) _ _ _ hx2) (Ex_st (st2 := []) rfl ?_)
  cases hF
  exact Ex_fin rfl
def F_Rd_byteAt (x1 : Int32) (S : Sto) : Option Int32 := if x1 < 0 then some (-1 : Int32) else if (gi S 10) ≤ x1 then some (-1 : Int32) else if (500 : Int32) ≤ x1 then some (-1 : Int32) else ck (ib x1 500) (some (ai S 2 (Int32.toNatClampNeg x1)))
set_option maxRecDepth 100000 in
theorem X_Rd_byteAt {nL : Nat} {xs : Nat → Int32} {M : Sto} {O : Sto} {d : Nat} (hd : 1 ≤ d) : ∀ (x1 : Int32) (S : Sto) (r : Int32), F_Rd_byteAt x1 S = some r → EX nL xs 0 MI_5 d 0 [some (.ref 1), some (.int x1)] [] (S, M, O) (.inl (some (.int r))) (S, M, O) := by
  intro x1 S r hF
  unfold F_Rd_byteAt at hF
  refine Ex_go 2 (pc' := if x1 < 0 then 28 else 4) (L' := [some (.ref 1), some (.int x1)]) (st' := []) (σ' := (S, M, O)) (rfl) ?_
  refine Ex_br (fun hc => ?_) (fun hc => ?_)
  · rw [if_pos hc] at hF
    refine Ex_go 1 (pc' := 29) (L' := [some (.ref 1), some (.int x1)]) (st' := [.int (-1 : Int32)]) (σ' := (S, M, O)) (rfl) ?_
    cases hF
    exact Ex_fin rfl
  · rw [if_neg hc] at hF
    refine Ex_go 4 (pc' := if (gi S 10) ≤ x1 then 28 else 12) (L' := [some (.ref 1), some (.int x1)]) (st' := []) (σ' := (S, M, O)) (rfl) ?_
    refine Ex_br (fun hc => ?_) (fun hc => ?_)
    · rw [if_pos hc] at hF
      refine Ex_go 1 (pc' := 29) (L' := [some (.ref 1), some (.int x1)]) (st' := [.int (-1 : Int32)]) (σ' := (S, M, O)) (rfl) ?_
      cases hF
      exact Ex_fin rfl
    · rw [if_neg hc] at hF
      refine Ex_go 3 (pc' := if (500 : Int32) ≤ x1 then 28 else 19) (L' := [some (.ref 1), some (.int x1)]) (st' := []) (σ' := (S, M, O)) (rfl) ?_
      refine Ex_br (fun hc => ?_) (fun hc => ?_)
      · rw [if_pos hc] at hF
        refine Ex_go 1 (pc' := 29) (L' := [some (.ref 1), some (.int x1)]) (st' := [.int (-1 : Int32)]) (σ' := (S, M, O)) (rfl) ?_
        cases hF
        exact Ex_fin rfl
      · rw [if_neg hc] at hF
        refine Ex_go 3 (pc' := 24) (L' := [some (.ref 1), some (.int x1)]) (st' := [.int x1, .ref 2]) (σ' := (S, M, O)) (rfl) ?_
        obtain ⟨hc1, hF⟩ := ck_i hF
        refine Ex_chk (b := ib x1 500) (pc' := 25) (L' := [some (.ref 1), some (.int x1)]) (st' := [.int (ai S 2 (Int32.toNatClampNeg x1))]) (σ' := (S, M, O)) rfl hc1 ?_
        refine Ex_go 1 (pc' := 29) (L' := [some (.ref 1), some (.int x1)]) (st' := [.int (ai S 2 (Int32.toNatClampNeg x1))]) (σ' := (S, M, O)) (rfl) ?_
        cases hF
        exact Ex_fin rfl
def F_Rd_isLetter (x0 : Int32) : Option Int32 := if x0 < (97 : Int32) then some (0 : Int32) else if (122 : Int32) < x0 then some (0 : Int32) else some (1 : Int32)
set_option maxRecDepth 100000 in
theorem X_Rd_isLetter {nL : Nat} {xs : Nat → Int32} {S : Sto} {M : Sto} {O : Sto} {d : Nat} (hd : 1 ≤ d) : ∀ (x0 : Int32) (r : Int32), F_Rd_isLetter x0 = some r → EX nL xs 0 MI_7 d 0 [some (.int x0)] [] (S, M, O) (.inl (some (.int r))) (S, M, O) := by
  intro x0 r hF
  unfold F_Rd_isLetter at hF
  refine Ex_go 3 (pc' := if x0 < (97 : Int32) then 16 else 6) (L' := [some (.int x0)]) (st' := []) (σ' := (S, M, O)) (rfl) ?_
  refine Ex_br (fun hc => ?_) (fun hc => ?_)
  · rw [if_pos hc] at hF
    refine Ex_go 1 (pc' := 17) (L' := [some (.int x0)]) (st' := [.int (0 : Int32)]) (σ' := (S, M, O)) (rfl) ?_
    cases hF
    exact Ex_fin rfl
  · rw [if_neg hc] at hF
    refine Ex_go 3 (pc' := if (122 : Int32) < x0 then 16 else 12) (L' := [some (.int x0)]) (st' := []) (σ' := (S, M, O)) (rfl) ?_
    refine Ex_br (fun hc => ?_) (fun hc => ?_)
    · rw [if_pos hc] at hF
      refine Ex_go 1 (pc' := 17) (L' := [some (.int x0)]) (st' := [.int (0 : Int32)]) (σ' := (S, M, O)) (rfl) ?_
      cases hF
      exact Ex_fin rfl
    · rw [if_neg hc] at hF
      refine Ex_go 2 (pc' := 17) (L' := [some (.int x0)]) (st' := [.int (1 : Int32)]) (σ' := (S, M, O)) (rfl) ?_
      cases hF
      exact Ex_fin rfl
def F_Rd_isDigit (x0 : Int32) : Option Int32 := if x0 < (48 : Int32) then some (0 : Int32) else if (57 : Int32) < x0 then some (0 : Int32) else some (1 : Int32)
set_option maxRecDepth 100000 in
theorem X_Rd_isDigit {nL : Nat} {xs : Nat → Int32} {S : Sto} {M : Sto} {O : Sto} {d : Nat} (hd : 1 ≤ d) : ∀ (x0 : Int32) (r : Int32), F_Rd_isDigit x0 = some r → EX nL xs 0 MI_8 d 0 [some (.int x0)] [] (S, M, O) (.inl (some (.int r))) (S, M, O) := by
  intro x0 r hF
  unfold F_Rd_isDigit at hF
  refine Ex_go 3 (pc' := if x0 < (48 : Int32) then 16 else 6) (L' := [some (.int x0)]) (st' := []) (σ' := (S, M, O)) (rfl) ?_
  refine Ex_br (fun hc => ?_) (fun hc => ?_)
  · rw [if_pos hc] at hF
    refine Ex_go 1 (pc' := 17) (L' := [some (.int x0)]) (st' := [.int (0 : Int32)]) (σ' := (S, M, O)) (rfl) ?_
    cases hF
    exact Ex_fin rfl
  · rw [if_neg hc] at hF
    refine Ex_go 3 (pc' := if (57 : Int32) < x0 then 16 else 12) (L' := [some (.int x0)]) (st' := []) (σ' := (S, M, O)) (rfl) ?_
    refine Ex_br (fun hc => ?_) (fun hc => ?_)
    · rw [if_pos hc] at hF
      refine Ex_go 1 (pc' := 17) (L' := [some (.int x0)]) (st' := [.int (0 : Int32)]) (σ' := (S, M, O)) (rfl) ?_
      cases hF
      exact Ex_fin rfl
    · rw [if_neg hc] at hF
      refine Ex_go 2 (pc' := 17) (L' := [some (.int x0)]) (st' := [.int (1 : Int32)]) (σ' := (S, M, O)) (rfl) ?_
      cases hF
      exact Ex_fin rfl
def F_Rd_isBlank (x0 : Int32) : Option Int32 := if x0 = (32 : Int32) then some (1 : Int32) else if x0 = (10 : Int32) then some (1 : Int32) else some (0 : Int32)
set_option maxRecDepth 100000 in
theorem X_Rd_isBlank {nL : Nat} {xs : Nat → Int32} {S : Sto} {M : Sto} {O : Sto} {d : Nat} (hd : 1 ≤ d) : ∀ (x0 : Int32) (r : Int32), F_Rd_isBlank x0 = some r → EX nL xs 0 MI_6 d 0 [some (.int x0)] [] (S, M, O) (.inl (some (.int r))) (S, M, O) := by
  intro x0 r hF
  unfold F_Rd_isBlank at hF
  refine Ex_go 3 (pc' := if x0 = (32 : Int32) then 12 else 6) (L' := [some (.int x0)]) (st' := []) (σ' := (S, M, O)) (rfl) ?_
  refine Ex_br (fun hc => ?_) (fun hc => ?_)
  · rw [if_pos hc] at hF
    refine Ex_go 2 (pc' := 17) (L' := [some (.int x0)]) (st' := [.int (1 : Int32)]) (σ' := (S, M, O)) (rfl) ?_
    cases hF
    exact Ex_fin rfl
  · rw [if_neg hc] at hF
    refine Ex_go 3 (pc' := if ¬ x0 = (10 : Int32) then 16 else 12) (L' := [some (.int x0)]) (st' := []) (σ' := (S, M, O)) (rfl) ?_
    refine Ex_brN (fun hc => ?_) (fun hc => ?_)
    · rw [if_pos hc] at hF
      refine Ex_go 2 (pc' := 17) (L' := [some (.int x0)]) (st' := [.int (1 : Int32)]) (σ' := (S, M, O)) (rfl) ?_
      cases hF
      exact Ex_fin rfl
    · rw [if_neg hc] at hF
      refine Ex_go 1 (pc' := 17) (L' := [some (.int x0)]) (st' := [.int (0 : Int32)]) (σ' := (S, M, O)) (rfl) ?_
      cases hF
      exact Ex_fin rfl
def F_Rd_nextToken_102 : Nat → Sto → Option (Unit × Sto)
  | 0, _ => none
  | n + 1, S => if (gi S 10) ≤ (gi S 11) then some ((), S) else b1 (F_Rd_byteAt (gi S 11) S) (fun r1 => b1 (F_Rd_isLetter r1) (fun r3 => if r3 = 0 then some ((), S) else F_Rd_nextToken_102 n (si S 11 ((gi S 11) + (1 : Int32)))))
set_option maxRecDepth 100000 in
theorem X_Rd_nextToken_102 {nL : Nat} {xs : Nat → Int32} {M : Sto} {O : Sto} {d : Nat} (hd : 2 ≤ d) : ∀ n : Nat, ∀ (S : Sto) (r : Unit) (S' : Sto), F_Rd_nextToken_102 n S = some (r, S') → EX nL xs 0 MI_9 d 102 [some (.ref 1)] [] (S, M, O) (.inl none) (S', M, O) := by
  intro n
  induction n with
  | zero => intro S r S' hF; cases hF
  | succ n ih =>
  intro S r S' hF
  unfold F_Rd_nextToken_102 at hF
  refine Ex_go 5 (pc' := if (gi S 10) ≤ (gi S 11) then 256 else 113) (L' := [some (.ref 1)]) (st' := []) (σ' := (S, M, O)) (rfl) ?_
  refine Ex_br (fun hc => ?_) (fun hc => ?_)
  · rw [if_pos hc] at hF
    cases hF
    exact Ex_fin rfl
  · rw [if_neg hc] at hF
    refine Ex_go 3 (pc' := 118) (L' := [some (.ref 1)]) (st' := [.int (gi S 11), .ref 1]) (σ' := (S, M, O)) (rfl) ?_
    obtain ⟨r1, hx2, hF⟩ := b1_i hF
    refine Ex_call (kind := 2) (y := 5) (as := [.ref 1, .int (gi S 11)]) (rest := []) (L0 := [some (.ref 1), some (.int (gi S 11))]) (d' := 1) (v := some (.int r1)) (σ1 := (S, M, O)) rfl rfl mt_5 rfl rfl (by omega) (X_Rd_byteAt (Nat.le_refl _) _ _ _ hx2) (Ex_st (st2 := [.int r1]) rfl ?_)
    obtain ⟨r3, hx4, hF⟩ := b1_i hF
    refine Ex_call (kind := 0) (y := 7) (as := [.int r1]) (rest := []) (L0 := [some (.int r1)]) (d' := 1) (v := some (.int r3)) (σ1 := (S, M, O)) rfl rfl mt_7 rfl rfl (by omega) (X_Rd_isLetter (Nat.le_refl _) _ _ hx4) (Ex_st (st2 := [.int r3]) rfl ?_)
    refine Ex_go 1 (pc' := if r3 = 0 then 256 else 127) (L' := [some (.ref 1)]) (st' := []) (σ' := (S, M, O)) (rfl) ?_
    refine Ex_br (fun hc => ?_) (fun hc => ?_)
    · rw [if_pos hc] at hF
      cases hF
      exact Ex_fin rfl
    · rw [if_neg hc] at hF
      refine Ex_go 7 (pc' := 102) (L' := [some (.ref 1)]) (st' := []) (σ' := ((si S 11 ((gi S 11) + (1 : Int32))), M, O)) (rfl) ?_
      exact Ex_mono (L := [some (.ref 1)]) (Le_s (Le_0)) (ih _ _ _ hF) (Nat.le_refl _) (by omega)
def F_Rd_nextToken_215 (k155 : Sto → Option (Unit × Sto)) (s1 : Int32) (S : Sto) : Option (Unit × Sto) := k155 (si (si (si S 15 s1) 16 ((gi (si S 15 s1) 16) + (1 : Int32))) 11 ((gi (si (si S 15 s1) 16 ((gi (si S 15 s1) 16) + (1 : Int32))) 11) + (1 : Int32)))
set_option maxRecDepth 100000 in
theorem X_Rd_nextToken_215 {nL : Nat} {xs : Nat → Int32} {M : Sto} {O : Sto} {d : Nat} (hd : 2 ≤ d) {k155 : Sto → Option (Unit × Sto)} (hk155 : ∀ (S : Sto) (r : Unit) (S' : Sto), k155 S = some (r, S') → EX nL xs 0 MI_9 d 155 [some (.ref 1)] [] (S, M, O) (.inl none) (S', M, O)) : ∀ (s1 : Int32) (S : Sto) (r : Unit) (S' : Sto), F_Rd_nextToken_215 k155 s1 S = some (r, S') → EX nL xs 0 MI_9 d 215 [some (.ref 1)] [.int s1, .ref 1] (S, M, O) (.inl none) (S', M, O) := by
  intro s1 S r S' hF
  unfold F_Rd_nextToken_215 at hF
  refine Ex_go 10 (pc' := 233) (L' := [some (.ref 1)]) (st' := [.int (gi (si (si S 15 s1) 16 ((gi (si S 15 s1) 16) + (1 : Int32))) 11), .ref 1]) (σ' := ((si (si S 15 s1) 16 ((gi (si S 15 s1) 16) + (1 : Int32))), M, O)) (rfl) ?_
  refine Ex_go 4 (pc' := 155) (L' := [some (.ref 1)]) (st' := []) (σ' := ((si (si (si S 15 s1) 16 ((gi (si S 15 s1) 16) + (1 : Int32))) 11 ((gi (si (si S 15 s1) 16 ((gi (si S 15 s1) 16) + (1 : Int32))) 11) + (1 : Int32))), M, O)) (rfl) ?_
  exact Ex_mono (L := [some (.ref 1)]) (Le_s (Le_0)) (hk155 _ _ _ hF) (Nat.le_refl _) (by omega)
def F_Rd_nextToken_155 : Nat → Sto → Option (Unit × Sto)
  | 0, _ => none
  | n + 1, S => if (gi S 10) ≤ (gi S 11) then some ((), S) else b1 (F_Rd_byteAt (gi S 11) S) (fun r1 => b1 (F_Rd_isDigit r1) (fun r3 => if r3 = 0 then some ((), S) else if (4 : Int32) ≤ (gi S 16) then F_Rd_nextToken_215 (F_Rd_nextToken_155 n) (gi S 15) S else b1 (F_Rd_byteAt (gi S 11) S) (fun r5 => F_Rd_nextToken_215 (F_Rd_nextToken_155 n) ((((gi S 15) * (10 : Int32)) + r5) - (48 : Int32)) S)))
set_option maxRecDepth 100000 in
theorem X_Rd_nextToken_155 {nL : Nat} {xs : Nat → Int32} {M : Sto} {O : Sto} {d : Nat} (hd : 2 ≤ d) : ∀ n : Nat, ∀ (S : Sto) (r : Unit) (S' : Sto), F_Rd_nextToken_155 n S = some (r, S') → EX nL xs 0 MI_9 d 155 [some (.ref 1)] [] (S, M, O) (.inl none) (S', M, O) := by
  intro n
  induction n with
  | zero => intro S r S' hF; cases hF
  | succ n ih =>
  intro S r S' hF
  unfold F_Rd_nextToken_155 at hF
  refine Ex_go 5 (pc' := if (gi S 10) ≤ (gi S 11) then 256 else 166) (L' := [some (.ref 1)]) (st' := []) (σ' := (S, M, O)) (rfl) ?_
  refine Ex_br (fun hc => ?_) (fun hc => ?_)
  · rw [if_pos hc] at hF
    cases hF
    exact Ex_fin rfl
  · rw [if_neg hc] at hF
    refine Ex_go 3 (pc' := 171) (L' := [some (.ref 1)]) (st' := [.int (gi S 11), .ref 1]) (σ' := (S, M, O)) (rfl) ?_
    obtain ⟨r1, hx2, hF⟩ := b1_i hF
    refine Ex_call (kind := 2) (y := 5) (as := [.ref 1, .int (gi S 11)]) (rest := []) (L0 := [some (.ref 1), some (.int (gi S 11))]) (d' := 1) (v := some (.int r1)) (σ1 := (S, M, O)) rfl rfl mt_5 rfl rfl (by omega) (X_Rd_byteAt (Nat.le_refl _) _ _ _ hx2) (Ex_st (st2 := [.int r1]) rfl ?_)
    obtain ⟨r3, hx4, hF⟩ := b1_i hF
    refine Ex_call (kind := 0) (y := 8) (as := [.int r1]) (rest := []) (L0 := [some (.int r1)]) (d' := 1) (v := some (.int r3)) (σ1 := (S, M, O)) rfl rfl mt_8 rfl rfl (by omega) (X_Rd_isDigit (Nat.le_refl _) _ _ hx4) (Ex_st (st2 := [.int r3]) rfl ?_)
    refine Ex_go 1 (pc' := if r3 = 0 then 256 else 180) (L' := [some (.ref 1)]) (st' := []) (σ' := (S, M, O)) (rfl) ?_
    refine Ex_br (fun hc => ?_) (fun hc => ?_)
    · rw [if_pos hc] at hF
      cases hF
      exact Ex_fin rfl
    · rw [if_neg hc] at hF
      refine Ex_go 5 (pc' := if (4 : Int32) ≤ (gi S 16) then 211 else 189) (L' := [some (.ref 1)]) (st' := [.ref 1]) (σ' := (S, M, O)) (rfl) ?_
      refine Ex_br (fun hc => ?_) (fun hc => ?_)
      · rw [if_pos hc] at hF
        refine Ex_go 2 (pc' := 215) (L' := [some (.ref 1)]) (st' := [.int (gi S 15), .ref 1]) (σ' := (S, M, O)) (rfl) ?_
        exact Ex_mono (L := [some (.ref 1)]) (Le_s (Le_0)) (X_Rd_nextToken_215 hd ih _ _ _ _ hF) (Nat.le_refl _) (by omega)
      · rw [if_neg hc] at hF
        refine Ex_go 7 (pc' := 201) (L' := [some (.ref 1)]) (st' := [.int (gi S 11), .ref 1, .int ((gi S 15) * (10 : Int32)), .ref 1]) (σ' := (S, M, O)) (rfl) ?_
        obtain ⟨r5, hx6, hF⟩ := b1_i hF
        refine Ex_call (kind := 2) (y := 5) (as := [.ref 1, .int (gi S 11)]) (rest := [.int ((gi S 15) * (10 : Int32)), .ref 1]) (L0 := [some (.ref 1), some (.int (gi S 11))]) (d' := 1) (v := some (.int r5)) (σ1 := (S, M, O)) rfl rfl mt_5 rfl rfl (by omega) (X_Rd_byteAt (Nat.le_refl _) _ _ _ hx6) (Ex_st (st2 := [.int r5, .int ((gi S 15) * (10 : Int32)), .ref 1]) rfl ?_)
        refine Ex_go 4 (pc' := 215) (L' := [some (.ref 1)]) (st' := [.int ((((gi S 15) * (10 : Int32)) + r5) - (48 : Int32)), .ref 1]) (σ' := (S, M, O)) (rfl) ?_
        exact Ex_mono (L := [some (.ref 1)]) (Le_s (Le_0)) (X_Rd_nextToken_215 hd ih _ _ _ _ hF) (Nat.le_refl _) (by omega)
def F_Rd_nextToken_38 (S : Sto) : Option (Unit × Sto) := b1 (F_Rd_byteAt (gi (si S 13 (gi S 11)) 11) (si S 13 (gi S 11))) (fun r1 => if (gi (si (si (si (si S 13 (gi S 11)) 14 r1) 15 (0 : Int32)) 16 (0 : Int32)) 11) < (gi (si (si (si (si S 13 (gi S 11)) 14 r1) 15 (0 : Int32)) 16 (0 : Int32)) 10) then b1 (F_Rd_isLetter (gi (si (si (si (si S 13 (gi S 11)) 14 r1) 15 (0 : Int32)) 16 (0 : Int32)) 14)) (fun r3 => if r3 = 0 then b1 (F_Rd_isDigit (gi (si (si (si (si S 13 (gi S 11)) 14 r1) 15 (0 : Int32)) 16 (0 : Int32)) 14)) (fun r5 => if r5 = 0 then some ((), (si (si (si (si (si (si S 13 (gi S 11)) 14 r1) 15 (0 : Int32)) 16 (0 : Int32)) 12 (3 : Int32)) 11 ((gi (si (si (si (si (si S 13 (gi S 11)) 14 r1) 15 (0 : Int32)) 16 (0 : Int32)) 12 (3 : Int32)) 11) + (1 : Int32)))) else F_Rd_nextToken_155 FU (si (si (si (si (si S 13 (gi S 11)) 14 r1) 15 (0 : Int32)) 16 (0 : Int32)) 12 (2 : Int32))) else F_Rd_nextToken_102 FU (si (si (si (si (si S 13 (gi S 11)) 14 r1) 15 (0 : Int32)) 16 (0 : Int32)) 12 (1 : Int32))) else some ((), (si (si (si (si (si S 13 (gi S 11)) 14 r1) 15 (0 : Int32)) 16 (0 : Int32)) 12 (0 : Int32))))
set_option maxRecDepth 100000 in
theorem X_Rd_nextToken_38 {nL : Nat} {xs : Nat → Int32} {M : Sto} {O : Sto} {d : Nat} (hd : 2 ≤ d) : ∀ (S : Sto) (r : Unit) (S' : Sto), F_Rd_nextToken_38 S = some (r, S') → EX nL xs 0 MI_9 d 38 [some (.ref 1)] [] (S, M, O) (.inl none) (S', M, O) := by
  intro S r S' hF
  unfold F_Rd_nextToken_38 at hF
  refine Ex_go 8 (pc' := 52) (L' := [some (.ref 1)]) (st' := [.int (gi (si S 13 (gi S 11)) 11), .ref 1, .ref 1]) (σ' := ((si S 13 (gi S 11)), M, O)) (rfl) ?_
  obtain ⟨r1, hx2, hF⟩ := b1_i hF
  refine Ex_call (kind := 2) (y := 5) (as := [.ref 1, .int (gi (si S 13 (gi S 11)) 11)]) (rest := [.ref 1]) (L0 := [some (.ref 1), some (.int (gi (si S 13 (gi S 11)) 11))]) (d' := 1) (v := some (.int r1)) (σ1 := ((si S 13 (gi S 11)), M, O)) rfl rfl mt_5 rfl rfl (by omega) (X_Rd_byteAt (Nat.le_refl _) _ _ _ hx2) (Ex_st (st2 := [.int r1, .ref 1]) rfl ?_)
  refine Ex_go 10 (pc' := 73) (L' := [some (.ref 1)]) (st' := [.ref 1, .int (gi (si (si (si (si S 13 (gi S 11)) 14 r1) 15 (0 : Int32)) 16 (0 : Int32)) 11)]) (σ' := ((si (si (si (si S 13 (gi S 11)) 14 r1) 15 (0 : Int32)) 16 (0 : Int32)), M, O)) (rfl) ?_
  refine Ex_go 2 (pc' := if (gi (si (si (si (si S 13 (gi S 11)) 14 r1) 15 (0 : Int32)) 16 (0 : Int32)) 11) < (gi (si (si (si (si S 13 (gi S 11)) 14 r1) 15 (0 : Int32)) 16 (0 : Int32)) 10) then 87 else 79) (L' := [some (.ref 1)]) (st' := []) (σ' := ((si (si (si (si S 13 (gi S 11)) 14 r1) 15 (0 : Int32)) 16 (0 : Int32)), M, O)) (rfl) ?_
  refine Ex_br (fun hc => ?_) (fun hc => ?_)
  · rw [if_pos hc] at hF
    refine Ex_go 2 (pc' := 91) (L' := [some (.ref 1)]) (st' := [.int (gi (si (si (si (si S 13 (gi S 11)) 14 r1) 15 (0 : Int32)) 16 (0 : Int32)) 14)]) (σ' := ((si (si (si (si S 13 (gi S 11)) 14 r1) 15 (0 : Int32)) 16 (0 : Int32)), M, O)) (rfl) ?_
    obtain ⟨r3, hx4, hF⟩ := b1_i hF
    refine Ex_call (kind := 0) (y := 7) (as := [.int (gi (si (si (si (si S 13 (gi S 11)) 14 r1) 15 (0 : Int32)) 16 (0 : Int32)) 14)]) (rest := []) (L0 := [some (.int (gi (si (si (si (si S 13 (gi S 11)) 14 r1) 15 (0 : Int32)) 16 (0 : Int32)) 14))]) (d' := 1) (v := some (.int r3)) (σ1 := ((si (si (si (si S 13 (gi S 11)) 14 r1) 15 (0 : Int32)) 16 (0 : Int32)), M, O)) rfl rfl mt_7 rfl rfl (by omega) (X_Rd_isLetter (Nat.le_refl _) _ _ hx4) (Ex_st (st2 := [.int r3]) rfl ?_)
    refine Ex_go 1 (pc' := if r3 = 0 then 140 else 97) (L' := [some (.ref 1)]) (st' := []) (σ' := ((si (si (si (si S 13 (gi S 11)) 14 r1) 15 (0 : Int32)) 16 (0 : Int32)), M, O)) (rfl) ?_
    refine Ex_br (fun hc => ?_) (fun hc => ?_)
    · rw [if_pos hc] at hF
      refine Ex_go 2 (pc' := 144) (L' := [some (.ref 1)]) (st' := [.int (gi (si (si (si (si S 13 (gi S 11)) 14 r1) 15 (0 : Int32)) 16 (0 : Int32)) 14)]) (σ' := ((si (si (si (si S 13 (gi S 11)) 14 r1) 15 (0 : Int32)) 16 (0 : Int32)), M, O)) (rfl) ?_
      obtain ⟨r5, hx6, hF⟩ := b1_i hF
      refine Ex_call (kind := 0) (y := 8) (as := [.int (gi (si (si (si (si S 13 (gi S 11)) 14 r1) 15 (0 : Int32)) 16 (0 : Int32)) 14)]) (rest := []) (L0 := [some (.int (gi (si (si (si (si S 13 (gi S 11)) 14 r1) 15 (0 : Int32)) 16 (0 : Int32)) 14))]) (d' := 1) (v := some (.int r5)) (σ1 := ((si (si (si (si S 13 (gi S 11)) 14 r1) 15 (0 : Int32)) 16 (0 : Int32)), M, O)) rfl rfl mt_8 rfl rfl (by omega) (X_Rd_isDigit (Nat.le_refl _) _ _ hx6) (Ex_st (st2 := [.int r5]) rfl ?_)
      refine Ex_go 1 (pc' := if r5 = 0 then 241 else 150) (L' := [some (.ref 1)]) (st' := []) (σ' := ((si (si (si (si S 13 (gi S 11)) 14 r1) 15 (0 : Int32)) 16 (0 : Int32)), M, O)) (rfl) ?_
      refine Ex_br (fun hc => ?_) (fun hc => ?_)
      · rw [if_pos hc] at hF
        refine Ex_go 9 (pc' := 256) (L' := [some (.ref 1)]) (st' := []) (σ' := ((si (si (si (si (si (si S 13 (gi S 11)) 14 r1) 15 (0 : Int32)) 16 (0 : Int32)) 12 (3 : Int32)) 11 ((gi (si (si (si (si (si S 13 (gi S 11)) 14 r1) 15 (0 : Int32)) 16 (0 : Int32)) 12 (3 : Int32)) 11) + (1 : Int32))), M, O)) (rfl) ?_
        cases hF
        exact Ex_fin rfl
      · rw [if_neg hc] at hF
        refine Ex_go 3 (pc' := 155) (L' := [some (.ref 1)]) (st' := []) (σ' := ((si (si (si (si (si S 13 (gi S 11)) 14 r1) 15 (0 : Int32)) 16 (0 : Int32)) 12 (2 : Int32)), M, O)) (rfl) ?_
        exact Ex_mono (L := [some (.ref 1)]) (Le_s (Le_0)) (X_Rd_nextToken_155 hd FU _ _ _ hF) (Nat.le_refl _) (by omega)
    · rw [if_neg hc] at hF
      refine Ex_go 3 (pc' := 102) (L' := [some (.ref 1)]) (st' := []) (σ' := ((si (si (si (si (si S 13 (gi S 11)) 14 r1) 15 (0 : Int32)) 16 (0 : Int32)) 12 (1 : Int32)), M, O)) (rfl) ?_
      exact Ex_mono (L := [some (.ref 1)]) (Le_s (Le_0)) (X_Rd_nextToken_102 hd FU _ _ _ hF) (Nat.le_refl _) (by omega)
  · rw [if_neg hc] at hF
    refine Ex_go 4 (pc' := 256) (L' := [some (.ref 1)]) (st' := []) (σ' := ((si (si (si (si (si S 13 (gi S 11)) 14 r1) 15 (0 : Int32)) 16 (0 : Int32)) 12 (0 : Int32)), M, O)) (rfl) ?_
    cases hF
    exact Ex_fin rfl
def F_Rd_nextToken_0 : Nat → Sto → Option (Unit × Sto)
  | 0, _ => none
  | n + 1, S => if (gi S 10) ≤ (gi S 11) then F_Rd_nextToken_38 S else b1 (F_Rd_byteAt (gi S 11) S) (fun r1 => b1 (F_Rd_isBlank r1) (fun r3 => if r3 = 0 then F_Rd_nextToken_38 S else F_Rd_nextToken_0 n (si S 11 ((gi S 11) + (1 : Int32)))))
set_option maxRecDepth 100000 in
theorem X_Rd_nextToken_0 {nL : Nat} {xs : Nat → Int32} {M : Sto} {O : Sto} {d : Nat} (hd : 2 ≤ d) : ∀ n : Nat, ∀ (S : Sto) (r : Unit) (S' : Sto), F_Rd_nextToken_0 n S = some (r, S') → EX nL xs 0 MI_9 d 0 [some (.ref 1)] [] (S, M, O) (.inl none) (S', M, O) := by
  intro n
  induction n with
  | zero => intro S r S' hF; cases hF
  | succ n ih =>
  intro S r S' hF
  unfold F_Rd_nextToken_0 at hF
  refine Ex_go 5 (pc' := if (gi S 10) ≤ (gi S 11) then 38 else 11) (L' := [some (.ref 1)]) (st' := []) (σ' := (S, M, O)) (rfl) ?_
  refine Ex_br (fun hc => ?_) (fun hc => ?_)
  · rw [if_pos hc] at hF
    exact Ex_mono (L := [some (.ref 1)]) (Le_s (Le_0)) (X_Rd_nextToken_38 hd _ _ _ hF) (Nat.le_refl _) (by omega)
  · rw [if_neg hc] at hF
    refine Ex_go 3 (pc' := 16) (L' := [some (.ref 1)]) (st' := [.int (gi S 11), .ref 1]) (σ' := (S, M, O)) (rfl) ?_
    obtain ⟨r1, hx2, hF⟩ := b1_i hF
    refine Ex_call (kind := 2) (y := 5) (as := [.ref 1, .int (gi S 11)]) (rest := []) (L0 := [some (.ref 1), some (.int (gi S 11))]) (d' := 1) (v := some (.int r1)) (σ1 := (S, M, O)) rfl rfl mt_5 rfl rfl (by omega) (X_Rd_byteAt (Nat.le_refl _) _ _ _ hx2) (Ex_st (st2 := [.int r1]) rfl ?_)
    obtain ⟨r3, hx4, hF⟩ := b1_i hF
    refine Ex_call (kind := 0) (y := 6) (as := [.int r1]) (rest := []) (L0 := [some (.int r1)]) (d' := 1) (v := some (.int r3)) (σ1 := (S, M, O)) rfl rfl mt_6 rfl rfl (by omega) (X_Rd_isBlank (Nat.le_refl _) _ _ hx4) (Ex_st (st2 := [.int r3]) rfl ?_)
    refine Ex_go 1 (pc' := if r3 = 0 then 38 else 25) (L' := [some (.ref 1)]) (st' := []) (σ' := (S, M, O)) (rfl) ?_
    refine Ex_br (fun hc => ?_) (fun hc => ?_)
    · rw [if_pos hc] at hF
      exact Ex_mono (L := [some (.ref 1)]) (Le_s (Le_0)) (X_Rd_nextToken_38 hd _ _ _ hF) (Nat.le_refl _) (by omega)
    · rw [if_neg hc] at hF
      refine Ex_go 7 (pc' := 0) (L' := [some (.ref 1)]) (st' := []) (σ' := ((si S 11 ((gi S 11) + (1 : Int32))), M, O)) (rfl) ?_
      exact Ex_mono (L := [some (.ref 1)]) (Le_s (Le_0)) (ih _ _ _ hF) (Nat.le_refl _) (by omega)
def F_Rd_nextToken (S : Sto) : Option (Unit × Sto) := F_Rd_nextToken_0 FU S
set_option maxRecDepth 100000 in
theorem X_Rd_nextToken {nL : Nat} {xs : Nat → Int32} {M : Sto} {O : Sto} {d : Nat} (hd : 2 ≤ d) : ∀ (S : Sto) (r : Unit) (S' : Sto), F_Rd_nextToken S = some (r, S') → EX nL xs 0 MI_9 d 0 [some (.ref 1)] [] (S, M, O) (.inl none) (S', M, O) := by
  intro S r S' hF
  exact Ex_mono (Le_s (Le_0)) (X_Rd_nextToken_0 hd FU S r S' hF) (Nat.le_refl _) (by omega)
def F_Rd_isWord_28 : Nat → Nat → Int32 → Sto → Option Int32
  | 0, _, _, _ => none
  | n + 1, p1, x2, S => if (sln p1) ≤ x2 then some (1 : Int32) else b1 (F_Rd_byteAt ((gi S 13) + x2) S) (fun r1 => ck (ib x2 (stl p1)) (if r1 = (sch p1 x2) then F_Rd_isWord_28 n p1 (x2 + (1 : Int32)) S else some (0 : Int32)))
set_option maxRecDepth 100000 in
theorem X_Rd_isWord_28 {nL : Nat} {xs : Nat → Int32} {M : Sto} {O : Sto} {d : Nat} (hd : 6 ≤ d) : ∀ n : Nat, ∀ (p1 : Nat) (x2 : Int32) (S : Sto) (r : Int32), isS p1 → F_Rd_isWord_28 n p1 x2 S = some r → EX nL xs 0 MI_10 d 28 [some (.ref 1), some (.ref p1), some (.int x2)] [] (S, M, O) (.inl (some (.int r))) (S, M, O) := by
  intro n
  induction n with
  | zero => intro p1 x2 S r hp1 hF; cases hF
  | succ n ih =>
  intro p1 x2 S r hp1 hF
  unfold F_Rd_isWord_28 at hF
  refine Ex_go 2 (pc' := 30) (L' := [some (.ref 1), some (.ref p1), some (.int x2)]) (st' := [.ref p1, .int x2]) (σ' := (S, M, O)) (rfl) ?_
  refine Ex_blt (kind := 7) (y := 0) (as := [.ref p1]) (rest := [.int x2]) (v := .int (sln p1)) rfl (blt_len hp1) (by omega) ?_
  refine Ex_go 1 (pc' := if (sln p1) ≤ x2 then 62 else 36) (L' := [some (.ref 1), some (.ref p1), some (.int x2)]) (st' := []) (σ' := (S, M, O)) (rfl) ?_
  refine Ex_br (fun hc => ?_) (fun hc => ?_)
  · rw [if_pos hc] at hF
    refine Ex_go 1 (pc' := 63) (L' := [some (.ref 1), some (.ref p1), some (.int x2)]) (st' := [.int (1 : Int32)]) (σ' := (S, M, O)) (rfl) ?_
    cases hF
    exact Ex_fin rfl
  · rw [if_neg hc] at hF
    refine Ex_go 5 (pc' := 43) (L' := [some (.ref 1), some (.ref p1), some (.int x2)]) (st' := [.int ((gi S 13) + x2), .ref 1]) (σ' := (S, M, O)) (rfl) ?_
    obtain ⟨r1, hx2, hF⟩ := b1_i hF
    refine Ex_call (kind := 2) (y := 5) (as := [.ref 1, .int ((gi S 13) + x2)]) (rest := []) (L0 := [some (.ref 1), some (.int ((gi S 13) + x2))]) (d' := 1) (v := some (.int r1)) (σ1 := (S, M, O)) rfl rfl mt_5 rfl rfl (by omega) (X_Rd_byteAt (Nat.le_refl _) _ _ _ hx2) (Ex_st (st2 := [.int r1]) rfl ?_)
    refine Ex_go 2 (pc' := 48) (L' := [some (.ref 1), some (.ref p1), some (.int x2)]) (st' := [.int x2, .ref p1, .int r1]) (σ' := (S, M, O)) (rfl) ?_
    obtain ⟨hc3, hF⟩ := ck_i hF
    refine Ex_blt (kind := 8) (y := 0) (as := [.ref p1, .int x2]) (rest := [.int r1]) (v := .int (sch p1 x2)) rfl (blt_chr hp1 hc3) (by omega) ?_
    refine Ex_go 1 (pc' := if r1 = (sch p1 x2) then 56 else 54) (L' := [some (.ref 1), some (.ref p1), some (.int x2)]) (st' := []) (σ' := (S, M, O)) (rfl) ?_
    refine Ex_br (fun hc => ?_) (fun hc => ?_)
    · rw [if_pos hc] at hF
      refine Ex_go 2 (pc' := 28) (L' := [some (.ref 1), some (.ref p1), some (.int (x2 + (1 : Int32)))]) (st' := []) (σ' := (S, M, O)) (rfl) ?_
      exact Ex_mono (L := [some (.ref 1), some (.ref p1), some (.int (x2 + (1 : Int32)))]) (Le_s (Le_s (Le_s (Le_0)))) (ih _ _ _ _ hp1 hF) (Nat.le_refl _) (by omega)
    · rw [if_neg hc] at hF
      refine Ex_go 1 (pc' := 55) (L' := [some (.ref 1), some (.ref p1), some (.int x2)]) (st' := [.int (0 : Int32)]) (σ' := (S, M, O)) (rfl) ?_
      cases hF
      exact Ex_fin rfl
def F_Rd_isWord (p1 : Nat) (S : Sto) : Option Int32 := if (gi S 12) = (1 : Int32) then if ((gi S 11) - (gi S 13)) = (sln p1) then F_Rd_isWord_28 FU p1 (0 : Int32) S else some (0 : Int32) else some (0 : Int32)
set_option maxRecDepth 100000 in
theorem X_Rd_isWord {nL : Nat} {xs : Nat → Int32} {M : Sto} {O : Sto} {d : Nat} (hd : 6 ≤ d) : ∀ (p1 : Nat) (S : Sto) (r : Int32), isS p1 → F_Rd_isWord p1 S = some r → EX nL xs 0 MI_10 d 0 [some (.ref 1), some (.ref p1), none] [] (S, M, O) (.inl (some (.int r))) (S, M, O) := by
  intro p1 S r hp1 hF
  unfold F_Rd_isWord at hF
  refine Ex_go 4 (pc' := if ¬ (gi S 12) = (1 : Int32) then 24 else 8) (L' := [some (.ref 1), some (.ref p1), none]) (st' := []) (σ' := (S, M, O)) (rfl) ?_
  refine Ex_brN (fun hc => ?_) (fun hc => ?_)
  · rw [if_pos hc] at hF
    refine Ex_go 6 (pc' := 18) (L' := [some (.ref 1), some (.ref p1), none]) (st' := [.ref p1, .int ((gi S 11) - (gi S 13))]) (σ' := (S, M, O)) (rfl) ?_
    refine Ex_blt (kind := 7) (y := 0) (as := [.ref p1]) (rest := [.int ((gi S 11) - (gi S 13))]) (v := .int (sln p1)) rfl (blt_len hp1) (by omega) ?_
    refine Ex_go 1 (pc' := if ((gi S 11) - (gi S 13)) = (sln p1) then 26 else 24) (L' := [some (.ref 1), some (.ref p1), none]) (st' := []) (σ' := (S, M, O)) (rfl) ?_
    refine Ex_br (fun hc => ?_) (fun hc => ?_)
    · rw [if_pos hc] at hF
      refine Ex_go 2 (pc' := 28) (L' := [some (.ref 1), some (.ref p1), some (.int (0 : Int32))]) (st' := []) (σ' := (S, M, O)) (rfl) ?_
      exact Ex_mono (L := [some (.ref 1), some (.ref p1), some (.int (0 : Int32))]) (Le_s (Le_s (Le_s (Le_0)))) (X_Rd_isWord_28 hd FU _ _ _ _ hp1 hF) (Nat.le_refl _) (by omega)
    · rw [if_neg hc] at hF
      refine Ex_go 1 (pc' := 25) (L' := [some (.ref 1), some (.ref p1), none]) (st' := [.int (0 : Int32)]) (σ' := (S, M, O)) (rfl) ?_
      cases hF
      exact Ex_fin rfl
  · rw [if_neg hc] at hF
    refine Ex_go 1 (pc' := 25) (L' := [some (.ref 1), some (.ref p1), none]) (st' := [.int (0 : Int32)]) (σ' := (S, M, O)) (rfl) ?_
    cases hF
    exact Ex_fin rfl
def F_Rd_lineKind (S : Sto) : Option Int32 := b1 (F_Rd_isWord 3000 S) (fun r1 => if r1 = 0 then b1 (F_Rd_isWord 3001 S) (fun r3 => if r3 = 0 then b1 (F_Rd_isWord 3002 S) (fun r5 => if r5 = 0 then b1 (F_Rd_isWord 3003 S) (fun r7 => if r7 = 0 then b1 (F_Rd_isWord 3004 S) (fun r9 => if r9 = 0 then b1 (F_Rd_isWord 3012 S) (fun r11 => if r11 = 0 then b1 (F_Rd_isWord 3013 S) (fun r13 => if r13 = 0 then b1 (F_Rd_isWord 3014 S) (fun r15 => if r15 = 0 then some (-1 : Int32) else some (7 : Int32)) else some (6 : Int32)) else some (5 : Int32)) else some (4 : Int32)) else some (3 : Int32)) else some (2 : Int32)) else some (1 : Int32)) else some (0 : Int32))
set_option maxRecDepth 100000 in
theorem X_Rd_lineKind {nL : Nat} {xs : Nat → Int32} {M : Sto} {O : Sto} {d : Nat} (hd : 7 ≤ d) : ∀ (S : Sto) (r : Int32), F_Rd_lineKind S = some r → EX nL xs 0 MI_11 d 0 [some (.ref 1)] [] (S, M, O) (.inl (some (.int r))) (S, M, O) := by
  intro S r hF
  unfold F_Rd_lineKind at hF
  refine Ex_go 2 (pc' := 3) (L' := [some (.ref 1)]) (st' := [.ref 3000, .ref 1]) (σ' := (S, M, O)) (rfl) ?_
  obtain ⟨r1, hx2, hF⟩ := b1_i hF
  refine Ex_call (kind := 2) (y := 10) (as := [.ref 1, .ref 3000]) (rest := []) (L0 := [some (.ref 1), some (.ref 3000), none]) (d' := 6) (v := some (.int r1)) (σ1 := (S, M, O)) rfl rfl mt_10 rfl rfl (by omega) (X_Rd_isWord (Nat.le_refl _) _ _ _ (by decide) hx2) (Ex_st (st2 := [.int r1]) rfl ?_)
  refine Ex_go 1 (pc' := if r1 = 0 then 11 else 9) (L' := [some (.ref 1)]) (st' := []) (σ' := (S, M, O)) (rfl) ?_
  refine Ex_br (fun hc => ?_) (fun hc => ?_)
  · rw [if_pos hc] at hF
    refine Ex_go 2 (pc' := 14) (L' := [some (.ref 1)]) (st' := [.ref 3001, .ref 1]) (σ' := (S, M, O)) (rfl) ?_
    obtain ⟨r3, hx4, hF⟩ := b1_i hF
    refine Ex_call (kind := 2) (y := 10) (as := [.ref 1, .ref 3001]) (rest := []) (L0 := [some (.ref 1), some (.ref 3001), none]) (d' := 6) (v := some (.int r3)) (σ1 := (S, M, O)) rfl rfl mt_10 rfl rfl (by omega) (X_Rd_isWord (Nat.le_refl _) _ _ _ (by decide) hx4) (Ex_st (st2 := [.int r3]) rfl ?_)
    refine Ex_go 1 (pc' := if r3 = 0 then 22 else 20) (L' := [some (.ref 1)]) (st' := []) (σ' := (S, M, O)) (rfl) ?_
    refine Ex_br (fun hc => ?_) (fun hc => ?_)
    · rw [if_pos hc] at hF
      refine Ex_go 2 (pc' := 25) (L' := [some (.ref 1)]) (st' := [.ref 3002, .ref 1]) (σ' := (S, M, O)) (rfl) ?_
      obtain ⟨r5, hx6, hF⟩ := b1_i hF
      refine Ex_call (kind := 2) (y := 10) (as := [.ref 1, .ref 3002]) (rest := []) (L0 := [some (.ref 1), some (.ref 3002), none]) (d' := 6) (v := some (.int r5)) (σ1 := (S, M, O)) rfl rfl mt_10 rfl rfl (by omega) (X_Rd_isWord (Nat.le_refl _) _ _ _ (by decide) hx6) (Ex_st (st2 := [.int r5]) rfl ?_)
      refine Ex_go 1 (pc' := if r5 = 0 then 33 else 31) (L' := [some (.ref 1)]) (st' := []) (σ' := (S, M, O)) (rfl) ?_
      refine Ex_br (fun hc => ?_) (fun hc => ?_)
      · rw [if_pos hc] at hF
        refine Ex_go 2 (pc' := 36) (L' := [some (.ref 1)]) (st' := [.ref 3003, .ref 1]) (σ' := (S, M, O)) (rfl) ?_
        obtain ⟨r7, hx8, hF⟩ := b1_i hF
        refine Ex_call (kind := 2) (y := 10) (as := [.ref 1, .ref 3003]) (rest := []) (L0 := [some (.ref 1), some (.ref 3003), none]) (d' := 6) (v := some (.int r7)) (σ1 := (S, M, O)) rfl rfl mt_10 rfl rfl (by omega) (X_Rd_isWord (Nat.le_refl _) _ _ _ (by decide) hx8) (Ex_st (st2 := [.int r7]) rfl ?_)
        refine Ex_go 1 (pc' := if r7 = 0 then 44 else 42) (L' := [some (.ref 1)]) (st' := []) (σ' := (S, M, O)) (rfl) ?_
        refine Ex_br (fun hc => ?_) (fun hc => ?_)
        · rw [if_pos hc] at hF
          refine Ex_go 2 (pc' := 47) (L' := [some (.ref 1)]) (st' := [.ref 3004, .ref 1]) (σ' := (S, M, O)) (rfl) ?_
          obtain ⟨r9, hx10, hF⟩ := b1_i hF
          refine Ex_call (kind := 2) (y := 10) (as := [.ref 1, .ref 3004]) (rest := []) (L0 := [some (.ref 1), some (.ref 3004), none]) (d' := 6) (v := some (.int r9)) (σ1 := (S, M, O)) rfl rfl mt_10 rfl rfl (by omega) (X_Rd_isWord (Nat.le_refl _) _ _ _ (by decide) hx10) (Ex_st (st2 := [.int r9]) rfl ?_)
          refine Ex_go 1 (pc' := if r9 = 0 then 55 else 53) (L' := [some (.ref 1)]) (st' := []) (σ' := (S, M, O)) (rfl) ?_
          refine Ex_br (fun hc => ?_) (fun hc => ?_)
          · rw [if_pos hc] at hF
            refine Ex_go 2 (pc' := 58) (L' := [some (.ref 1)]) (st' := [.ref 3012, .ref 1]) (σ' := (S, M, O)) (rfl) ?_
            obtain ⟨r11, hx12, hF⟩ := b1_i hF
            refine Ex_call (kind := 2) (y := 10) (as := [.ref 1, .ref 3012]) (rest := []) (L0 := [some (.ref 1), some (.ref 3012), none]) (d' := 6) (v := some (.int r11)) (σ1 := (S, M, O)) rfl rfl mt_10 rfl rfl (by omega) (X_Rd_isWord (Nat.le_refl _) _ _ _ (by decide) hx12) (Ex_st (st2 := [.int r11]) rfl ?_)
            refine Ex_go 1 (pc' := if r11 = 0 then 66 else 64) (L' := [some (.ref 1)]) (st' := []) (σ' := (S, M, O)) (rfl) ?_
            refine Ex_br (fun hc => ?_) (fun hc => ?_)
            · rw [if_pos hc] at hF
              refine Ex_go 2 (pc' := 69) (L' := [some (.ref 1)]) (st' := [.ref 3013, .ref 1]) (σ' := (S, M, O)) (rfl) ?_
              obtain ⟨r13, hx14, hF⟩ := b1_i hF
              refine Ex_call (kind := 2) (y := 10) (as := [.ref 1, .ref 3013]) (rest := []) (L0 := [some (.ref 1), some (.ref 3013), none]) (d' := 6) (v := some (.int r13)) (σ1 := (S, M, O)) rfl rfl mt_10 rfl rfl (by omega) (X_Rd_isWord (Nat.le_refl _) _ _ _ (by decide) hx14) (Ex_st (st2 := [.int r13]) rfl ?_)
              refine Ex_go 1 (pc' := if r13 = 0 then 78 else 75) (L' := [some (.ref 1)]) (st' := []) (σ' := (S, M, O)) (rfl) ?_
              refine Ex_br (fun hc => ?_) (fun hc => ?_)
              · rw [if_pos hc] at hF
                refine Ex_go 2 (pc' := 81) (L' := [some (.ref 1)]) (st' := [.ref 3014, .ref 1]) (σ' := (S, M, O)) (rfl) ?_
                obtain ⟨r15, hx16, hF⟩ := b1_i hF
                refine Ex_call (kind := 2) (y := 10) (as := [.ref 1, .ref 3014]) (rest := []) (L0 := [some (.ref 1), some (.ref 3014), none]) (d' := 6) (v := some (.int r15)) (σ1 := (S, M, O)) rfl rfl mt_10 rfl rfl (by omega) (X_Rd_isWord (Nat.le_refl _) _ _ _ (by decide) hx16) (Ex_st (st2 := [.int r15]) rfl ?_)
                refine Ex_go 1 (pc' := if r15 = 0 then 90 else 87) (L' := [some (.ref 1)]) (st' := []) (σ' := (S, M, O)) (rfl) ?_
                refine Ex_br (fun hc => ?_) (fun hc => ?_)
                · rw [if_pos hc] at hF
                  refine Ex_go 1 (pc' := 91) (L' := [some (.ref 1)]) (st' := [.int (-1 : Int32)]) (σ' := (S, M, O)) (rfl) ?_
                  cases hF
                  exact Ex_fin rfl
                · rw [if_neg hc] at hF
                  refine Ex_go 1 (pc' := 89) (L' := [some (.ref 1)]) (st' := [.int (7 : Int32)]) (σ' := (S, M, O)) (rfl) ?_
                  cases hF
                  exact Ex_fin rfl
              · rw [if_neg hc] at hF
                refine Ex_go 1 (pc' := 77) (L' := [some (.ref 1)]) (st' := [.int (6 : Int32)]) (σ' := (S, M, O)) (rfl) ?_
                cases hF
                exact Ex_fin rfl
            · rw [if_neg hc] at hF
              refine Ex_go 1 (pc' := 65) (L' := [some (.ref 1)]) (st' := [.int (5 : Int32)]) (σ' := (S, M, O)) (rfl) ?_
              cases hF
              exact Ex_fin rfl
          · rw [if_neg hc] at hF
            refine Ex_go 1 (pc' := 54) (L' := [some (.ref 1)]) (st' := [.int (4 : Int32)]) (σ' := (S, M, O)) (rfl) ?_
            cases hF
            exact Ex_fin rfl
        · rw [if_neg hc] at hF
          refine Ex_go 1 (pc' := 43) (L' := [some (.ref 1)]) (st' := [.int (3 : Int32)]) (σ' := (S, M, O)) (rfl) ?_
          cases hF
          exact Ex_fin rfl
      · rw [if_neg hc] at hF
        refine Ex_go 1 (pc' := 32) (L' := [some (.ref 1)]) (st' := [.int (2 : Int32)]) (σ' := (S, M, O)) (rfl) ?_
        cases hF
        exact Ex_fin rfl
    · rw [if_neg hc] at hF
      refine Ex_go 1 (pc' := 21) (L' := [some (.ref 1)]) (st' := [.int (1 : Int32)]) (σ' := (S, M, O)) (rfl) ?_
      cases hF
      exact Ex_fin rfl
  · rw [if_neg hc] at hF
    refine Ex_go 1 (pc' := 10) (L' := [some (.ref 1)]) (st' := [.int (0 : Int32)]) (σ' := (S, M, O)) (rfl) ?_
    cases hF
    exact Ex_fin rfl
def F_Rd_isSign (x1 : Int32) (S : Sto) : Option Int32 := if (gi S 12) = (3 : Int32) then if (gi S 14) = x1 then some (1 : Int32) else some (0 : Int32) else some (0 : Int32)
set_option maxRecDepth 100000 in
theorem X_Rd_isSign {nL : Nat} {xs : Nat → Int32} {M : Sto} {O : Sto} {d : Nat} (hd : 1 ≤ d) : ∀ (x1 : Int32) (S : Sto) (r : Int32), F_Rd_isSign x1 S = some r → EX nL xs 0 MI_18 d 0 [some (.ref 1), some (.int x1)] [] (S, M, O) (.inl (some (.int r))) (S, M, O) := by
  intro x1 S r hF
  unfold F_Rd_isSign at hF
  refine Ex_go 4 (pc' := if ¬ (gi S 12) = (3 : Int32) then 20 else 8) (L' := [some (.ref 1), some (.int x1)]) (st' := []) (σ' := (S, M, O)) (rfl) ?_
  refine Ex_brN (fun hc => ?_) (fun hc => ?_)
  · rw [if_pos hc] at hF
    refine Ex_go 4 (pc' := if ¬ (gi S 14) = x1 then 20 else 16) (L' := [some (.ref 1), some (.int x1)]) (st' := []) (σ' := (S, M, O)) (rfl) ?_
    refine Ex_brN (fun hc => ?_) (fun hc => ?_)
    · rw [if_pos hc] at hF
      refine Ex_go 2 (pc' := 21) (L' := [some (.ref 1), some (.int x1)]) (st' := [.int (1 : Int32)]) (σ' := (S, M, O)) (rfl) ?_
      cases hF
      exact Ex_fin rfl
    · rw [if_neg hc] at hF
      refine Ex_go 1 (pc' := 21) (L' := [some (.ref 1), some (.int x1)]) (st' := [.int (0 : Int32)]) (σ' := (S, M, O)) (rfl) ?_
      cases hF
      exact Ex_fin rfl
  · rw [if_neg hc] at hF
    refine Ex_go 1 (pc' := 21) (L' := [some (.ref 1), some (.int x1)]) (st' := [.int (0 : Int32)]) (σ' := (S, M, O)) (rfl) ?_
    cases hF
    exact Ex_fin rfl
def F_Rd_fail (x1 : Int32) (S : Sto) : Option (Unit × Sto) := if (gi S 9) = 0 then some ((), (si (si S 9 x1) 8 (gi (si S 9 x1) 13))) else some ((), S)
set_option maxRecDepth 100000 in
theorem X_Rd_fail {nL : Nat} {xs : Nat → Int32} {M : Sto} {O : Sto} {d : Nat} (hd : 1 ≤ d) : ∀ (x1 : Int32) (S : Sto) (r : Unit) (S' : Sto), F_Rd_fail x1 S = some (r, S') → EX nL xs 0 MI_12 d 0 [some (.ref 1), some (.int x1)] [] (S, M, O) (.inl none) (S', M, O) := by
  intro x1 S r S' hF
  unfold F_Rd_fail at hF
  refine Ex_go 3 (pc' := if ¬ (gi S 9) = 0 then 20 else 7) (L' := [some (.ref 1), some (.int x1)]) (st' := []) (σ' := (S, M, O)) (rfl) ?_
  refine Ex_brN (fun hc => ?_) (fun hc => ?_)
  · rw [if_pos hc] at hF
    refine Ex_go 7 (pc' := 20) (L' := [some (.ref 1), some (.int x1)]) (st' := []) (σ' := ((si (si S 9 x1) 8 (gi (si S 9 x1) 13)), M, O)) (rfl) ?_
    cases hF
    exact Ex_fin rfl
  · rw [if_neg hc] at hF
    cases hF
    exact Ex_fin rfl
def F_Rd_expectSign (x1 : Int32) (S : Sto) : Option (Unit × Sto) := b1 (F_Rd_isSign x1 S) (fun r1 => if r1 = 0 then b2 (F_Rd_fail (1 : Int32) S) (fun r3 S5 => some ((), S5)) else b2 (F_Rd_nextToken S) (fun r6 S8 => some ((), S8)))
set_option maxRecDepth 100000 in
theorem X_Rd_expectSign {nL : Nat} {xs : Nat → Int32} {M : Sto} {O : Sto} {d : Nat} (hd : 3 ≤ d) : ∀ (x1 : Int32) (S : Sto) (r : Unit) (S' : Sto), F_Rd_expectSign x1 S = some (r, S') → EX nL xs 0 MI_22 d 0 [some (.ref 1), some (.int x1)] [] (S, M, O) (.inl none) (S', M, O) := by
  intro x1 S r S' hF
  unfold F_Rd_expectSign at hF
  refine Ex_go 2 (pc' := 2) (L' := [some (.ref 1), some (.int x1)]) (st' := [.int x1, .ref 1]) (σ' := (S, M, O)) (rfl) ?_
  obtain ⟨r1, hx2, hF⟩ := b1_i hF
  refine Ex_call (kind := 2) (y := 18) (as := [.ref 1, .int x1]) (rest := []) (L0 := [some (.ref 1), some (.int x1)]) (d' := 1) (v := some (.int r1)) (σ1 := (S, M, O)) rfl rfl mt_18 rfl rfl (by omega) (X_Rd_isSign (Nat.le_refl _) _ _ _ hx2) (Ex_st (st2 := [.int r1]) rfl ?_)
  refine Ex_go 1 (pc' := if r1 = 0 then 15 else 8) (L' := [some (.ref 1), some (.int x1)]) (st' := []) (σ' := (S, M, O)) (rfl) ?_
  refine Ex_br (fun hc => ?_) (fun hc => ?_)
  · rw [if_pos hc] at hF
    refine Ex_go 2 (pc' := 17) (L' := [some (.ref 1), some (.int x1)]) (st' := [.int (1 : Int32), .ref 1]) (σ' := (S, M, O)) (rfl) ?_
    obtain ⟨r3, S5, hx4, hF⟩ := b2_i hF
    refine Ex_call (kind := 2) (y := 12) (as := [.ref 1, .int (1 : Int32)]) (rest := []) (L0 := [some (.ref 1), some (.int (1 : Int32))]) (d' := 1) (v := none) (σ1 := (S5, M, O)) rfl rfl mt_12 rfl rfl (by omega) (X_Rd_fail (Nat.le_refl _) _ _ _ _ hx4) (Ex_st (st2 := []) rfl ?_)
    cases hF
    exact Ex_fin rfl
  · rw [if_neg hc] at hF
    refine Ex_go 1 (pc' := 9) (L' := [some (.ref 1), some (.int x1)]) (st' := [.ref 1]) (σ' := (S, M, O)) (rfl) ?_
    obtain ⟨r6, S8, hx7, hF⟩ := b2_i hF
    refine Ex_call (kind := 2) (y := 9) (as := [.ref 1]) (rest := []) (L0 := [some (.ref 1)]) (d' := 2) (v := none) (σ1 := (S8, M, O)) rfl rfl mt_9 rfl rfl (by omega) (X_Rd_nextToken (Nat.le_refl _) _ _ _ hx7) (Ex_st (st2 := []) rfl ?_)
    refine Ex_go 1 (pc' := 20) (L' := [some (.ref 1), some (.int x1)]) (st' := []) (σ' := (S8, M, O)) (rfl) ?_
    cases hF
    exact Ex_fin rfl
def F_Rd_valueCode (S : Sto) : Option Int32 := b1 (F_Rd_isWord 3005 S) (fun r1 => if r1 = 0 then b1 (F_Rd_isWord 3006 S) (fun r3 => if r3 = 0 then b1 (F_Rd_isWord 3007 S) (fun r5 => if r5 = 0 then b1 (F_Rd_isWord 3008 S) (fun r7 => if r7 = 0 then b1 (F_Rd_isWord 3009 S) (fun r9 => if r9 = 0 then b1 (F_Rd_isWord 3010 S) (fun r11 => if r11 = 0 then b1 (F_Rd_isWord 3011 S) (fun r13 => if r13 = 0 then some (-1 : Int32) else some (7 : Int32)) else some (6 : Int32)) else some (5 : Int32)) else some (4 : Int32)) else some (3 : Int32)) else some (2 : Int32)) else some (1 : Int32))
set_option maxRecDepth 100000 in
theorem X_Rd_valueCode {nL : Nat} {xs : Nat → Int32} {M : Sto} {O : Sto} {d : Nat} (hd : 7 ≤ d) : ∀ (S : Sto) (r : Int32), F_Rd_valueCode S = some r → EX nL xs 0 MI_20 d 0 [some (.ref 1)] [] (S, M, O) (.inl (some (.int r))) (S, M, O) := by
  intro S r hF
  unfold F_Rd_valueCode at hF
  refine Ex_go 2 (pc' := 3) (L' := [some (.ref 1)]) (st' := [.ref 3005, .ref 1]) (σ' := (S, M, O)) (rfl) ?_
  obtain ⟨r1, hx2, hF⟩ := b1_i hF
  refine Ex_call (kind := 2) (y := 10) (as := [.ref 1, .ref 3005]) (rest := []) (L0 := [some (.ref 1), some (.ref 3005), none]) (d' := 6) (v := some (.int r1)) (σ1 := (S, M, O)) rfl rfl mt_10 rfl rfl (by omega) (X_Rd_isWord (Nat.le_refl _) _ _ _ (by decide) hx2) (Ex_st (st2 := [.int r1]) rfl ?_)
  refine Ex_go 1 (pc' := if r1 = 0 then 11 else 9) (L' := [some (.ref 1)]) (st' := []) (σ' := (S, M, O)) (rfl) ?_
  refine Ex_br (fun hc => ?_) (fun hc => ?_)
  · rw [if_pos hc] at hF
    refine Ex_go 2 (pc' := 14) (L' := [some (.ref 1)]) (st' := [.ref 3006, .ref 1]) (σ' := (S, M, O)) (rfl) ?_
    obtain ⟨r3, hx4, hF⟩ := b1_i hF
    refine Ex_call (kind := 2) (y := 10) (as := [.ref 1, .ref 3006]) (rest := []) (L0 := [some (.ref 1), some (.ref 3006), none]) (d' := 6) (v := some (.int r3)) (σ1 := (S, M, O)) rfl rfl mt_10 rfl rfl (by omega) (X_Rd_isWord (Nat.le_refl _) _ _ _ (by decide) hx4) (Ex_st (st2 := [.int r3]) rfl ?_)
    refine Ex_go 1 (pc' := if r3 = 0 then 22 else 20) (L' := [some (.ref 1)]) (st' := []) (σ' := (S, M, O)) (rfl) ?_
    refine Ex_br (fun hc => ?_) (fun hc => ?_)
    · rw [if_pos hc] at hF
      refine Ex_go 2 (pc' := 25) (L' := [some (.ref 1)]) (st' := [.ref 3007, .ref 1]) (σ' := (S, M, O)) (rfl) ?_
      obtain ⟨r5, hx6, hF⟩ := b1_i hF
      refine Ex_call (kind := 2) (y := 10) (as := [.ref 1, .ref 3007]) (rest := []) (L0 := [some (.ref 1), some (.ref 3007), none]) (d' := 6) (v := some (.int r5)) (σ1 := (S, M, O)) rfl rfl mt_10 rfl rfl (by omega) (X_Rd_isWord (Nat.le_refl _) _ _ _ (by decide) hx6) (Ex_st (st2 := [.int r5]) rfl ?_)
      refine Ex_go 1 (pc' := if r5 = 0 then 33 else 31) (L' := [some (.ref 1)]) (st' := []) (σ' := (S, M, O)) (rfl) ?_
      refine Ex_br (fun hc => ?_) (fun hc => ?_)
      · rw [if_pos hc] at hF
        refine Ex_go 2 (pc' := 36) (L' := [some (.ref 1)]) (st' := [.ref 3008, .ref 1]) (σ' := (S, M, O)) (rfl) ?_
        obtain ⟨r7, hx8, hF⟩ := b1_i hF
        refine Ex_call (kind := 2) (y := 10) (as := [.ref 1, .ref 3008]) (rest := []) (L0 := [some (.ref 1), some (.ref 3008), none]) (d' := 6) (v := some (.int r7)) (σ1 := (S, M, O)) rfl rfl mt_10 rfl rfl (by omega) (X_Rd_isWord (Nat.le_refl _) _ _ _ (by decide) hx8) (Ex_st (st2 := [.int r7]) rfl ?_)
        refine Ex_go 1 (pc' := if r7 = 0 then 44 else 42) (L' := [some (.ref 1)]) (st' := []) (σ' := (S, M, O)) (rfl) ?_
        refine Ex_br (fun hc => ?_) (fun hc => ?_)
        · rw [if_pos hc] at hF
          refine Ex_go 2 (pc' := 47) (L' := [some (.ref 1)]) (st' := [.ref 3009, .ref 1]) (σ' := (S, M, O)) (rfl) ?_
          obtain ⟨r9, hx10, hF⟩ := b1_i hF
          refine Ex_call (kind := 2) (y := 10) (as := [.ref 1, .ref 3009]) (rest := []) (L0 := [some (.ref 1), some (.ref 3009), none]) (d' := 6) (v := some (.int r9)) (σ1 := (S, M, O)) rfl rfl mt_10 rfl rfl (by omega) (X_Rd_isWord (Nat.le_refl _) _ _ _ (by decide) hx10) (Ex_st (st2 := [.int r9]) rfl ?_)
          refine Ex_go 1 (pc' := if r9 = 0 then 55 else 53) (L' := [some (.ref 1)]) (st' := []) (σ' := (S, M, O)) (rfl) ?_
          refine Ex_br (fun hc => ?_) (fun hc => ?_)
          · rw [if_pos hc] at hF
            refine Ex_go 2 (pc' := 58) (L' := [some (.ref 1)]) (st' := [.ref 3010, .ref 1]) (σ' := (S, M, O)) (rfl) ?_
            obtain ⟨r11, hx12, hF⟩ := b1_i hF
            refine Ex_call (kind := 2) (y := 10) (as := [.ref 1, .ref 3010]) (rest := []) (L0 := [some (.ref 1), some (.ref 3010), none]) (d' := 6) (v := some (.int r11)) (σ1 := (S, M, O)) rfl rfl mt_10 rfl rfl (by omega) (X_Rd_isWord (Nat.le_refl _) _ _ _ (by decide) hx12) (Ex_st (st2 := [.int r11]) rfl ?_)
            refine Ex_go 1 (pc' := if r11 = 0 then 67 else 64) (L' := [some (.ref 1)]) (st' := []) (σ' := (S, M, O)) (rfl) ?_
            refine Ex_br (fun hc => ?_) (fun hc => ?_)
            · rw [if_pos hc] at hF
              refine Ex_go 2 (pc' := 70) (L' := [some (.ref 1)]) (st' := [.ref 3011, .ref 1]) (σ' := (S, M, O)) (rfl) ?_
              obtain ⟨r13, hx14, hF⟩ := b1_i hF
              refine Ex_call (kind := 2) (y := 10) (as := [.ref 1, .ref 3011]) (rest := []) (L0 := [some (.ref 1), some (.ref 3011), none]) (d' := 6) (v := some (.int r13)) (σ1 := (S, M, O)) rfl rfl mt_10 rfl rfl (by omega) (X_Rd_isWord (Nat.le_refl _) _ _ _ (by decide) hx14) (Ex_st (st2 := [.int r13]) rfl ?_)
              refine Ex_go 1 (pc' := if r13 = 0 then 79 else 76) (L' := [some (.ref 1)]) (st' := []) (σ' := (S, M, O)) (rfl) ?_
              refine Ex_br (fun hc => ?_) (fun hc => ?_)
              · rw [if_pos hc] at hF
                refine Ex_go 1 (pc' := 80) (L' := [some (.ref 1)]) (st' := [.int (-1 : Int32)]) (σ' := (S, M, O)) (rfl) ?_
                cases hF
                exact Ex_fin rfl
              · rw [if_neg hc] at hF
                refine Ex_go 1 (pc' := 78) (L' := [some (.ref 1)]) (st' := [.int (7 : Int32)]) (σ' := (S, M, O)) (rfl) ?_
                cases hF
                exact Ex_fin rfl
            · rw [if_neg hc] at hF
              refine Ex_go 1 (pc' := 66) (L' := [some (.ref 1)]) (st' := [.int (6 : Int32)]) (σ' := (S, M, O)) (rfl) ?_
              cases hF
              exact Ex_fin rfl
          · rw [if_neg hc] at hF
            refine Ex_go 1 (pc' := 54) (L' := [some (.ref 1)]) (st' := [.int (5 : Int32)]) (σ' := (S, M, O)) (rfl) ?_
            cases hF
            exact Ex_fin rfl
        · rw [if_neg hc] at hF
          refine Ex_go 1 (pc' := 43) (L' := [some (.ref 1)]) (st' := [.int (4 : Int32)]) (σ' := (S, M, O)) (rfl) ?_
          cases hF
          exact Ex_fin rfl
      · rw [if_neg hc] at hF
        refine Ex_go 1 (pc' := 32) (L' := [some (.ref 1)]) (st' := [.int (3 : Int32)]) (σ' := (S, M, O)) (rfl) ?_
        cases hF
        exact Ex_fin rfl
    · rw [if_neg hc] at hF
      refine Ex_go 1 (pc' := 21) (L' := [some (.ref 1)]) (st' := [.int (2 : Int32)]) (σ' := (S, M, O)) (rfl) ?_
      cases hF
      exact Ex_fin rfl
  · rw [if_neg hc] at hF
    refine Ex_go 1 (pc' := 10) (L' := [some (.ref 1)]) (st' := [.int (1 : Int32)]) (σ' := (S, M, O)) (rfl) ?_
    cases hF
    exact Ex_fin rfl
def F_Ru_add_65 (s1 : Int32) (S : Sto) : Option (Unit × Sto) := ck (b01 s1) (some ((), (si S 3 s1)))
set_option maxRecDepth 100000 in
theorem X_Ru_add_65 {nL : Nat} {xs : Nat → Int32} {M : Sto} {O : Sto} {d : Nat} (hd : 1 ≤ d) : ∀ (s1 : Int32) (S : Sto) (r : Unit) (S' : Sto), F_Ru_add_65 s1 S = some (r, S') → EX nL xs 0 MI_19 d 65 [none, none, none] [.int s1, .ref 9] (S, M, O) (.inl none) (S', M, O) := by
  intro s1 S r S' hF
  unfold F_Ru_add_65 at hF
  obtain ⟨hc1, hF⟩ := ck_i hF
  refine Ex_chk (b := b01 s1) (pc' := 68) (L' := [none, none, none]) (st' := []) (σ' := ((si S 3 s1), M, O)) rfl hc1 ?_
  cases hF
  exact Ex_fin rfl
def F_Ru_add_60 (S : Sto) : Option (Unit × Sto) := F_Ru_add_65 (1 : Int32) S
set_option maxRecDepth 100000 in
theorem X_Ru_add_60 {nL : Nat} {xs : Nat → Int32} {M : Sto} {O : Sto} {d : Nat} (hd : 1 ≤ d) : ∀ (S : Sto) (r : Unit) (S' : Sto), F_Ru_add_60 S = some (r, S') → EX nL xs 0 MI_19 d 60 [none, none, none] [.ref 9] (S, M, O) (.inl none) (S', M, O) := by
  intro S r S' hF
  unfold F_Ru_add_60 at hF
  refine Ex_go 2 (pc' := 65) (L' := [none, none, none]) (st' := [.int (1 : Int32), .ref 9]) (σ' := (S, M, O)) (rfl) ?_
  exact Ex_mono (L := [none, none, none]) (Le_n (Le_n (Le_n (Le_0)))) (X_Ru_add_65 hd _ _ _ _ hF) (Nat.le_refl _) (by omega)
def F_Ru_add (x1 : Int32) (x2 : Int32) (S : Sto) : Option (Unit × Sto) := if (gi S 1) < 0 then some ((), S) else if (500 : Int32) ≤ (gi S 1) then some ((), S) else ck (ib (gi S 1) 500) (ck (ib (gi (ui S 10 (upd (ai S 10) (Int32.toNatClampNeg (gi S 1)) x1)) 1) 500) (if (gi (si (ui (ui S 10 (upd (ai S 10) (Int32.toNatClampNeg (gi S 1)) x1)) 11 (upd (ai (ui S 10 (upd (ai S 10) (Int32.toNatClampNeg (gi S 1)) x1)) 11) (Int32.toNatClampNeg (gi (ui S 10 (upd (ai S 10) (Int32.toNatClampNeg (gi S 1)) x1)) 1)) x2)) 1 ((gi (ui (ui S 10 (upd (ai S 10) (Int32.toNatClampNeg (gi S 1)) x1)) 11 (upd (ai (ui S 10 (upd (ai S 10) (Int32.toNatClampNeg (gi S 1)) x1)) 11) (Int32.toNatClampNeg (gi (ui S 10 (upd (ai S 10) (Int32.toNatClampNeg (gi S 1)) x1)) 1)) x2)) 1) + (1 : Int32))) 3) = 0 then if x1 = (5 : Int32) then F_Ru_add_60 (si (ui (ui S 10 (upd (ai S 10) (Int32.toNatClampNeg (gi S 1)) x1)) 11 (upd (ai (ui S 10 (upd (ai S 10) (Int32.toNatClampNeg (gi S 1)) x1)) 11) (Int32.toNatClampNeg (gi (ui S 10 (upd (ai S 10) (Int32.toNatClampNeg (gi S 1)) x1)) 1)) x2)) 1 ((gi (ui (ui S 10 (upd (ai S 10) (Int32.toNatClampNeg (gi S 1)) x1)) 11 (upd (ai (ui S 10 (upd (ai S 10) (Int32.toNatClampNeg (gi S 1)) x1)) 11) (Int32.toNatClampNeg (gi (ui S 10 (upd (ai S 10) (Int32.toNatClampNeg (gi S 1)) x1)) 1)) x2)) 1) + (1 : Int32))) else F_Ru_add_65 (0 : Int32) (si (ui (ui S 10 (upd (ai S 10) (Int32.toNatClampNeg (gi S 1)) x1)) 11 (upd (ai (ui S 10 (upd (ai S 10) (Int32.toNatClampNeg (gi S 1)) x1)) 11) (Int32.toNatClampNeg (gi (ui S 10 (upd (ai S 10) (Int32.toNatClampNeg (gi S 1)) x1)) 1)) x2)) 1 ((gi (ui (ui S 10 (upd (ai S 10) (Int32.toNatClampNeg (gi S 1)) x1)) 11 (upd (ai (ui S 10 (upd (ai S 10) (Int32.toNatClampNeg (gi S 1)) x1)) 11) (Int32.toNatClampNeg (gi (ui S 10 (upd (ai S 10) (Int32.toNatClampNeg (gi S 1)) x1)) 1)) x2)) 1) + (1 : Int32))) else F_Ru_add_60 (si (ui (ui S 10 (upd (ai S 10) (Int32.toNatClampNeg (gi S 1)) x1)) 11 (upd (ai (ui S 10 (upd (ai S 10) (Int32.toNatClampNeg (gi S 1)) x1)) 11) (Int32.toNatClampNeg (gi (ui S 10 (upd (ai S 10) (Int32.toNatClampNeg (gi S 1)) x1)) 1)) x2)) 1 ((gi (ui (ui S 10 (upd (ai S 10) (Int32.toNatClampNeg (gi S 1)) x1)) 11 (upd (ai (ui S 10 (upd (ai S 10) (Int32.toNatClampNeg (gi S 1)) x1)) 11) (Int32.toNatClampNeg (gi (ui S 10 (upd (ai S 10) (Int32.toNatClampNeg (gi S 1)) x1)) 1)) x2)) 1) + (1 : Int32)))))
set_option maxRecDepth 100000 in
theorem X_Ru_add {nL : Nat} {xs : Nat → Int32} {M : Sto} {O : Sto} {d : Nat} (hd : 1 ≤ d) : ∀ (x1 : Int32) (x2 : Int32) (S : Sto) (r : Unit) (S' : Sto), F_Ru_add x1 x2 S = some (r, S') → EX nL xs 0 MI_19 d 0 [some (.ref 9), some (.int x1), some (.int x2)] [] (S, M, O) (.inl none) (S', M, O) := by
  intro x1 x2 S r S' hF
  unfold F_Ru_add at hF
  refine Ex_go 3 (pc' := if (gi S 1) < 0 then 68 else 7) (L' := [some (.ref 9), some (.int x1), some (.int x2)]) (st' := []) (σ' := (S, M, O)) (rfl) ?_
  refine Ex_br (fun hc => ?_) (fun hc => ?_)
  · rw [if_pos hc] at hF
    cases hF
    exact Ex_fin rfl
  · rw [if_neg hc] at hF
    refine Ex_go 4 (pc' := if (500 : Int32) ≤ (gi S 1) then 68 else 17) (L' := [some (.ref 9), some (.int x1), some (.int x2)]) (st' := []) (σ' := (S, M, O)) (rfl) ?_
    refine Ex_br (fun hc => ?_) (fun hc => ?_)
    · rw [if_pos hc] at hF
      cases hF
      exact Ex_fin rfl
    · rw [if_neg hc] at hF
      refine Ex_go 5 (pc' := 26) (L' := [some (.ref 9), some (.int x1), some (.int x2)]) (st' := [.int x1, .int (gi S 1), .ref 10]) (σ' := (S, M, O)) (rfl) ?_
      obtain ⟨hc1, hF⟩ := ck_i hF
      refine Ex_chk (b := ib (gi S 1) 500) (pc' := 27) (L' := [some (.ref 9), some (.int x1), some (.int x2)]) (st' := []) (σ' := ((ui S 10 (upd (ai S 10) (Int32.toNatClampNeg (gi S 1)) x1)), M, O)) rfl hc1 ?_
      refine Ex_go 5 (pc' := 36) (L' := [some (.ref 9), some (.int x1), some (.int x2)]) (st' := [.int x2, .int (gi (ui S 10 (upd (ai S 10) (Int32.toNatClampNeg (gi S 1)) x1)) 1), .ref 11]) (σ' := ((ui S 10 (upd (ai S 10) (Int32.toNatClampNeg (gi S 1)) x1)), M, O)) (rfl) ?_
      obtain ⟨hc2, hF⟩ := ck_i hF
      refine Ex_chk (b := ib (gi (ui S 10 (upd (ai S 10) (Int32.toNatClampNeg (gi S 1)) x1)) 1) 500) (pc' := 37) (L' := [some (.ref 9), some (.int x1), some (.int x2)]) (st' := []) (σ' := ((ui (ui S 10 (upd (ai S 10) (Int32.toNatClampNeg (gi S 1)) x1)) 11 (upd (ai (ui S 10 (upd (ai S 10) (Int32.toNatClampNeg (gi S 1)) x1)) 11) (Int32.toNatClampNeg (gi (ui S 10 (upd (ai S 10) (Int32.toNatClampNeg (gi S 1)) x1)) 1)) x2)), M, O)) rfl hc2 ?_
      refine Ex_go 10 (pc' := if ¬ (gi (si (ui (ui S 10 (upd (ai S 10) (Int32.toNatClampNeg (gi S 1)) x1)) 11 (upd (ai (ui S 10 (upd (ai S 10) (Int32.toNatClampNeg (gi S 1)) x1)) 11) (Int32.toNatClampNeg (gi (ui S 10 (upd (ai S 10) (Int32.toNatClampNeg (gi S 1)) x1)) 1)) x2)) 1 ((gi (ui (ui S 10 (upd (ai S 10) (Int32.toNatClampNeg (gi S 1)) x1)) 11 (upd (ai (ui S 10 (upd (ai S 10) (Int32.toNatClampNeg (gi S 1)) x1)) 11) (Int32.toNatClampNeg (gi (ui S 10 (upd (ai S 10) (Int32.toNatClampNeg (gi S 1)) x1)) 1)) x2)) 1) + (1 : Int32))) 3) = 0 then 60 else 55) (L' := [some (.ref 9), some (.int x1), some (.int x2)]) (st' := [.ref 9]) (σ' := ((si (ui (ui S 10 (upd (ai S 10) (Int32.toNatClampNeg (gi S 1)) x1)) 11 (upd (ai (ui S 10 (upd (ai S 10) (Int32.toNatClampNeg (gi S 1)) x1)) 11) (Int32.toNatClampNeg (gi (ui S 10 (upd (ai S 10) (Int32.toNatClampNeg (gi S 1)) x1)) 1)) x2)) 1 ((gi (ui (ui S 10 (upd (ai S 10) (Int32.toNatClampNeg (gi S 1)) x1)) 11 (upd (ai (ui S 10 (upd (ai S 10) (Int32.toNatClampNeg (gi S 1)) x1)) 11) (Int32.toNatClampNeg (gi (ui S 10 (upd (ai S 10) (Int32.toNatClampNeg (gi S 1)) x1)) 1)) x2)) 1) + (1 : Int32))), M, O)) (rfl) ?_
      refine Ex_brN (fun hc => ?_) (fun hc => ?_)
      · rw [if_pos hc] at hF
        refine Ex_go 3 (pc' := if ¬ x1 = (5 : Int32) then 64 else 60) (L' := [some (.ref 9), some (.int x1), some (.int x2)]) (st' := [.ref 9]) (σ' := ((si (ui (ui S 10 (upd (ai S 10) (Int32.toNatClampNeg (gi S 1)) x1)) 11 (upd (ai (ui S 10 (upd (ai S 10) (Int32.toNatClampNeg (gi S 1)) x1)) 11) (Int32.toNatClampNeg (gi (ui S 10 (upd (ai S 10) (Int32.toNatClampNeg (gi S 1)) x1)) 1)) x2)) 1 ((gi (ui (ui S 10 (upd (ai S 10) (Int32.toNatClampNeg (gi S 1)) x1)) 11 (upd (ai (ui S 10 (upd (ai S 10) (Int32.toNatClampNeg (gi S 1)) x1)) 11) (Int32.toNatClampNeg (gi (ui S 10 (upd (ai S 10) (Int32.toNatClampNeg (gi S 1)) x1)) 1)) x2)) 1) + (1 : Int32))), M, O)) (rfl) ?_
        refine Ex_brN (fun hc => ?_) (fun hc => ?_)
        · rw [if_pos hc] at hF
          exact Ex_mono (L := [none, none, none]) (Le_n (Le_n (Le_n (Le_0)))) (X_Ru_add_60 hd _ _ _ hF) (Nat.le_refl _) (by omega)
        · rw [if_neg hc] at hF
          refine Ex_go 1 (pc' := 65) (L' := [some (.ref 9), some (.int x1), some (.int x2)]) (st' := [.int (0 : Int32), .ref 9]) (σ' := ((si (ui (ui S 10 (upd (ai S 10) (Int32.toNatClampNeg (gi S 1)) x1)) 11 (upd (ai (ui S 10 (upd (ai S 10) (Int32.toNatClampNeg (gi S 1)) x1)) 11) (Int32.toNatClampNeg (gi (ui S 10 (upd (ai S 10) (Int32.toNatClampNeg (gi S 1)) x1)) 1)) x2)) 1 ((gi (ui (ui S 10 (upd (ai S 10) (Int32.toNatClampNeg (gi S 1)) x1)) 11 (upd (ai (ui S 10 (upd (ai S 10) (Int32.toNatClampNeg (gi S 1)) x1)) 11) (Int32.toNatClampNeg (gi (ui S 10 (upd (ai S 10) (Int32.toNatClampNeg (gi S 1)) x1)) 1)) x2)) 1) + (1 : Int32))), M, O)) (rfl) ?_
          exact Ex_mono (L := [none, none, none]) (Le_n (Le_n (Le_n (Le_0)))) (X_Ru_add_65 hd _ _ _ _ hF) (Nat.le_refl _) (by omega)
      · rw [if_neg hc] at hF
        exact Ex_mono (L := [none, none, none]) (Le_n (Le_n (Le_n (Le_0)))) (X_Ru_add_60 hd _ _ _ hF) (Nat.le_refl _) (by omega)
def F_Rd_readValue (S : Sto) : Option (Unit × Sto) := b1 (F_Rd_valueCode S) (fun r1 => if r1 = (-1 : Int32) then b2 (F_Rd_fail (3 : Int32) S) (fun r9 S11 => some ((), S11)) else b2 (F_Ru_add r1 (0 : Int32) S) (fun r3 S5 => b2 (F_Rd_nextToken S5) (fun r6 S8 => some ((), S8))))
set_option maxRecDepth 100000 in
theorem X_Rd_readValue {nL : Nat} {xs : Nat → Int32} {M : Sto} {O : Sto} {d : Nat} (hd : 8 ≤ d) : ∀ (S : Sto) (r : Unit) (S' : Sto), F_Rd_readValue S = some (r, S') → EX nL xs 0 MI_21 d 0 [some (.ref 1), none] [] (S, M, O) (.inl none) (S', M, O) := by
  intro S r S' hF
  unfold F_Rd_readValue at hF
  refine Ex_go 1 (pc' := 1) (L' := [some (.ref 1), none]) (st' := [.ref 1]) (σ' := (S, M, O)) (rfl) ?_
  obtain ⟨r1, hx2, hF⟩ := b1_i hF
  refine Ex_call (kind := 2) (y := 20) (as := [.ref 1]) (rest := []) (L0 := [some (.ref 1)]) (d' := 7) (v := some (.int r1)) (σ1 := (S, M, O)) rfl rfl mt_20 rfl rfl (by omega) (X_Rd_valueCode (Nat.le_refl _) _ _ hx2) (Ex_st (st2 := [.int r1]) rfl ?_)
  refine Ex_go 4 (pc' := if ¬ r1 = (-1 : Int32) then 16 else 10) (L' := [some (.ref 1), some (.int r1)]) (st' := []) (σ' := (S, M, O)) (rfl) ?_
  refine Ex_brN (fun hc => ?_) (fun hc => ?_)
  · rw [if_pos hc] at hF
    refine Ex_go 2 (pc' := 12) (L' := [some (.ref 1), some (.int r1)]) (st' := [.int (3 : Int32), .ref 1]) (σ' := (S, M, O)) (rfl) ?_
    obtain ⟨r9, S11, hx10, hF⟩ := b2_i hF
    refine Ex_call (kind := 2) (y := 12) (as := [.ref 1, .int (3 : Int32)]) (rest := []) (L0 := [some (.ref 1), some (.int (3 : Int32))]) (d' := 1) (v := none) (σ1 := (S11, M, O)) rfl rfl mt_12 rfl rfl (by omega) (X_Rd_fail (Nat.le_refl _) _ _ _ _ hx10) (Ex_st (st2 := []) rfl ?_)
    cases hF
    exact Ex_fin rfl
  · rw [if_neg hc] at hF
    refine Ex_go 5 (pc' := 25) (L' := [some (.ref 1), some (.int r1)]) (st' := [.int (0 : Int32), .int r1, .ref 9]) (σ' := (S, M, O)) (rfl) ?_
    obtain ⟨r3, S5, hx4, hF⟩ := b2_i hF
    refine Ex_call (kind := 2) (y := 19) (as := [.ref 9, .int r1, .int (0 : Int32)]) (rest := []) (L0 := [some (.ref 9), some (.int r1), some (.int (0 : Int32))]) (d' := 1) (v := none) (σ1 := (S5, M, O)) rfl rfl mt_19 rfl rfl (by omega) (X_Ru_add (Nat.le_refl _) _ _ _ _ _ hx4) (Ex_st (st2 := []) rfl ?_)
    refine Ex_go 1 (pc' := 29) (L' := [some (.ref 1), some (.int r1)]) (st' := [.ref 1]) (σ' := (S5, M, O)) (rfl) ?_
    obtain ⟨r6, S8, hx7, hF⟩ := b2_i hF
    refine Ex_call (kind := 2) (y := 9) (as := [.ref 1]) (rest := []) (L0 := [some (.ref 1)]) (d' := 2) (v := none) (σ1 := (S8, M, O)) rfl rfl mt_9 rfl rfl (by omega) (X_Rd_nextToken (Nat.le_refl _) _ _ _ hx7) (Ex_st (st2 := []) rfl ?_)
    cases hF
    exact Ex_fin rfl
def F_Rd_expectNumber_45 (S : Sto) : Option (Int32 × Sto) := if (gi S 9) = 0 then b2 (F_Rd_nextToken S) (fun r1 S3 => some ((gi S 15), S3)) else some ((gi S 15), S)
set_option maxRecDepth 100000 in
theorem X_Rd_expectNumber_45 {nL : Nat} {xs : Nat → Int32} {M : Sto} {O : Sto} {d : Nat} (hd : 3 ≤ d) : ∀ (S : Sto) (r : Int32) (S' : Sto), F_Rd_expectNumber_45 S = some (r, S') → EX nL xs 0 MI_13 d 45 [some (.ref 1), none, none, none] [] (S, M, O) (.inl (some (.int r))) (S', M, O) := by
  intro S r S' hF
  unfold F_Rd_expectNumber_45 at hF
  refine Ex_go 6 (pc' := if ¬ (gi S 9) = 0 then 61 else 57) (L' := [some (.ref 1), none, none, some (.int (gi S 15))]) (st' := []) (σ' := (S, M, O)) (rfl) ?_
  refine Ex_brN (fun hc => ?_) (fun hc => ?_)
  · rw [if_pos hc] at hF
    refine Ex_go 1 (pc' := 58) (L' := [some (.ref 1), none, none, some (.int (gi S 15))]) (st' := [.ref 1]) (σ' := (S, M, O)) (rfl) ?_
    obtain ⟨r1, S3, hx2, hF⟩ := b2_i hF
    refine Ex_call (kind := 2) (y := 9) (as := [.ref 1]) (rest := []) (L0 := [some (.ref 1)]) (d' := 2) (v := none) (σ1 := (S3, M, O)) rfl rfl mt_9 rfl rfl (by omega) (X_Rd_nextToken (Nat.le_refl _) _ _ _ hx2) (Ex_st (st2 := []) rfl ?_)
    refine Ex_go 1 (pc' := 62) (L' := [some (.ref 1), none, none, some (.int (gi S 15))]) (st' := [.int (gi S 15)]) (σ' := (S3, M, O)) (rfl) ?_
    cases hF
    exact Ex_fin rfl
  · rw [if_neg hc] at hF
    refine Ex_go 1 (pc' := 62) (L' := [some (.ref 1), none, none, some (.int (gi S 15))]) (st' := [.int (gi S 15)]) (σ' := (S, M, O)) (rfl) ?_
    cases hF
    exact Ex_fin rfl
def F_Rd_expectNumber_40 (S : Sto) : Option (Int32 × Sto) := b2 (F_Rd_fail (2 : Int32) S) (fun r1 S3 => F_Rd_expectNumber_45 S3)
set_option maxRecDepth 100000 in
theorem X_Rd_expectNumber_40 {nL : Nat} {xs : Nat → Int32} {M : Sto} {O : Sto} {d : Nat} (hd : 3 ≤ d) : ∀ (S : Sto) (r : Int32) (S' : Sto), F_Rd_expectNumber_40 S = some (r, S') → EX nL xs 0 MI_13 d 40 [some (.ref 1), none, none, none] [] (S, M, O) (.inl (some (.int r))) (S', M, O) := by
  intro S r S' hF
  unfold F_Rd_expectNumber_40 at hF
  refine Ex_go 2 (pc' := 42) (L' := [some (.ref 1), none, none, none]) (st' := [.int (2 : Int32), .ref 1]) (σ' := (S, M, O)) (rfl) ?_
  obtain ⟨r1, S3, hx2, hF⟩ := b2_i hF
  refine Ex_call (kind := 2) (y := 12) (as := [.ref 1, .int (2 : Int32)]) (rest := []) (L0 := [some (.ref 1), some (.int (2 : Int32))]) (d' := 1) (v := none) (σ1 := (S3, M, O)) rfl rfl mt_12 rfl rfl (by omega) (X_Rd_fail (Nat.le_refl _) _ _ _ _ hx2) (Ex_st (st2 := []) rfl ?_)
  exact Ex_mono (L := [some (.ref 1), none, none, none]) (Le_s (Le_n (Le_n (Le_n (Le_0))))) (X_Rd_expectNumber_45 hd _ _ _ hF) (Nat.le_refl _) (by omega)
def F_Rd_expectNumber (x1 : Int32) (x2 : Int32) (S : Sto) : Option (Int32 × Sto) := if (gi S 12) = (2 : Int32) then if (4 : Int32) < (gi S 16) then F_Rd_expectNumber_40 S else if (gi S 15) < x1 then F_Rd_expectNumber_40 S else if (gi S 15) ≤ x2 then F_Rd_expectNumber_45 S else F_Rd_expectNumber_40 S else b2 (F_Rd_fail (1 : Int32) S) (fun r1 S3 => F_Rd_expectNumber_45 S3)
set_option maxRecDepth 100000 in
theorem X_Rd_expectNumber {nL : Nat} {xs : Nat → Int32} {M : Sto} {O : Sto} {d : Nat} (hd : 3 ≤ d) : ∀ (x1 : Int32) (x2 : Int32) (S : Sto) (r : Int32) (S' : Sto), F_Rd_expectNumber x1 x2 S = some (r, S') → EX nL xs 0 MI_13 d 0 [some (.ref 1), some (.int x1), some (.int x2), none] [] (S, M, O) (.inl (some (.int r))) (S', M, O) := by
  intro x1 x2 S r S' hF
  unfold F_Rd_expectNumber at hF
  refine Ex_go 4 (pc' := if (gi S 12) = (2 : Int32) then 16 else 8) (L' := [some (.ref 1), some (.int x1), some (.int x2), none]) (st' := []) (σ' := (S, M, O)) (rfl) ?_
  refine Ex_br (fun hc => ?_) (fun hc => ?_)
  · rw [if_pos hc] at hF
    refine Ex_go 4 (pc' := if (4 : Int32) < (gi S 16) then 40 else 24) (L' := [some (.ref 1), some (.int x1), some (.int x2), none]) (st' := []) (σ' := (S, M, O)) (rfl) ?_
    refine Ex_br (fun hc => ?_) (fun hc => ?_)
    · rw [if_pos hc] at hF
      exact Ex_mono (L := [some (.ref 1), none, none, none]) (Le_s (Le_n (Le_n (Le_n (Le_0))))) (X_Rd_expectNumber_40 hd _ _ _ hF) (Nat.le_refl _) (by omega)
    · rw [if_neg hc] at hF
      refine Ex_go 4 (pc' := if (gi S 15) < x1 then 40 else 32) (L' := [some (.ref 1), some (.int x1), some (.int x2), none]) (st' := []) (σ' := (S, M, O)) (rfl) ?_
      refine Ex_br (fun hc => ?_) (fun hc => ?_)
      · rw [if_pos hc] at hF
        exact Ex_mono (L := [some (.ref 1), none, none, none]) (Le_s (Le_n (Le_n (Le_n (Le_0))))) (X_Rd_expectNumber_40 hd _ _ _ hF) (Nat.le_refl _) (by omega)
      · rw [if_neg hc] at hF
        refine Ex_go 4 (pc' := if (gi S 15) ≤ x2 then 45 else 40) (L' := [some (.ref 1), some (.int x1), some (.int x2), none]) (st' := []) (σ' := (S, M, O)) (rfl) ?_
        refine Ex_br (fun hc => ?_) (fun hc => ?_)
        · rw [if_pos hc] at hF
          exact Ex_mono (L := [some (.ref 1), none, none, none]) (Le_s (Le_n (Le_n (Le_n (Le_0))))) (X_Rd_expectNumber_45 hd _ _ _ hF) (Nat.le_refl _) (by omega)
        · rw [if_neg hc] at hF
          exact Ex_mono (L := [some (.ref 1), none, none, none]) (Le_s (Le_n (Le_n (Le_n (Le_0))))) (X_Rd_expectNumber_40 hd _ _ _ hF) (Nat.le_refl _) (by omega)
  · rw [if_neg hc] at hF
    refine Ex_go 2 (pc' := 10) (L' := [some (.ref 1), some (.int x1), some (.int x2), none]) (st' := [.int (1 : Int32), .ref 1]) (σ' := (S, M, O)) (rfl) ?_
    obtain ⟨r1, S3, hx2, hF⟩ := b2_i hF
    refine Ex_call (kind := 2) (y := 12) (as := [.ref 1, .int (1 : Int32)]) (rest := []) (L0 := [some (.ref 1), some (.int (1 : Int32))]) (d' := 1) (v := none) (σ1 := (S3, M, O)) rfl rfl mt_12 rfl rfl (by omega) (X_Rd_fail (Nat.le_refl _) _ _ _ _ hx2) (Ex_st (st2 := []) rfl ?_)
    refine Ex_go 1 (pc' := 45) (L' := [some (.ref 1), some (.int x1), some (.int x2), none]) (st' := []) (σ' := (S3, M, O)) (rfl) ?_
    exact Ex_mono (L := [some (.ref 1), none, none, none]) (Le_s (Le_n (Le_n (Le_n (Le_0))))) (X_Rd_expectNumber_45 hd _ _ _ hF) (Nat.le_refl _) (by omega)
def F_Rd_readPart (rc : Int32 → Sto → Option (Unit × Sto)) (x1 : Int32) (S : Sto) : Option (Unit × Sto) := if (gi S 12) = (2 : Int32) then b2 (F_Rd_expectNumber (0 : Int32) (9999 : Int32) S) (fun r18 S20 => b2 (F_Ru_add (0 : Int32) r18 S20) (fun r21 S23 => some ((), S23))) else if (gi S 12) = (1 : Int32) then b2 (F_Rd_readValue S) (fun r15 S17 => some ((), S17)) else b1 (F_Rd_isSign (40 : Int32) S) (fun r1 => if r1 = 0 then b2 (F_Rd_fail (1 : Int32) S) (fun r3 S5 => some ((), S5)) else b2 (F_Rd_nextToken S) (fun r6 S8 => b2 (rc (x1 + (1 : Int32)) S8) (fun r9 S11 => if (gi S11 9) = 0 then b2 (F_Rd_expectSign (41 : Int32) S11) (fun r12 S14 => some ((), S14)) else some ((), S11))))
set_option maxRecDepth 100000 in
theorem X_Rd_readPart {nL : Nat} {xs : Nat → Int32} {M : Sto} {O : Sto} {rc : Int32 → Sto → Option (Unit × Sto)} {E d : Nat} (hE : 9 ≤ E) (hd : E + 1 ≤ d) (hrc : ∀ (x1 : Int32) (S : Sto) (r : Unit) (S' : Sto), rc x1 S = some (r, S') → EX nL xs 0 MI_29 E 0 [some (.ref 1), some (.int x1), none] [] (S, M, O) (.inl none) (S', M, O)) : ∀ (x1 : Int32) (S : Sto) (r : Unit) (S' : Sto), F_Rd_readPart rc x1 S = some (r, S') → EX nL xs 0 MI_23 d 0 [some (.ref 1), some (.int x1)] [] (S, M, O) (.inl none) (S', M, O) := by
  intro x1 S r S' hF
  unfold F_Rd_readPart at hF
  refine Ex_go 4 (pc' := if ¬ (gi S 12) = (2 : Int32) then 30 else 8) (L' := [some (.ref 1), some (.int x1)]) (st' := []) (σ' := (S, M, O)) (rfl) ?_
  refine Ex_brN (fun hc => ?_) (fun hc => ?_)
  · rw [if_pos hc] at hF
    refine Ex_go 7 (pc' := 21) (L' := [some (.ref 1), some (.int x1)]) (st' := [.int (9999 : Int32), .int (0 : Int32), .ref 1, .int (0 : Int32), .ref 9]) (σ' := (S, M, O)) (rfl) ?_
    obtain ⟨r18, S20, hx19, hF⟩ := b2_i hF
    refine Ex_call (kind := 2) (y := 13) (as := [.ref 1, .int (0 : Int32), .int (9999 : Int32)]) (rest := [.int (0 : Int32), .ref 9]) (L0 := [some (.ref 1), some (.int (0 : Int32)), some (.int (9999 : Int32)), none]) (d' := 3) (v := some (.int r18)) (σ1 := (S20, M, O)) rfl rfl mt_13 rfl rfl (by omega) (X_Rd_expectNumber (Nat.le_refl _) _ _ _ _ _ hx19) (Ex_st (st2 := [.int r18, .int (0 : Int32), .ref 9]) rfl ?_)
    obtain ⟨r21, S23, hx22, hF⟩ := b2_i hF
    refine Ex_call (kind := 2) (y := 19) (as := [.ref 9, .int (0 : Int32), .int r18]) (rest := []) (L0 := [some (.ref 9), some (.int (0 : Int32)), some (.int r18)]) (d' := 1) (v := none) (σ1 := (S23, M, O)) rfl rfl mt_19 rfl rfl (by omega) (X_Ru_add (Nat.le_refl _) _ _ _ _ _ hx22) (Ex_st (st2 := []) rfl ?_)
    refine Ex_go 1 (pc' := 86) (L' := [some (.ref 1), some (.int x1)]) (st' := []) (σ' := (S23, M, O)) (rfl) ?_
    cases hF
    exact Ex_fin rfl
  · rw [if_neg hc] at hF
    refine Ex_go 4 (pc' := if ¬ (gi S 12) = (1 : Int32) then 45 else 38) (L' := [some (.ref 1), some (.int x1)]) (st' := []) (σ' := (S, M, O)) (rfl) ?_
    refine Ex_brN (fun hc => ?_) (fun hc => ?_)
    · rw [if_pos hc] at hF
      refine Ex_go 1 (pc' := 39) (L' := [some (.ref 1), some (.int x1)]) (st' := [.ref 1]) (σ' := (S, M, O)) (rfl) ?_
      obtain ⟨r15, S17, hx16, hF⟩ := b2_i hF
      refine Ex_call (kind := 2) (y := 21) (as := [.ref 1]) (rest := []) (L0 := [some (.ref 1), none]) (d' := 8) (v := none) (σ1 := (S17, M, O)) rfl rfl mt_21 rfl rfl (by omega) (X_Rd_readValue (Nat.le_refl _) _ _ _ hx16) (Ex_st (st2 := []) rfl ?_)
      refine Ex_go 1 (pc' := 86) (L' := [some (.ref 1), some (.int x1)]) (st' := []) (σ' := (S17, M, O)) (rfl) ?_
      cases hF
      exact Ex_fin rfl
    · rw [if_neg hc] at hF
      refine Ex_go 2 (pc' := 48) (L' := [some (.ref 1), some (.int x1)]) (st' := [.int (40 : Int32), .ref 1]) (σ' := (S, M, O)) (rfl) ?_
      obtain ⟨r1, hx2, hF⟩ := b1_i hF
      refine Ex_call (kind := 2) (y := 18) (as := [.ref 1, .int (40 : Int32)]) (rest := []) (L0 := [some (.ref 1), some (.int (40 : Int32))]) (d' := 1) (v := some (.int r1)) (σ1 := (S, M, O)) rfl rfl mt_18 rfl rfl (by omega) (X_Rd_isSign (Nat.le_refl _) _ _ _ hx2) (Ex_st (st2 := [.int r1]) rfl ?_)
      refine Ex_go 1 (pc' := if r1 = 0 then 81 else 54) (L' := [some (.ref 1), some (.int x1)]) (st' := []) (σ' := (S, M, O)) (rfl) ?_
      refine Ex_br (fun hc => ?_) (fun hc => ?_)
      · rw [if_pos hc] at hF
        refine Ex_go 2 (pc' := 83) (L' := [some (.ref 1), some (.int x1)]) (st' := [.int (1 : Int32), .ref 1]) (σ' := (S, M, O)) (rfl) ?_
        obtain ⟨r3, S5, hx4, hF⟩ := b2_i hF
        refine Ex_call (kind := 2) (y := 12) (as := [.ref 1, .int (1 : Int32)]) (rest := []) (L0 := [some (.ref 1), some (.int (1 : Int32))]) (d' := 1) (v := none) (σ1 := (S5, M, O)) rfl rfl mt_12 rfl rfl (by omega) (X_Rd_fail (Nat.le_refl _) _ _ _ _ hx4) (Ex_st (st2 := []) rfl ?_)
        cases hF
        exact Ex_fin rfl
      · rw [if_neg hc] at hF
        refine Ex_go 1 (pc' := 55) (L' := [some (.ref 1), some (.int x1)]) (st' := [.ref 1]) (σ' := (S, M, O)) (rfl) ?_
        obtain ⟨r6, S8, hx7, hF⟩ := b2_i hF
        refine Ex_call (kind := 2) (y := 9) (as := [.ref 1]) (rest := []) (L0 := [some (.ref 1)]) (d' := 2) (v := none) (σ1 := (S8, M, O)) rfl rfl mt_9 rfl rfl (by omega) (X_Rd_nextToken (Nat.le_refl _) _ _ _ hx7) (Ex_st (st2 := []) rfl ?_)
        refine Ex_go 4 (pc' := 62) (L' := [some (.ref 1), some (.int x1)]) (st' := [.int (x1 + (1 : Int32)), .ref 1]) (σ' := (S8, M, O)) (rfl) ?_
        obtain ⟨r9, S11, hx10, hF⟩ := b2_i hF
        refine Ex_call (kind := 2) (y := 29) (as := [.ref 1, .int (x1 + (1 : Int32))]) (rest := []) (L0 := [some (.ref 1), some (.int (x1 + (1 : Int32))), none]) (d' := E) (v := none) (σ1 := (S11, M, O)) rfl rfl mt_29 rfl rfl (by omega) (hrc _ _ _ _ hx10) (Ex_st (st2 := []) rfl ?_)
        refine Ex_go 3 (pc' := if ¬ (gi S11 9) = 0 then 86 else 72) (L' := [some (.ref 1), some (.int x1)]) (st' := []) (σ' := (S11, M, O)) (rfl) ?_
        refine Ex_brN (fun hc => ?_) (fun hc => ?_)
        · rw [if_pos hc] at hF
          refine Ex_go 2 (pc' := 75) (L' := [some (.ref 1), some (.int x1)]) (st' := [.int (41 : Int32), .ref 1]) (σ' := (S11, M, O)) (rfl) ?_
          obtain ⟨r12, S14, hx13, hF⟩ := b2_i hF
          refine Ex_call (kind := 2) (y := 22) (as := [.ref 1, .int (41 : Int32)]) (rest := []) (L0 := [some (.ref 1), some (.int (41 : Int32))]) (d' := 3) (v := none) (σ1 := (S14, M, O)) rfl rfl mt_22 rfl rfl (by omega) (X_Rd_expectSign (Nat.le_refl _) _ _ _ _ hx13) (Ex_st (st2 := []) rfl ?_)
          refine Ex_go 1 (pc' := 86) (L' := [some (.ref 1), some (.int x1)]) (st' := []) (σ' := (S14, M, O)) (rfl) ?_
          cases hF
          exact Ex_fin rfl
        · rw [if_neg hc] at hF
          cases hF
          exact Ex_fin rfl
def F_Rd_readProduct_55 (rc : Int32 → Sto → Option (Unit × Sto)) (k7 : Int32 → Int32 → Sto → Option (Unit × Sto)) (x1 : Int32) (x2 : Int32) (s0 : Int32) (S : Sto) : Option (Unit × Sto) := b2 (F_Rd_nextToken S) (fun r1 S3 => b2 (F_Rd_readPart rc x1 S3) (fun r4 S6 => b2 (F_Ru_add s0 (0 : Int32) S6) (fun r7 S9 => k7 x1 (x2 + (1 : Int32)) S9)))
set_option maxRecDepth 100000 in
theorem X_Rd_readProduct_55 {nL : Nat} {xs : Nat → Int32} {M : Sto} {O : Sto} {rc : Int32 → Sto → Option (Unit × Sto)} {E d : Nat} (hE : 9 ≤ E) (hd : E + 2 ≤ d) (hrc : ∀ (x1 : Int32) (S : Sto) (r : Unit) (S' : Sto), rc x1 S = some (r, S') → EX nL xs 0 MI_29 E 0 [some (.ref 1), some (.int x1), none] [] (S, M, O) (.inl none) (S', M, O)) {k7 : Int32 → Int32 → Sto → Option (Unit × Sto)} (hk7 : ∀ (x1 : Int32) (x2 : Int32) (S : Sto) (r : Unit) (S' : Sto), k7 x1 x2 S = some (r, S') → EX nL xs 0 MI_24 d 7 [some (.ref 1), some (.int x1), some (.int x2), none] [] (S, M, O) (.inl none) (S', M, O)) : ∀ (x1 : Int32) (x2 : Int32) (s0 : Int32) (S : Sto) (r : Unit) (S' : Sto), F_Rd_readProduct_55 rc k7 x1 x2 s0 S = some (r, S') → EX nL xs 0 MI_24 d 55 [some (.ref 1), some (.int x1), some (.int x2), none] [.int s0] (S, M, O) (.inl none) (S', M, O) := by
  intro x1 x2 s0 S r S' hF
  unfold F_Rd_readProduct_55 at hF
  refine Ex_go 2 (pc' := 57) (L' := [some (.ref 1), some (.int x1), some (.int x2), some (.int s0)]) (st' := [.ref 1]) (σ' := (S, M, O)) (rfl) ?_
  obtain ⟨r1, S3, hx2, hF⟩ := b2_i hF
  refine Ex_call (kind := 2) (y := 9) (as := [.ref 1]) (rest := []) (L0 := [some (.ref 1)]) (d' := 2) (v := none) (σ1 := (S3, M, O)) rfl rfl mt_9 rfl rfl (by omega) (X_Rd_nextToken (Nat.le_refl _) _ _ _ hx2) (Ex_st (st2 := []) rfl ?_)
  refine Ex_go 2 (pc' := 62) (L' := [some (.ref 1), some (.int x1), some (.int x2), some (.int s0)]) (st' := [.int x1, .ref 1]) (σ' := (S3, M, O)) (rfl) ?_
  obtain ⟨r4, S6, hx5, hF⟩ := b2_i hF
  refine Ex_call (kind := 2) (y := 23) (as := [.ref 1, .int x1]) (rest := []) (L0 := [some (.ref 1), some (.int x1)]) (d' := (E + 1)) (v := none) (σ1 := (S6, M, O)) rfl rfl mt_23 rfl rfl (by omega) (X_Rd_readPart hE (Nat.le_refl _) hrc _ _ _ _ hx5) (Ex_st (st2 := []) rfl ?_)
  refine Ex_go 5 (pc' := 74) (L' := [some (.ref 1), some (.int x1), some (.int x2), some (.int s0)]) (st' := [.int (0 : Int32), .int s0, .ref 9]) (σ' := (S6, M, O)) (rfl) ?_
  obtain ⟨r7, S9, hx8, hF⟩ := b2_i hF
  refine Ex_call (kind := 2) (y := 19) (as := [.ref 9, .int s0, .int (0 : Int32)]) (rest := []) (L0 := [some (.ref 9), some (.int s0), some (.int (0 : Int32))]) (d' := 1) (v := none) (σ1 := (S9, M, O)) rfl rfl mt_19 rfl rfl (by omega) (X_Ru_add (Nat.le_refl _) _ _ _ _ _ hx8) (Ex_st (st2 := []) rfl ?_)
  refine Ex_go 2 (pc' := 7) (L' := [some (.ref 1), some (.int x1), some (.int (x2 + (1 : Int32))), some (.int s0)]) (st' := []) (σ' := (S9, M, O)) (rfl) ?_
  exact Ex_mono (L := [some (.ref 1), some (.int x1), some (.int (x2 + (1 : Int32))), none]) (Le_s (Le_s (Le_s (Le_n (Le_0))))) (hk7 _ _ _ _ _ hF) (Nat.le_refl _) (by omega)
def F_Rd_readProduct_39 (rc : Int32 → Sto → Option (Unit × Sto)) (k7 : Int32 → Int32 → Sto → Option (Unit × Sto)) (x1 : Int32) (x2 : Int32) (S : Sto) : Option (Unit × Sto) := if (gi S 14) = (42 : Int32) then F_Rd_readProduct_55 rc k7 x1 x2 (15 : Int32) S else F_Rd_readProduct_55 rc k7 x1 x2 (16 : Int32) S
set_option maxRecDepth 100000 in
theorem X_Rd_readProduct_39 {nL : Nat} {xs : Nat → Int32} {M : Sto} {O : Sto} {rc : Int32 → Sto → Option (Unit × Sto)} {E d : Nat} (hE : 9 ≤ E) (hd : E + 2 ≤ d) (hrc : ∀ (x1 : Int32) (S : Sto) (r : Unit) (S' : Sto), rc x1 S = some (r, S') → EX nL xs 0 MI_29 E 0 [some (.ref 1), some (.int x1), none] [] (S, M, O) (.inl none) (S', M, O)) {k7 : Int32 → Int32 → Sto → Option (Unit × Sto)} (hk7 : ∀ (x1 : Int32) (x2 : Int32) (S : Sto) (r : Unit) (S' : Sto), k7 x1 x2 S = some (r, S') → EX nL xs 0 MI_24 d 7 [some (.ref 1), some (.int x1), some (.int x2), none] [] (S, M, O) (.inl none) (S', M, O)) : ∀ (x1 : Int32) (x2 : Int32) (S : Sto) (r : Unit) (S' : Sto), F_Rd_readProduct_39 rc k7 x1 x2 S = some (r, S') → EX nL xs 0 MI_24 d 39 [some (.ref 1), some (.int x1), some (.int x2), none] [] (S, M, O) (.inl none) (S', M, O) := by
  intro x1 x2 S r S' hF
  unfold F_Rd_readProduct_39 at hF
  refine Ex_go 4 (pc' := if ¬ (gi S 14) = (42 : Int32) then 53 else 48) (L' := [some (.ref 1), some (.int x1), some (.int x2), none]) (st' := []) (σ' := (S, M, O)) (rfl) ?_
  refine Ex_brN (fun hc => ?_) (fun hc => ?_)
  · rw [if_pos hc] at hF
    refine Ex_go 2 (pc' := 55) (L' := [some (.ref 1), some (.int x1), some (.int x2), none]) (st' := [.int (15 : Int32)]) (σ' := (S, M, O)) (rfl) ?_
    exact Ex_mono (L := [some (.ref 1), some (.int x1), some (.int x2), none]) (Le_s (Le_s (Le_s (Le_n (Le_0))))) (X_Rd_readProduct_55 hE hd hrc hk7 _ _ _ _ _ _ hF) (Nat.le_refl _) (by omega)
  · rw [if_neg hc] at hF
    refine Ex_go 1 (pc' := 55) (L' := [some (.ref 1), some (.int x1), some (.int x2), none]) (st' := [.int (16 : Int32)]) (σ' := (S, M, O)) (rfl) ?_
    exact Ex_mono (L := [some (.ref 1), some (.int x1), some (.int x2), none]) (Le_s (Le_s (Le_s (Le_n (Le_0))))) (X_Rd_readProduct_55 hE hd hrc hk7 _ _ _ _ _ _ hF) (Nat.le_refl _) (by omega)
def F_Rd_readProduct_7 (rc : Int32 → Sto → Option (Unit × Sto)) : Nat → Int32 → Int32 → Sto → Option (Unit × Sto)
  | 0, _, _, _ => none
  | n + 1, x1, x2, S => if (500 : Int32) ≤ x2 then some ((), S) else if (gi S 9) = 0 then b1 (F_Rd_isSign (42 : Int32) S) (fun r1 => if r1 = 0 then b1 (F_Rd_isSign (47 : Int32) S) (fun r3 => if r3 = 0 then some ((), S) else F_Rd_readProduct_39 rc (F_Rd_readProduct_7 rc n) x1 x2 S) else F_Rd_readProduct_39 rc (F_Rd_readProduct_7 rc n) x1 x2 S) else some ((), S)
set_option maxRecDepth 100000 in
theorem X_Rd_readProduct_7 {nL : Nat} {xs : Nat → Int32} {M : Sto} {O : Sto} {rc : Int32 → Sto → Option (Unit × Sto)} {E d : Nat} (hE : 9 ≤ E) (hd : E + 2 ≤ d) (hrc : ∀ (x1 : Int32) (S : Sto) (r : Unit) (S' : Sto), rc x1 S = some (r, S') → EX nL xs 0 MI_29 E 0 [some (.ref 1), some (.int x1), none] [] (S, M, O) (.inl none) (S', M, O)) : ∀ n : Nat, ∀ (x1 : Int32) (x2 : Int32) (S : Sto) (r : Unit) (S' : Sto), F_Rd_readProduct_7 rc n x1 x2 S = some (r, S') → EX nL xs 0 MI_24 d 7 [some (.ref 1), some (.int x1), some (.int x2), none] [] (S, M, O) (.inl none) (S', M, O) := by
  intro n
  induction n with
  | zero => intro x1 x2 S r S' hF; cases hF
  | succ n ih =>
  intro x1 x2 S r S' hF
  unfold F_Rd_readProduct_7 at hF
  refine Ex_go 3 (pc' := if (500 : Int32) ≤ x2 then 83 else 14) (L' := [some (.ref 1), some (.int x1), some (.int x2), none]) (st' := []) (σ' := (S, M, O)) (rfl) ?_
  refine Ex_br (fun hc => ?_) (fun hc => ?_)
  · rw [if_pos hc] at hF
    cases hF
    exact Ex_fin rfl
  · rw [if_neg hc] at hF
    refine Ex_go 3 (pc' := if ¬ (gi S 9) = 0 then 83 else 21) (L' := [some (.ref 1), some (.int x1), some (.int x2), none]) (st' := []) (σ' := (S, M, O)) (rfl) ?_
    refine Ex_brN (fun hc => ?_) (fun hc => ?_)
    · rw [if_pos hc] at hF
      refine Ex_go 2 (pc' := 24) (L' := [some (.ref 1), some (.int x1), some (.int x2), none]) (st' := [.int (42 : Int32), .ref 1]) (σ' := (S, M, O)) (rfl) ?_
      obtain ⟨r1, hx2, hF⟩ := b1_i hF
      refine Ex_call (kind := 2) (y := 18) (as := [.ref 1, .int (42 : Int32)]) (rest := []) (L0 := [some (.ref 1), some (.int (42 : Int32))]) (d' := 1) (v := some (.int r1)) (σ1 := (S, M, O)) rfl rfl mt_18 rfl rfl (by omega) (X_Rd_isSign (Nat.le_refl _) _ _ _ hx2) (Ex_st (st2 := [.int r1]) rfl ?_)
      refine Ex_go 1 (pc' := if ¬ r1 = 0 then 39 else 30) (L' := [some (.ref 1), some (.int x1), some (.int x2), none]) (st' := []) (σ' := (S, M, O)) (rfl) ?_
      refine Ex_brN (fun hc => ?_) (fun hc => ?_)
      · rw [if_pos hc] at hF
        refine Ex_go 2 (pc' := 33) (L' := [some (.ref 1), some (.int x1), some (.int x2), none]) (st' := [.int (47 : Int32), .ref 1]) (σ' := (S, M, O)) (rfl) ?_
        obtain ⟨r3, hx4, hF⟩ := b1_i hF
        refine Ex_call (kind := 2) (y := 18) (as := [.ref 1, .int (47 : Int32)]) (rest := []) (L0 := [some (.ref 1), some (.int (47 : Int32))]) (d' := 1) (v := some (.int r3)) (σ1 := (S, M, O)) rfl rfl mt_18 rfl rfl (by omega) (X_Rd_isSign (Nat.le_refl _) _ _ _ hx4) (Ex_st (st2 := [.int r3]) rfl ?_)
        refine Ex_go 1 (pc' := if r3 = 0 then 83 else 39) (L' := [some (.ref 1), some (.int x1), some (.int x2), none]) (st' := []) (σ' := (S, M, O)) (rfl) ?_
        refine Ex_br (fun hc => ?_) (fun hc => ?_)
        · rw [if_pos hc] at hF
          cases hF
          exact Ex_fin rfl
        · rw [if_neg hc] at hF
          exact Ex_mono (L := [some (.ref 1), some (.int x1), some (.int x2), none]) (Le_s (Le_s (Le_s (Le_n (Le_0))))) (X_Rd_readProduct_39 hE hd hrc ih _ _ _ _ _ hF) (Nat.le_refl _) (by omega)
      · rw [if_neg hc] at hF
        exact Ex_mono (L := [some (.ref 1), some (.int x1), some (.int x2), none]) (Le_s (Le_s (Le_s (Le_n (Le_0))))) (X_Rd_readProduct_39 hE hd hrc ih _ _ _ _ _ hF) (Nat.le_refl _) (by omega)
    · rw [if_neg hc] at hF
      cases hF
      exact Ex_fin rfl
def F_Rd_readProduct (rc : Int32 → Sto → Option (Unit × Sto)) (x1 : Int32) (S : Sto) : Option (Unit × Sto) := b2 (F_Rd_readPart rc x1 S) (fun r1 S3 => F_Rd_readProduct_7 rc FU x1 (0 : Int32) S3)
set_option maxRecDepth 100000 in
theorem X_Rd_readProduct {nL : Nat} {xs : Nat → Int32} {M : Sto} {O : Sto} {rc : Int32 → Sto → Option (Unit × Sto)} {E d : Nat} (hE : 9 ≤ E) (hd : E + 2 ≤ d) (hrc : ∀ (x1 : Int32) (S : Sto) (r : Unit) (S' : Sto), rc x1 S = some (r, S') → EX nL xs 0 MI_29 E 0 [some (.ref 1), some (.int x1), none] [] (S, M, O) (.inl none) (S', M, O)) : ∀ (x1 : Int32) (S : Sto) (r : Unit) (S' : Sto), F_Rd_readProduct rc x1 S = some (r, S') → EX nL xs 0 MI_24 d 0 [some (.ref 1), some (.int x1), none, none] [] (S, M, O) (.inl none) (S', M, O) := by
  intro x1 S r S' hF
  unfold F_Rd_readProduct at hF
  refine Ex_go 2 (pc' := 2) (L' := [some (.ref 1), some (.int x1), none, none]) (st' := [.int x1, .ref 1]) (σ' := (S, M, O)) (rfl) ?_
  obtain ⟨r1, S3, hx2, hF⟩ := b2_i hF
  refine Ex_call (kind := 2) (y := 23) (as := [.ref 1, .int x1]) (rest := []) (L0 := [some (.ref 1), some (.int x1)]) (d' := (E + 1)) (v := none) (σ1 := (S3, M, O)) rfl rfl mt_23 rfl rfl (by omega) (X_Rd_readPart hE (Nat.le_refl _) hrc _ _ _ _ hx2) (Ex_st (st2 := []) rfl ?_)
  refine Ex_go 2 (pc' := 7) (L' := [some (.ref 1), some (.int x1), some (.int (0 : Int32)), none]) (st' := []) (σ' := (S3, M, O)) (rfl) ?_
  exact Ex_mono (L := [some (.ref 1), some (.int x1), some (.int (0 : Int32)), none]) (Le_s (Le_s (Le_s (Le_n (Le_0))))) (X_Rd_readProduct_7 hE hd hrc FU _ _ _ _ _ hF) (Nat.le_refl _) (by omega)
def F_Rd_readSum_55 (rc : Int32 → Sto → Option (Unit × Sto)) (k7 : Int32 → Int32 → Sto → Option (Unit × Sto)) (x1 : Int32) (x2 : Int32) (s0 : Int32) (S : Sto) : Option (Unit × Sto) := b2 (F_Rd_nextToken S) (fun r1 S3 => b2 (F_Rd_readProduct rc x1 S3) (fun r4 S6 => b2 (F_Ru_add s0 (0 : Int32) S6) (fun r7 S9 => k7 x1 (x2 + (1 : Int32)) S9)))
set_option maxRecDepth 100000 in
theorem X_Rd_readSum_55 {nL : Nat} {xs : Nat → Int32} {M : Sto} {O : Sto} {rc : Int32 → Sto → Option (Unit × Sto)} {E d : Nat} (hE : 9 ≤ E) (hd : E + 3 ≤ d) (hrc : ∀ (x1 : Int32) (S : Sto) (r : Unit) (S' : Sto), rc x1 S = some (r, S') → EX nL xs 0 MI_29 E 0 [some (.ref 1), some (.int x1), none] [] (S, M, O) (.inl none) (S', M, O)) {k7 : Int32 → Int32 → Sto → Option (Unit × Sto)} (hk7 : ∀ (x1 : Int32) (x2 : Int32) (S : Sto) (r : Unit) (S' : Sto), k7 x1 x2 S = some (r, S') → EX nL xs 0 MI_25 d 7 [some (.ref 1), some (.int x1), some (.int x2), none] [] (S, M, O) (.inl none) (S', M, O)) : ∀ (x1 : Int32) (x2 : Int32) (s0 : Int32) (S : Sto) (r : Unit) (S' : Sto), F_Rd_readSum_55 rc k7 x1 x2 s0 S = some (r, S') → EX nL xs 0 MI_25 d 55 [some (.ref 1), some (.int x1), some (.int x2), none] [.int s0] (S, M, O) (.inl none) (S', M, O) := by
  intro x1 x2 s0 S r S' hF
  unfold F_Rd_readSum_55 at hF
  refine Ex_go 2 (pc' := 57) (L' := [some (.ref 1), some (.int x1), some (.int x2), some (.int s0)]) (st' := [.ref 1]) (σ' := (S, M, O)) (rfl) ?_
  obtain ⟨r1, S3, hx2, hF⟩ := b2_i hF
  refine Ex_call (kind := 2) (y := 9) (as := [.ref 1]) (rest := []) (L0 := [some (.ref 1)]) (d' := 2) (v := none) (σ1 := (S3, M, O)) rfl rfl mt_9 rfl rfl (by omega) (X_Rd_nextToken (Nat.le_refl _) _ _ _ hx2) (Ex_st (st2 := []) rfl ?_)
  refine Ex_go 2 (pc' := 62) (L' := [some (.ref 1), some (.int x1), some (.int x2), some (.int s0)]) (st' := [.int x1, .ref 1]) (σ' := (S3, M, O)) (rfl) ?_
  obtain ⟨r4, S6, hx5, hF⟩ := b2_i hF
  refine Ex_call (kind := 2) (y := 24) (as := [.ref 1, .int x1]) (rest := []) (L0 := [some (.ref 1), some (.int x1), none, none]) (d' := (E + 2)) (v := none) (σ1 := (S6, M, O)) rfl rfl mt_24 rfl rfl (by omega) (X_Rd_readProduct hE (Nat.le_refl _) hrc _ _ _ _ hx5) (Ex_st (st2 := []) rfl ?_)
  refine Ex_go 5 (pc' := 74) (L' := [some (.ref 1), some (.int x1), some (.int x2), some (.int s0)]) (st' := [.int (0 : Int32), .int s0, .ref 9]) (σ' := (S6, M, O)) (rfl) ?_
  obtain ⟨r7, S9, hx8, hF⟩ := b2_i hF
  refine Ex_call (kind := 2) (y := 19) (as := [.ref 9, .int s0, .int (0 : Int32)]) (rest := []) (L0 := [some (.ref 9), some (.int s0), some (.int (0 : Int32))]) (d' := 1) (v := none) (σ1 := (S9, M, O)) rfl rfl mt_19 rfl rfl (by omega) (X_Ru_add (Nat.le_refl _) _ _ _ _ _ hx8) (Ex_st (st2 := []) rfl ?_)
  refine Ex_go 2 (pc' := 7) (L' := [some (.ref 1), some (.int x1), some (.int (x2 + (1 : Int32))), some (.int s0)]) (st' := []) (σ' := (S9, M, O)) (rfl) ?_
  exact Ex_mono (L := [some (.ref 1), some (.int x1), some (.int (x2 + (1 : Int32))), none]) (Le_s (Le_s (Le_s (Le_n (Le_0))))) (hk7 _ _ _ _ _ hF) (Nat.le_refl _) (by omega)
def F_Rd_readSum_39 (rc : Int32 → Sto → Option (Unit × Sto)) (k7 : Int32 → Int32 → Sto → Option (Unit × Sto)) (x1 : Int32) (x2 : Int32) (S : Sto) : Option (Unit × Sto) := if (gi S 14) = (43 : Int32) then F_Rd_readSum_55 rc k7 x1 x2 (13 : Int32) S else F_Rd_readSum_55 rc k7 x1 x2 (14 : Int32) S
set_option maxRecDepth 100000 in
theorem X_Rd_readSum_39 {nL : Nat} {xs : Nat → Int32} {M : Sto} {O : Sto} {rc : Int32 → Sto → Option (Unit × Sto)} {E d : Nat} (hE : 9 ≤ E) (hd : E + 3 ≤ d) (hrc : ∀ (x1 : Int32) (S : Sto) (r : Unit) (S' : Sto), rc x1 S = some (r, S') → EX nL xs 0 MI_29 E 0 [some (.ref 1), some (.int x1), none] [] (S, M, O) (.inl none) (S', M, O)) {k7 : Int32 → Int32 → Sto → Option (Unit × Sto)} (hk7 : ∀ (x1 : Int32) (x2 : Int32) (S : Sto) (r : Unit) (S' : Sto), k7 x1 x2 S = some (r, S') → EX nL xs 0 MI_25 d 7 [some (.ref 1), some (.int x1), some (.int x2), none] [] (S, M, O) (.inl none) (S', M, O)) : ∀ (x1 : Int32) (x2 : Int32) (S : Sto) (r : Unit) (S' : Sto), F_Rd_readSum_39 rc k7 x1 x2 S = some (r, S') → EX nL xs 0 MI_25 d 39 [some (.ref 1), some (.int x1), some (.int x2), none] [] (S, M, O) (.inl none) (S', M, O) := by
  intro x1 x2 S r S' hF
  unfold F_Rd_readSum_39 at hF
  refine Ex_go 4 (pc' := if ¬ (gi S 14) = (43 : Int32) then 53 else 48) (L' := [some (.ref 1), some (.int x1), some (.int x2), none]) (st' := []) (σ' := (S, M, O)) (rfl) ?_
  refine Ex_brN (fun hc => ?_) (fun hc => ?_)
  · rw [if_pos hc] at hF
    refine Ex_go 2 (pc' := 55) (L' := [some (.ref 1), some (.int x1), some (.int x2), none]) (st' := [.int (13 : Int32)]) (σ' := (S, M, O)) (rfl) ?_
    exact Ex_mono (L := [some (.ref 1), some (.int x1), some (.int x2), none]) (Le_s (Le_s (Le_s (Le_n (Le_0))))) (X_Rd_readSum_55 hE hd hrc hk7 _ _ _ _ _ _ hF) (Nat.le_refl _) (by omega)
  · rw [if_neg hc] at hF
    refine Ex_go 1 (pc' := 55) (L' := [some (.ref 1), some (.int x1), some (.int x2), none]) (st' := [.int (14 : Int32)]) (σ' := (S, M, O)) (rfl) ?_
    exact Ex_mono (L := [some (.ref 1), some (.int x1), some (.int x2), none]) (Le_s (Le_s (Le_s (Le_n (Le_0))))) (X_Rd_readSum_55 hE hd hrc hk7 _ _ _ _ _ _ hF) (Nat.le_refl _) (by omega)
def F_Rd_readSum_7 (rc : Int32 → Sto → Option (Unit × Sto)) : Nat → Int32 → Int32 → Sto → Option (Unit × Sto)
  | 0, _, _, _ => none
  | n + 1, x1, x2, S => if (500 : Int32) ≤ x2 then some ((), S) else if (gi S 9) = 0 then b1 (F_Rd_isSign (43 : Int32) S) (fun r1 => if r1 = 0 then b1 (F_Rd_isSign (45 : Int32) S) (fun r3 => if r3 = 0 then some ((), S) else F_Rd_readSum_39 rc (F_Rd_readSum_7 rc n) x1 x2 S) else F_Rd_readSum_39 rc (F_Rd_readSum_7 rc n) x1 x2 S) else some ((), S)
set_option maxRecDepth 100000 in
theorem X_Rd_readSum_7 {nL : Nat} {xs : Nat → Int32} {M : Sto} {O : Sto} {rc : Int32 → Sto → Option (Unit × Sto)} {E d : Nat} (hE : 9 ≤ E) (hd : E + 3 ≤ d) (hrc : ∀ (x1 : Int32) (S : Sto) (r : Unit) (S' : Sto), rc x1 S = some (r, S') → EX nL xs 0 MI_29 E 0 [some (.ref 1), some (.int x1), none] [] (S, M, O) (.inl none) (S', M, O)) : ∀ n : Nat, ∀ (x1 : Int32) (x2 : Int32) (S : Sto) (r : Unit) (S' : Sto), F_Rd_readSum_7 rc n x1 x2 S = some (r, S') → EX nL xs 0 MI_25 d 7 [some (.ref 1), some (.int x1), some (.int x2), none] [] (S, M, O) (.inl none) (S', M, O) := by
  intro n
  induction n with
  | zero => intro x1 x2 S r S' hF; cases hF
  | succ n ih =>
  intro x1 x2 S r S' hF
  unfold F_Rd_readSum_7 at hF
  refine Ex_go 3 (pc' := if (500 : Int32) ≤ x2 then 83 else 14) (L' := [some (.ref 1), some (.int x1), some (.int x2), none]) (st' := []) (σ' := (S, M, O)) (rfl) ?_
  refine Ex_br (fun hc => ?_) (fun hc => ?_)
  · rw [if_pos hc] at hF
    cases hF
    exact Ex_fin rfl
  · rw [if_neg hc] at hF
    refine Ex_go 3 (pc' := if ¬ (gi S 9) = 0 then 83 else 21) (L' := [some (.ref 1), some (.int x1), some (.int x2), none]) (st' := []) (σ' := (S, M, O)) (rfl) ?_
    refine Ex_brN (fun hc => ?_) (fun hc => ?_)
    · rw [if_pos hc] at hF
      refine Ex_go 2 (pc' := 24) (L' := [some (.ref 1), some (.int x1), some (.int x2), none]) (st' := [.int (43 : Int32), .ref 1]) (σ' := (S, M, O)) (rfl) ?_
      obtain ⟨r1, hx2, hF⟩ := b1_i hF
      refine Ex_call (kind := 2) (y := 18) (as := [.ref 1, .int (43 : Int32)]) (rest := []) (L0 := [some (.ref 1), some (.int (43 : Int32))]) (d' := 1) (v := some (.int r1)) (σ1 := (S, M, O)) rfl rfl mt_18 rfl rfl (by omega) (X_Rd_isSign (Nat.le_refl _) _ _ _ hx2) (Ex_st (st2 := [.int r1]) rfl ?_)
      refine Ex_go 1 (pc' := if ¬ r1 = 0 then 39 else 30) (L' := [some (.ref 1), some (.int x1), some (.int x2), none]) (st' := []) (σ' := (S, M, O)) (rfl) ?_
      refine Ex_brN (fun hc => ?_) (fun hc => ?_)
      · rw [if_pos hc] at hF
        refine Ex_go 2 (pc' := 33) (L' := [some (.ref 1), some (.int x1), some (.int x2), none]) (st' := [.int (45 : Int32), .ref 1]) (σ' := (S, M, O)) (rfl) ?_
        obtain ⟨r3, hx4, hF⟩ := b1_i hF
        refine Ex_call (kind := 2) (y := 18) (as := [.ref 1, .int (45 : Int32)]) (rest := []) (L0 := [some (.ref 1), some (.int (45 : Int32))]) (d' := 1) (v := some (.int r3)) (σ1 := (S, M, O)) rfl rfl mt_18 rfl rfl (by omega) (X_Rd_isSign (Nat.le_refl _) _ _ _ hx4) (Ex_st (st2 := [.int r3]) rfl ?_)
        refine Ex_go 1 (pc' := if r3 = 0 then 83 else 39) (L' := [some (.ref 1), some (.int x1), some (.int x2), none]) (st' := []) (σ' := (S, M, O)) (rfl) ?_
        refine Ex_br (fun hc => ?_) (fun hc => ?_)
        · rw [if_pos hc] at hF
          cases hF
          exact Ex_fin rfl
        · rw [if_neg hc] at hF
          exact Ex_mono (L := [some (.ref 1), some (.int x1), some (.int x2), none]) (Le_s (Le_s (Le_s (Le_n (Le_0))))) (X_Rd_readSum_39 hE hd hrc ih _ _ _ _ _ hF) (Nat.le_refl _) (by omega)
      · rw [if_neg hc] at hF
        exact Ex_mono (L := [some (.ref 1), some (.int x1), some (.int x2), none]) (Le_s (Le_s (Le_s (Le_n (Le_0))))) (X_Rd_readSum_39 hE hd hrc ih _ _ _ _ _ hF) (Nat.le_refl _) (by omega)
    · rw [if_neg hc] at hF
      cases hF
      exact Ex_fin rfl
def F_Rd_readSum (rc : Int32 → Sto → Option (Unit × Sto)) (x1 : Int32) (S : Sto) : Option (Unit × Sto) := b2 (F_Rd_readProduct rc x1 S) (fun r1 S3 => F_Rd_readSum_7 rc FU x1 (0 : Int32) S3)
set_option maxRecDepth 100000 in
theorem X_Rd_readSum {nL : Nat} {xs : Nat → Int32} {M : Sto} {O : Sto} {rc : Int32 → Sto → Option (Unit × Sto)} {E d : Nat} (hE : 9 ≤ E) (hd : E + 3 ≤ d) (hrc : ∀ (x1 : Int32) (S : Sto) (r : Unit) (S' : Sto), rc x1 S = some (r, S') → EX nL xs 0 MI_29 E 0 [some (.ref 1), some (.int x1), none] [] (S, M, O) (.inl none) (S', M, O)) : ∀ (x1 : Int32) (S : Sto) (r : Unit) (S' : Sto), F_Rd_readSum rc x1 S = some (r, S') → EX nL xs 0 MI_25 d 0 [some (.ref 1), some (.int x1), none, none] [] (S, M, O) (.inl none) (S', M, O) := by
  intro x1 S r S' hF
  unfold F_Rd_readSum at hF
  refine Ex_go 2 (pc' := 2) (L' := [some (.ref 1), some (.int x1), none, none]) (st' := [.int x1, .ref 1]) (σ' := (S, M, O)) (rfl) ?_
  obtain ⟨r1, S3, hx2, hF⟩ := b2_i hF
  refine Ex_call (kind := 2) (y := 24) (as := [.ref 1, .int x1]) (rest := []) (L0 := [some (.ref 1), some (.int x1), none, none]) (d' := (E + 2)) (v := none) (σ1 := (S3, M, O)) rfl rfl mt_24 rfl rfl (by omega) (X_Rd_readProduct hE (Nat.le_refl _) hrc _ _ _ _ hx2) (Ex_st (st2 := []) rfl ?_)
  refine Ex_go 2 (pc' := 7) (L' := [some (.ref 1), some (.int x1), some (.int (0 : Int32)), none]) (st' := []) (σ' := (S3, M, O)) (rfl) ?_
  exact Ex_mono (L := [some (.ref 1), some (.int x1), some (.int (0 : Int32)), none]) (Le_s (Le_s (Le_s (Le_n (Le_0))))) (X_Rd_readSum_7 hE hd hrc FU _ _ _ _ _ hF) (Nat.le_refl _) (by omega)
def F_Rd_readTest_46 (rc : Int32 → Sto → Option (Unit × Sto)) (x1 : Int32) (s0 : Int32) (S : Sto) : Option (Unit × Sto) := b2 (F_Rd_nextToken S) (fun r1 S3 => b2 (F_Rd_readSum rc x1 S3) (fun r4 S6 => b2 (F_Ru_add s0 (0 : Int32) S6) (fun r7 S9 => some ((), S9))))
set_option maxRecDepth 100000 in
theorem X_Rd_readTest_46 {nL : Nat} {xs : Nat → Int32} {M : Sto} {O : Sto} {rc : Int32 → Sto → Option (Unit × Sto)} {E d : Nat} (hE : 9 ≤ E) (hd : E + 4 ≤ d) (hrc : ∀ (x1 : Int32) (S : Sto) (r : Unit) (S' : Sto), rc x1 S = some (r, S') → EX nL xs 0 MI_29 E 0 [some (.ref 1), some (.int x1), none] [] (S, M, O) (.inl none) (S', M, O)) : ∀ (x1 : Int32) (s0 : Int32) (S : Sto) (r : Unit) (S' : Sto), F_Rd_readTest_46 rc x1 s0 S = some (r, S') → EX nL xs 0 MI_26 d 46 [some (.ref 1), some (.int x1), none] [.int s0] (S, M, O) (.inl none) (S', M, O) := by
  intro x1 s0 S r S' hF
  unfold F_Rd_readTest_46 at hF
  refine Ex_go 2 (pc' := 48) (L' := [some (.ref 1), some (.int x1), some (.int s0)]) (st' := [.ref 1]) (σ' := (S, M, O)) (rfl) ?_
  obtain ⟨r1, S3, hx2, hF⟩ := b2_i hF
  refine Ex_call (kind := 2) (y := 9) (as := [.ref 1]) (rest := []) (L0 := [some (.ref 1)]) (d' := 2) (v := none) (σ1 := (S3, M, O)) rfl rfl mt_9 rfl rfl (by omega) (X_Rd_nextToken (Nat.le_refl _) _ _ _ hx2) (Ex_st (st2 := []) rfl ?_)
  refine Ex_go 2 (pc' := 53) (L' := [some (.ref 1), some (.int x1), some (.int s0)]) (st' := [.int x1, .ref 1]) (σ' := (S3, M, O)) (rfl) ?_
  obtain ⟨r4, S6, hx5, hF⟩ := b2_i hF
  refine Ex_call (kind := 2) (y := 25) (as := [.ref 1, .int x1]) (rest := []) (L0 := [some (.ref 1), some (.int x1), none, none]) (d' := (E + 3)) (v := none) (σ1 := (S6, M, O)) rfl rfl mt_25 rfl rfl (by omega) (X_Rd_readSum hE (Nat.le_refl _) hrc _ _ _ _ hx5) (Ex_st (st2 := []) rfl ?_)
  refine Ex_go 5 (pc' := 65) (L' := [some (.ref 1), some (.int x1), some (.int s0)]) (st' := [.int (0 : Int32), .int s0, .ref 9]) (σ' := (S6, M, O)) (rfl) ?_
  obtain ⟨r7, S9, hx8, hF⟩ := b2_i hF
  refine Ex_call (kind := 2) (y := 19) (as := [.ref 9, .int s0, .int (0 : Int32)]) (rest := []) (L0 := [some (.ref 9), some (.int s0), some (.int (0 : Int32))]) (d' := 1) (v := none) (σ1 := (S9, M, O)) rfl rfl mt_19 rfl rfl (by omega) (X_Ru_add (Nat.le_refl _) _ _ _ _ _ hx8) (Ex_st (st2 := []) rfl ?_)
  cases hF
  exact Ex_fin rfl
def F_Rd_readTest_30 (rc : Int32 → Sto → Option (Unit × Sto)) (x1 : Int32) (S : Sto) : Option (Unit × Sto) := if (gi S 14) = (60 : Int32) then F_Rd_readTest_46 rc x1 (11 : Int32) S else F_Rd_readTest_46 rc x1 (12 : Int32) S
set_option maxRecDepth 100000 in
theorem X_Rd_readTest_30 {nL : Nat} {xs : Nat → Int32} {M : Sto} {O : Sto} {rc : Int32 → Sto → Option (Unit × Sto)} {E d : Nat} (hE : 9 ≤ E) (hd : E + 4 ≤ d) (hrc : ∀ (x1 : Int32) (S : Sto) (r : Unit) (S' : Sto), rc x1 S = some (r, S') → EX nL xs 0 MI_29 E 0 [some (.ref 1), some (.int x1), none] [] (S, M, O) (.inl none) (S', M, O)) : ∀ (x1 : Int32) (S : Sto) (r : Unit) (S' : Sto), F_Rd_readTest_30 rc x1 S = some (r, S') → EX nL xs 0 MI_26 d 30 [some (.ref 1), some (.int x1), none] [] (S, M, O) (.inl none) (S', M, O) := by
  intro x1 S r S' hF
  unfold F_Rd_readTest_30 at hF
  refine Ex_go 4 (pc' := if ¬ (gi S 14) = (60 : Int32) then 44 else 39) (L' := [some (.ref 1), some (.int x1), none]) (st' := []) (σ' := (S, M, O)) (rfl) ?_
  refine Ex_brN (fun hc => ?_) (fun hc => ?_)
  · rw [if_pos hc] at hF
    refine Ex_go 2 (pc' := 46) (L' := [some (.ref 1), some (.int x1), none]) (st' := [.int (11 : Int32)]) (σ' := (S, M, O)) (rfl) ?_
    exact Ex_mono (L := [some (.ref 1), some (.int x1), none]) (Le_s (Le_s (Le_n (Le_0)))) (X_Rd_readTest_46 hE hd hrc _ _ _ _ _ hF) (Nat.le_refl _) (by omega)
  · rw [if_neg hc] at hF
    refine Ex_go 1 (pc' := 46) (L' := [some (.ref 1), some (.int x1), none]) (st' := [.int (12 : Int32)]) (σ' := (S, M, O)) (rfl) ?_
    exact Ex_mono (L := [some (.ref 1), some (.int x1), none]) (Le_s (Le_s (Le_n (Le_0)))) (X_Rd_readTest_46 hE hd hrc _ _ _ _ _ hF) (Nat.le_refl _) (by omega)
def F_Rd_readTest (rc : Int32 → Sto → Option (Unit × Sto)) (x1 : Int32) (S : Sto) : Option (Unit × Sto) := b2 (F_Rd_readSum rc x1 S) (fun r1 S3 => if (gi S3 9) = 0 then b1 (F_Rd_isSign (60 : Int32) S3) (fun r4 => if r4 = 0 then b1 (F_Rd_isSign (61 : Int32) S3) (fun r6 => if r6 = 0 then some ((), S3) else F_Rd_readTest_30 rc x1 S3) else F_Rd_readTest_30 rc x1 S3) else some ((), S3))
set_option maxRecDepth 100000 in
theorem X_Rd_readTest {nL : Nat} {xs : Nat → Int32} {M : Sto} {O : Sto} {rc : Int32 → Sto → Option (Unit × Sto)} {E d : Nat} (hE : 9 ≤ E) (hd : E + 4 ≤ d) (hrc : ∀ (x1 : Int32) (S : Sto) (r : Unit) (S' : Sto), rc x1 S = some (r, S') → EX nL xs 0 MI_29 E 0 [some (.ref 1), some (.int x1), none] [] (S, M, O) (.inl none) (S', M, O)) : ∀ (x1 : Int32) (S : Sto) (r : Unit) (S' : Sto), F_Rd_readTest rc x1 S = some (r, S') → EX nL xs 0 MI_26 d 0 [some (.ref 1), some (.int x1), none] [] (S, M, O) (.inl none) (S', M, O) := by
  intro x1 S r S' hF
  unfold F_Rd_readTest at hF
  refine Ex_go 2 (pc' := 2) (L' := [some (.ref 1), some (.int x1), none]) (st' := [.int x1, .ref 1]) (σ' := (S, M, O)) (rfl) ?_
  obtain ⟨r1, S3, hx2, hF⟩ := b2_i hF
  refine Ex_call (kind := 2) (y := 25) (as := [.ref 1, .int x1]) (rest := []) (L0 := [some (.ref 1), some (.int x1), none, none]) (d' := (E + 3)) (v := none) (σ1 := (S3, M, O)) rfl rfl mt_25 rfl rfl (by omega) (X_Rd_readSum hE (Nat.le_refl _) hrc _ _ _ _ hx2) (Ex_st (st2 := []) rfl ?_)
  refine Ex_go 3 (pc' := if ¬ (gi S3 9) = 0 then 68 else 12) (L' := [some (.ref 1), some (.int x1), none]) (st' := []) (σ' := (S3, M, O)) (rfl) ?_
  refine Ex_brN (fun hc => ?_) (fun hc => ?_)
  · rw [if_pos hc] at hF
    refine Ex_go 2 (pc' := 15) (L' := [some (.ref 1), some (.int x1), none]) (st' := [.int (60 : Int32), .ref 1]) (σ' := (S3, M, O)) (rfl) ?_
    obtain ⟨r4, hx5, hF⟩ := b1_i hF
    refine Ex_call (kind := 2) (y := 18) (as := [.ref 1, .int (60 : Int32)]) (rest := []) (L0 := [some (.ref 1), some (.int (60 : Int32))]) (d' := 1) (v := some (.int r4)) (σ1 := (S3, M, O)) rfl rfl mt_18 rfl rfl (by omega) (X_Rd_isSign (Nat.le_refl _) _ _ _ hx5) (Ex_st (st2 := [.int r4]) rfl ?_)
    refine Ex_go 1 (pc' := if ¬ r4 = 0 then 30 else 21) (L' := [some (.ref 1), some (.int x1), none]) (st' := []) (σ' := (S3, M, O)) (rfl) ?_
    refine Ex_brN (fun hc => ?_) (fun hc => ?_)
    · rw [if_pos hc] at hF
      refine Ex_go 2 (pc' := 24) (L' := [some (.ref 1), some (.int x1), none]) (st' := [.int (61 : Int32), .ref 1]) (σ' := (S3, M, O)) (rfl) ?_
      obtain ⟨r6, hx7, hF⟩ := b1_i hF
      refine Ex_call (kind := 2) (y := 18) (as := [.ref 1, .int (61 : Int32)]) (rest := []) (L0 := [some (.ref 1), some (.int (61 : Int32))]) (d' := 1) (v := some (.int r6)) (σ1 := (S3, M, O)) rfl rfl mt_18 rfl rfl (by omega) (X_Rd_isSign (Nat.le_refl _) _ _ _ hx7) (Ex_st (st2 := [.int r6]) rfl ?_)
      refine Ex_go 1 (pc' := if r6 = 0 then 68 else 30) (L' := [some (.ref 1), some (.int x1), none]) (st' := []) (σ' := (S3, M, O)) (rfl) ?_
      refine Ex_br (fun hc => ?_) (fun hc => ?_)
      · rw [if_pos hc] at hF
        cases hF
        exact Ex_fin rfl
      · rw [if_neg hc] at hF
        exact Ex_mono (L := [some (.ref 1), some (.int x1), none]) (Le_s (Le_s (Le_n (Le_0)))) (X_Rd_readTest_30 hE hd hrc _ _ _ _ hF) (Nat.le_refl _) (by omega)
    · rw [if_neg hc] at hF
      exact Ex_mono (L := [some (.ref 1), some (.int x1), none]) (Le_s (Le_s (Le_n (Le_0)))) (X_Rd_readTest_30 hE hd hrc _ _ _ _ hF) (Nat.le_refl _) (by omega)
  · rw [if_neg hc] at hF
    cases hF
    exact Ex_fin rfl
def F_Rd_readNot_55 (rc : Int32 → Sto → Option (Unit × Sto)) : Nat → Int32 → Int32 → Sto → Option (Unit × Sto)
  | 0, _, _, _ => none
  | n + 1, x2, x3, S => if x2 ≤ x3 then some ((), S) else b2 (F_Ru_add (8 : Int32) (0 : Int32) S) (fun r1 S3 => F_Rd_readNot_55 rc n x2 (x3 + (1 : Int32)) S3)
set_option maxRecDepth 100000 in
theorem X_Rd_readNot_55 {nL : Nat} {xs : Nat → Int32} {M : Sto} {O : Sto} {rc : Int32 → Sto → Option (Unit × Sto)} {E d : Nat} (hE : 9 ≤ E) (hd : E + 5 ≤ d) (hrc : ∀ (x1 : Int32) (S : Sto) (r : Unit) (S' : Sto), rc x1 S = some (r, S') → EX nL xs 0 MI_29 E 0 [some (.ref 1), some (.int x1), none] [] (S, M, O) (.inl none) (S', M, O)) : ∀ n : Nat, ∀ (x2 : Int32) (x3 : Int32) (S : Sto) (r : Unit) (S' : Sto), F_Rd_readNot_55 rc n x2 x3 S = some (r, S') → EX nL xs 0 MI_27 d 55 [some (.ref 1), none, some (.int x2), some (.int x3)] [] (S, M, O) (.inl none) (S', M, O) := by
  intro n
  induction n with
  | zero => intro x2 x3 S r S' hF; cases hF
  | succ n ih =>
  intro x2 x3 S r S' hF
  unfold F_Rd_readNot_55 at hF
  refine Ex_go 3 (pc' := if x2 ≤ x3 then 79 else 60) (L' := [some (.ref 1), none, some (.int x2), some (.int x3)]) (st' := []) (σ' := (S, M, O)) (rfl) ?_
  refine Ex_br (fun hc => ?_) (fun hc => ?_)
  · rw [if_pos hc] at hF
    cases hF
    exact Ex_fin rfl
  · rw [if_neg hc] at hF
    refine Ex_go 5 (pc' := 70) (L' := [some (.ref 1), none, some (.int x2), some (.int x3)]) (st' := [.int (0 : Int32), .int (8 : Int32), .ref 9]) (σ' := (S, M, O)) (rfl) ?_
    obtain ⟨r1, S3, hx2, hF⟩ := b2_i hF
    refine Ex_call (kind := 2) (y := 19) (as := [.ref 9, .int (8 : Int32), .int (0 : Int32)]) (rest := []) (L0 := [some (.ref 9), some (.int (8 : Int32)), some (.int (0 : Int32))]) (d' := 1) (v := none) (σ1 := (S3, M, O)) rfl rfl mt_19 rfl rfl (by omega) (X_Ru_add (Nat.le_refl _) _ _ _ _ _ hx2) (Ex_st (st2 := []) rfl ?_)
    refine Ex_go 2 (pc' := 55) (L' := [some (.ref 1), none, some (.int x2), some (.int (x3 + (1 : Int32)))]) (st' := []) (σ' := (S3, M, O)) (rfl) ?_
    exact Ex_mono (L := [some (.ref 1), none, some (.int x2), some (.int (x3 + (1 : Int32)))]) (Le_s (Le_n (Le_s (Le_s (Le_0))))) (ih _ _ _ _ _ hF) (Nat.le_refl _) (by omega)
def F_Rd_readNot_48 (rc : Int32 → Sto → Option (Unit × Sto)) (x1 : Int32) (x2 : Int32) (S : Sto) : Option (Unit × Sto) := b2 (F_Rd_readTest rc x1 S) (fun r1 S3 => F_Rd_readNot_55 rc FU x2 (0 : Int32) S3)
set_option maxRecDepth 100000 in
theorem X_Rd_readNot_48 {nL : Nat} {xs : Nat → Int32} {M : Sto} {O : Sto} {rc : Int32 → Sto → Option (Unit × Sto)} {E d : Nat} (hE : 9 ≤ E) (hd : E + 5 ≤ d) (hrc : ∀ (x1 : Int32) (S : Sto) (r : Unit) (S' : Sto), rc x1 S = some (r, S') → EX nL xs 0 MI_29 E 0 [some (.ref 1), some (.int x1), none] [] (S, M, O) (.inl none) (S', M, O)) : ∀ (x1 : Int32) (x2 : Int32) (S : Sto) (r : Unit) (S' : Sto), F_Rd_readNot_48 rc x1 x2 S = some (r, S') → EX nL xs 0 MI_27 d 48 [some (.ref 1), some (.int x1), some (.int x2), none] [] (S, M, O) (.inl none) (S', M, O) := by
  intro x1 x2 S r S' hF
  unfold F_Rd_readNot_48 at hF
  refine Ex_go 2 (pc' := 50) (L' := [some (.ref 1), some (.int x1), some (.int x2), none]) (st' := [.int x1, .ref 1]) (σ' := (S, M, O)) (rfl) ?_
  obtain ⟨r1, S3, hx2, hF⟩ := b2_i hF
  refine Ex_call (kind := 2) (y := 26) (as := [.ref 1, .int x1]) (rest := []) (L0 := [some (.ref 1), some (.int x1), none]) (d' := (E + 4)) (v := none) (σ1 := (S3, M, O)) rfl rfl mt_26 rfl rfl (by omega) (X_Rd_readTest hE (Nat.le_refl _) hrc _ _ _ _ hx2) (Ex_st (st2 := []) rfl ?_)
  refine Ex_go 2 (pc' := 55) (L' := [some (.ref 1), some (.int x1), some (.int x2), some (.int (0 : Int32))]) (st' := []) (σ' := (S3, M, O)) (rfl) ?_
  exact Ex_mono (L := [some (.ref 1), none, some (.int x2), some (.int (0 : Int32))]) (Le_s (Le_n (Le_s (Le_s (Le_0))))) (X_Rd_readNot_55 hE hd hrc FU _ _ _ _ _ hF) (Nat.le_refl _) (by omega)
def F_Rd_readNot_27 (rc : Int32 → Sto → Option (Unit × Sto)) (x1 : Int32) (x2 : Int32) (S : Sto) : Option (Unit × Sto) := b1 (F_Rd_isWord 3019 S) (fun r1 => if r1 = 0 then F_Rd_readNot_48 rc x1 x2 S else if x2 = (6 : Int32) then b2 (F_Rd_fail (2 : Int32) S) (fun r3 S5 => some ((), S5)) else F_Rd_readNot_48 rc x1 x2 S)
set_option maxRecDepth 100000 in
theorem X_Rd_readNot_27 {nL : Nat} {xs : Nat → Int32} {M : Sto} {O : Sto} {rc : Int32 → Sto → Option (Unit × Sto)} {E d : Nat} (hE : 9 ≤ E) (hd : E + 5 ≤ d) (hrc : ∀ (x1 : Int32) (S : Sto) (r : Unit) (S' : Sto), rc x1 S = some (r, S') → EX nL xs 0 MI_29 E 0 [some (.ref 1), some (.int x1), none] [] (S, M, O) (.inl none) (S', M, O)) : ∀ (x1 : Int32) (x2 : Int32) (S : Sto) (r : Unit) (S' : Sto), F_Rd_readNot_27 rc x1 x2 S = some (r, S') → EX nL xs 0 MI_27 d 27 [some (.ref 1), some (.int x1), some (.int x2), none] [] (S, M, O) (.inl none) (S', M, O) := by
  intro x1 x2 S r S' hF
  unfold F_Rd_readNot_27 at hF
  refine Ex_go 2 (pc' := 30) (L' := [some (.ref 1), some (.int x1), some (.int x2), none]) (st' := [.ref 3019, .ref 1]) (σ' := (S, M, O)) (rfl) ?_
  obtain ⟨r1, hx2, hF⟩ := b1_i hF
  refine Ex_call (kind := 2) (y := 10) (as := [.ref 1, .ref 3019]) (rest := []) (L0 := [some (.ref 1), some (.ref 3019), none]) (d' := 6) (v := some (.int r1)) (σ1 := (S, M, O)) rfl rfl mt_10 rfl rfl (by omega) (X_Rd_isWord (Nat.le_refl _) _ _ _ (by decide) hx2) (Ex_st (st2 := [.int r1]) rfl ?_)
  refine Ex_go 1 (pc' := if r1 = 0 then 48 else 36) (L' := [some (.ref 1), some (.int x1), some (.int x2), none]) (st' := []) (σ' := (S, M, O)) (rfl) ?_
  refine Ex_br (fun hc => ?_) (fun hc => ?_)
  · rw [if_pos hc] at hF
    exact Ex_mono (L := [some (.ref 1), some (.int x1), some (.int x2), none]) (Le_s (Le_s (Le_s (Le_n (Le_0))))) (X_Rd_readNot_48 hE hd hrc _ _ _ _ _ hF) (Nat.le_refl _) (by omega)
  · rw [if_neg hc] at hF
    refine Ex_go 3 (pc' := if ¬ x2 = (6 : Int32) then 48 else 42) (L' := [some (.ref 1), some (.int x1), some (.int x2), none]) (st' := []) (σ' := (S, M, O)) (rfl) ?_
    refine Ex_brN (fun hc => ?_) (fun hc => ?_)
    · rw [if_pos hc] at hF
      refine Ex_go 2 (pc' := 44) (L' := [some (.ref 1), some (.int x1), some (.int x2), none]) (st' := [.int (2 : Int32), .ref 1]) (σ' := (S, M, O)) (rfl) ?_
      obtain ⟨r3, S5, hx4, hF⟩ := b2_i hF
      refine Ex_call (kind := 2) (y := 12) (as := [.ref 1, .int (2 : Int32)]) (rest := []) (L0 := [some (.ref 1), some (.int (2 : Int32))]) (d' := 1) (v := none) (σ1 := (S5, M, O)) rfl rfl mt_12 rfl rfl (by omega) (X_Rd_fail (Nat.le_refl _) _ _ _ _ hx4) (Ex_st (st2 := []) rfl ?_)
      cases hF
      exact Ex_fin rfl
    · rw [if_neg hc] at hF
      exact Ex_mono (L := [some (.ref 1), some (.int x1), some (.int x2), none]) (Le_s (Le_s (Le_s (Le_n (Le_0))))) (X_Rd_readNot_48 hE hd hrc _ _ _ _ _ hF) (Nat.le_refl _) (by omega)
def F_Rd_readNot_2 (rc : Int32 → Sto → Option (Unit × Sto)) : Nat → Int32 → Int32 → Sto → Option (Unit × Sto)
  | 0, _, _, _ => none
  | n + 1, x1, x2, S => if (6 : Int32) ≤ x2 then F_Rd_readNot_27 rc x1 x2 S else b1 (F_Rd_isWord 3019 S) (fun r1 => if r1 = 0 then F_Rd_readNot_27 rc x1 x2 S else b2 (F_Rd_nextToken S) (fun r3 S5 => F_Rd_readNot_2 rc n x1 (x2 + (1 : Int32)) S5))
set_option maxRecDepth 100000 in
theorem X_Rd_readNot_2 {nL : Nat} {xs : Nat → Int32} {M : Sto} {O : Sto} {rc : Int32 → Sto → Option (Unit × Sto)} {E d : Nat} (hE : 9 ≤ E) (hd : E + 5 ≤ d) (hrc : ∀ (x1 : Int32) (S : Sto) (r : Unit) (S' : Sto), rc x1 S = some (r, S') → EX nL xs 0 MI_29 E 0 [some (.ref 1), some (.int x1), none] [] (S, M, O) (.inl none) (S', M, O)) : ∀ n : Nat, ∀ (x1 : Int32) (x2 : Int32) (S : Sto) (r : Unit) (S' : Sto), F_Rd_readNot_2 rc n x1 x2 S = some (r, S') → EX nL xs 0 MI_27 d 2 [some (.ref 1), some (.int x1), some (.int x2), none] [] (S, M, O) (.inl none) (S', M, O) := by
  intro n
  induction n with
  | zero => intro x1 x2 S r S' hF; cases hF
  | succ n ih =>
  intro x1 x2 S r S' hF
  unfold F_Rd_readNot_2 at hF
  refine Ex_go 3 (pc' := if (6 : Int32) ≤ x2 then 27 else 8) (L' := [some (.ref 1), some (.int x1), some (.int x2), none]) (st' := []) (σ' := (S, M, O)) (rfl) ?_
  refine Ex_br (fun hc => ?_) (fun hc => ?_)
  · rw [if_pos hc] at hF
    exact Ex_mono (L := [some (.ref 1), some (.int x1), some (.int x2), none]) (Le_s (Le_s (Le_s (Le_n (Le_0))))) (X_Rd_readNot_27 hE hd hrc _ _ _ _ _ hF) (Nat.le_refl _) (by omega)
  · rw [if_neg hc] at hF
    refine Ex_go 2 (pc' := 11) (L' := [some (.ref 1), some (.int x1), some (.int x2), none]) (st' := [.ref 3019, .ref 1]) (σ' := (S, M, O)) (rfl) ?_
    obtain ⟨r1, hx2, hF⟩ := b1_i hF
    refine Ex_call (kind := 2) (y := 10) (as := [.ref 1, .ref 3019]) (rest := []) (L0 := [some (.ref 1), some (.ref 3019), none]) (d' := 6) (v := some (.int r1)) (σ1 := (S, M, O)) rfl rfl mt_10 rfl rfl (by omega) (X_Rd_isWord (Nat.le_refl _) _ _ _ (by decide) hx2) (Ex_st (st2 := [.int r1]) rfl ?_)
    refine Ex_go 1 (pc' := if r1 = 0 then 27 else 17) (L' := [some (.ref 1), some (.int x1), some (.int x2), none]) (st' := []) (σ' := (S, M, O)) (rfl) ?_
    refine Ex_br (fun hc => ?_) (fun hc => ?_)
    · rw [if_pos hc] at hF
      exact Ex_mono (L := [some (.ref 1), some (.int x1), some (.int x2), none]) (Le_s (Le_s (Le_s (Le_n (Le_0))))) (X_Rd_readNot_27 hE hd hrc _ _ _ _ _ hF) (Nat.le_refl _) (by omega)
    · rw [if_neg hc] at hF
      refine Ex_go 2 (pc' := 21) (L' := [some (.ref 1), some (.int x1), some (.int (x2 + (1 : Int32))), none]) (st' := [.ref 1]) (σ' := (S, M, O)) (rfl) ?_
      obtain ⟨r3, S5, hx4, hF⟩ := b2_i hF
      refine Ex_call (kind := 2) (y := 9) (as := [.ref 1]) (rest := []) (L0 := [some (.ref 1)]) (d' := 2) (v := none) (σ1 := (S5, M, O)) rfl rfl mt_9 rfl rfl (by omega) (X_Rd_nextToken (Nat.le_refl _) _ _ _ hx4) (Ex_st (st2 := []) rfl ?_)
      refine Ex_go 1 (pc' := 2) (L' := [some (.ref 1), some (.int x1), some (.int (x2 + (1 : Int32))), none]) (st' := []) (σ' := (S5, M, O)) (rfl) ?_
      exact Ex_mono (L := [some (.ref 1), some (.int x1), some (.int (x2 + (1 : Int32))), none]) (Le_s (Le_s (Le_s (Le_n (Le_0))))) (ih _ _ _ _ _ hF) (Nat.le_refl _) (by omega)
def F_Rd_readNot (rc : Int32 → Sto → Option (Unit × Sto)) (x1 : Int32) (S : Sto) : Option (Unit × Sto) := F_Rd_readNot_2 rc FU x1 (0 : Int32) S
set_option maxRecDepth 100000 in
theorem X_Rd_readNot {nL : Nat} {xs : Nat → Int32} {M : Sto} {O : Sto} {rc : Int32 → Sto → Option (Unit × Sto)} {E d : Nat} (hE : 9 ≤ E) (hd : E + 5 ≤ d) (hrc : ∀ (x1 : Int32) (S : Sto) (r : Unit) (S' : Sto), rc x1 S = some (r, S') → EX nL xs 0 MI_29 E 0 [some (.ref 1), some (.int x1), none] [] (S, M, O) (.inl none) (S', M, O)) : ∀ (x1 : Int32) (S : Sto) (r : Unit) (S' : Sto), F_Rd_readNot rc x1 S = some (r, S') → EX nL xs 0 MI_27 d 0 [some (.ref 1), some (.int x1), none, none] [] (S, M, O) (.inl none) (S', M, O) := by
  intro x1 S r S' hF
  unfold F_Rd_readNot at hF
  refine Ex_go 2 (pc' := 2) (L' := [some (.ref 1), some (.int x1), some (.int (0 : Int32)), none]) (st' := []) (σ' := (S, M, O)) (rfl) ?_
  exact Ex_mono (L := [some (.ref 1), some (.int x1), some (.int (0 : Int32)), none]) (Le_s (Le_s (Le_s (Le_n (Le_0))))) (X_Rd_readNot_2 hE hd hrc FU _ _ _ _ _ hF) (Nat.le_refl _) (by omega)
def F_Rd_readAnd_7 (rc : Int32 → Sto → Option (Unit × Sto)) : Nat → Int32 → Int32 → Sto → Option (Unit × Sto)
  | 0, _, _, _ => none
  | n + 1, x1, x2, S => if (500 : Int32) ≤ x2 then some ((), S) else if (gi S 9) = 0 then b1 (F_Rd_isWord 3018 S) (fun r1 => if r1 = 0 then some ((), S) else b2 (F_Rd_nextToken S) (fun r3 S5 => b2 (F_Rd_readNot rc x1 S5) (fun r6 S8 => b2 (F_Ru_add (10 : Int32) (0 : Int32) S8) (fun r9 S11 => F_Rd_readAnd_7 rc n x1 (x2 + (1 : Int32)) S11)))) else some ((), S)
set_option maxRecDepth 100000 in
theorem X_Rd_readAnd_7 {nL : Nat} {xs : Nat → Int32} {M : Sto} {O : Sto} {rc : Int32 → Sto → Option (Unit × Sto)} {E d : Nat} (hE : 9 ≤ E) (hd : E + 6 ≤ d) (hrc : ∀ (x1 : Int32) (S : Sto) (r : Unit) (S' : Sto), rc x1 S = some (r, S') → EX nL xs 0 MI_29 E 0 [some (.ref 1), some (.int x1), none] [] (S, M, O) (.inl none) (S', M, O)) : ∀ n : Nat, ∀ (x1 : Int32) (x2 : Int32) (S : Sto) (r : Unit) (S' : Sto), F_Rd_readAnd_7 rc n x1 x2 S = some (r, S') → EX nL xs 0 MI_28 d 7 [some (.ref 1), some (.int x1), some (.int x2)] [] (S, M, O) (.inl none) (S', M, O) := by
  intro n
  induction n with
  | zero => intro x1 x2 S r S' hF; cases hF
  | succ n ih =>
  intro x1 x2 S r S' hF
  unfold F_Rd_readAnd_7 at hF
  refine Ex_go 3 (pc' := if (500 : Int32) ≤ x2 then 58 else 14) (L' := [some (.ref 1), some (.int x1), some (.int x2)]) (st' := []) (σ' := (S, M, O)) (rfl) ?_
  refine Ex_br (fun hc => ?_) (fun hc => ?_)
  · rw [if_pos hc] at hF
    cases hF
    exact Ex_fin rfl
  · rw [if_neg hc] at hF
    refine Ex_go 3 (pc' := if ¬ (gi S 9) = 0 then 58 else 21) (L' := [some (.ref 1), some (.int x1), some (.int x2)]) (st' := []) (σ' := (S, M, O)) (rfl) ?_
    refine Ex_brN (fun hc => ?_) (fun hc => ?_)
    · rw [if_pos hc] at hF
      refine Ex_go 2 (pc' := 24) (L' := [some (.ref 1), some (.int x1), some (.int x2)]) (st' := [.ref 3018, .ref 1]) (σ' := (S, M, O)) (rfl) ?_
      obtain ⟨r1, hx2, hF⟩ := b1_i hF
      refine Ex_call (kind := 2) (y := 10) (as := [.ref 1, .ref 3018]) (rest := []) (L0 := [some (.ref 1), some (.ref 3018), none]) (d' := 6) (v := some (.int r1)) (σ1 := (S, M, O)) rfl rfl mt_10 rfl rfl (by omega) (X_Rd_isWord (Nat.le_refl _) _ _ _ (by decide) hx2) (Ex_st (st2 := [.int r1]) rfl ?_)
      refine Ex_go 1 (pc' := if r1 = 0 then 58 else 30) (L' := [some (.ref 1), some (.int x1), some (.int x2)]) (st' := []) (σ' := (S, M, O)) (rfl) ?_
      refine Ex_br (fun hc => ?_) (fun hc => ?_)
      · rw [if_pos hc] at hF
        cases hF
        exact Ex_fin rfl
      · rw [if_neg hc] at hF
        refine Ex_go 1 (pc' := 31) (L' := [some (.ref 1), some (.int x1), some (.int x2)]) (st' := [.ref 1]) (σ' := (S, M, O)) (rfl) ?_
        obtain ⟨r3, S5, hx4, hF⟩ := b2_i hF
        refine Ex_call (kind := 2) (y := 9) (as := [.ref 1]) (rest := []) (L0 := [some (.ref 1)]) (d' := 2) (v := none) (σ1 := (S5, M, O)) rfl rfl mt_9 rfl rfl (by omega) (X_Rd_nextToken (Nat.le_refl _) _ _ _ hx4) (Ex_st (st2 := []) rfl ?_)
        refine Ex_go 2 (pc' := 36) (L' := [some (.ref 1), some (.int x1), some (.int x2)]) (st' := [.int x1, .ref 1]) (σ' := (S5, M, O)) (rfl) ?_
        obtain ⟨r6, S8, hx7, hF⟩ := b2_i hF
        refine Ex_call (kind := 2) (y := 27) (as := [.ref 1, .int x1]) (rest := []) (L0 := [some (.ref 1), some (.int x1), none, none]) (d' := (E + 5)) (v := none) (σ1 := (S8, M, O)) rfl rfl mt_27 rfl rfl (by omega) (X_Rd_readNot hE (Nat.le_refl _) hrc _ _ _ _ hx7) (Ex_st (st2 := []) rfl ?_)
        refine Ex_go 5 (pc' := 49) (L' := [some (.ref 1), some (.int x1), some (.int x2)]) (st' := [.int (0 : Int32), .int (10 : Int32), .ref 9]) (σ' := (S8, M, O)) (rfl) ?_
        obtain ⟨r9, S11, hx10, hF⟩ := b2_i hF
        refine Ex_call (kind := 2) (y := 19) (as := [.ref 9, .int (10 : Int32), .int (0 : Int32)]) (rest := []) (L0 := [some (.ref 9), some (.int (10 : Int32)), some (.int (0 : Int32))]) (d' := 1) (v := none) (σ1 := (S11, M, O)) rfl rfl mt_19 rfl rfl (by omega) (X_Ru_add (Nat.le_refl _) _ _ _ _ _ hx10) (Ex_st (st2 := []) rfl ?_)
        refine Ex_go 2 (pc' := 7) (L' := [some (.ref 1), some (.int x1), some (.int (x2 + (1 : Int32)))]) (st' := []) (σ' := (S11, M, O)) (rfl) ?_
        exact Ex_mono (L := [some (.ref 1), some (.int x1), some (.int (x2 + (1 : Int32)))]) (Le_s (Le_s (Le_s (Le_0)))) (ih _ _ _ _ _ hF) (Nat.le_refl _) (by omega)
    · rw [if_neg hc] at hF
      cases hF
      exact Ex_fin rfl
def F_Rd_readAnd (rc : Int32 → Sto → Option (Unit × Sto)) (x1 : Int32) (S : Sto) : Option (Unit × Sto) := b2 (F_Rd_readNot rc x1 S) (fun r1 S3 => F_Rd_readAnd_7 rc FU x1 (0 : Int32) S3)
set_option maxRecDepth 100000 in
theorem X_Rd_readAnd {nL : Nat} {xs : Nat → Int32} {M : Sto} {O : Sto} {rc : Int32 → Sto → Option (Unit × Sto)} {E d : Nat} (hE : 9 ≤ E) (hd : E + 6 ≤ d) (hrc : ∀ (x1 : Int32) (S : Sto) (r : Unit) (S' : Sto), rc x1 S = some (r, S') → EX nL xs 0 MI_29 E 0 [some (.ref 1), some (.int x1), none] [] (S, M, O) (.inl none) (S', M, O)) : ∀ (x1 : Int32) (S : Sto) (r : Unit) (S' : Sto), F_Rd_readAnd rc x1 S = some (r, S') → EX nL xs 0 MI_28 d 0 [some (.ref 1), some (.int x1), none] [] (S, M, O) (.inl none) (S', M, O) := by
  intro x1 S r S' hF
  unfold F_Rd_readAnd at hF
  refine Ex_go 2 (pc' := 2) (L' := [some (.ref 1), some (.int x1), none]) (st' := [.int x1, .ref 1]) (σ' := (S, M, O)) (rfl) ?_
  obtain ⟨r1, S3, hx2, hF⟩ := b2_i hF
  refine Ex_call (kind := 2) (y := 27) (as := [.ref 1, .int x1]) (rest := []) (L0 := [some (.ref 1), some (.int x1), none, none]) (d' := (E + 5)) (v := none) (σ1 := (S3, M, O)) rfl rfl mt_27 rfl rfl (by omega) (X_Rd_readNot hE (Nat.le_refl _) hrc _ _ _ _ hx2) (Ex_st (st2 := []) rfl ?_)
  refine Ex_go 2 (pc' := 7) (L' := [some (.ref 1), some (.int x1), some (.int (0 : Int32))]) (st' := []) (σ' := (S3, M, O)) (rfl) ?_
  exact Ex_mono (L := [some (.ref 1), some (.int x1), some (.int (0 : Int32))]) (Le_s (Le_s (Le_s (Le_0)))) (X_Rd_readAnd_7 hE hd hrc FU _ _ _ _ _ hF) (Nat.le_refl _) (by omega)
def F_Rd_readExprb_37 (rc : Int32 → Sto → Option (Unit × Sto)) (s1 : Int32) (S : Sto) : Option (Unit × Sto) := b2 (F_Rd_fail s1 S) (fun r1 S3 => some ((), S3))
set_option maxRecDepth 100000 in
theorem X_Rd_readExprb_37 {nL : Nat} {xs : Nat → Int32} {M : Sto} {O : Sto} {rc : Int32 → Sto → Option (Unit × Sto)} {E d : Nat} (hE : 9 ≤ E) (hd : E + 7 ≤ d) (hrc : ∀ (x1 : Int32) (S : Sto) (r : Unit) (S' : Sto), rc x1 S = some (r, S') → EX nL xs 0 MI_29 E 0 [some (.ref 1), some (.int x1), none] [] (S, M, O) (.inl none) (S', M, O)) : ∀ (s1 : Int32) (S : Sto) (r : Unit) (S' : Sto), F_Rd_readExprb_37 rc s1 S = some (r, S') → EX nL xs 0 MI_29 d 37 [none, none, none] [.int s1, .ref 1] (S, M, O) (.inl none) (S', M, O) := by
  intro s1 S r S' hF
  unfold F_Rd_readExprb_37 at hF
  obtain ⟨r1, S3, hx2, hF⟩ := b2_i hF
  refine Ex_call (kind := 2) (y := 12) (as := [.ref 1, .int s1]) (rest := []) (L0 := [some (.ref 1), some (.int s1)]) (d' := 1) (v := none) (σ1 := (S3, M, O)) rfl rfl mt_12 rfl rfl (by omega) (X_Rd_fail (Nat.le_refl _) _ _ _ _ hx2) (Ex_st (st2 := []) rfl ?_)
  cases hF
  exact Ex_fin rfl
def F_Rd_readExprb_32 (rc : Int32 → Sto → Option (Unit × Sto)) (S : Sto) : Option (Unit × Sto) := F_Rd_readExprb_37 rc (2 : Int32) S
set_option maxRecDepth 100000 in
theorem X_Rd_readExprb_32 {nL : Nat} {xs : Nat → Int32} {M : Sto} {O : Sto} {rc : Int32 → Sto → Option (Unit × Sto)} {E d : Nat} (hE : 9 ≤ E) (hd : E + 7 ≤ d) (hrc : ∀ (x1 : Int32) (S : Sto) (r : Unit) (S' : Sto), rc x1 S = some (r, S') → EX nL xs 0 MI_29 E 0 [some (.ref 1), some (.int x1), none] [] (S, M, O) (.inl none) (S', M, O)) : ∀ (S : Sto) (r : Unit) (S' : Sto), F_Rd_readExprb_32 rc S = some (r, S') → EX nL xs 0 MI_29 d 32 [none, none, none] [.ref 1] (S, M, O) (.inl none) (S', M, O) := by
  intro S r S' hF
  unfold F_Rd_readExprb_32 at hF
  refine Ex_go 2 (pc' := 37) (L' := [none, none, none]) (st' := [.int (2 : Int32), .ref 1]) (σ' := (S, M, O)) (rfl) ?_
  exact Ex_mono (L := [none, none, none]) (Le_n (Le_n (Le_n (Le_0)))) (X_Rd_readExprb_37 hE hd hrc _ _ _ _ hF) (Nat.le_refl _) (by omega)
def F_Rd_readExprb_48 (rc : Int32 → Sto → Option (Unit × Sto)) : Nat → Int32 → Int32 → Sto → Option (Unit × Sto)
  | 0, _, _, _ => none
  | n + 1, x1, x2, S => if (500 : Int32) ≤ x2 then some ((), S) else if (gi S 9) = 0 then b1 (F_Rd_isWord 3017 S) (fun r1 => if r1 = 0 then some ((), S) else b2 (F_Rd_nextToken S) (fun r3 S5 => b2 (F_Rd_readAnd rc x1 S5) (fun r6 S8 => b2 (F_Ru_add (9 : Int32) (0 : Int32) S8) (fun r9 S11 => F_Rd_readExprb_48 rc n x1 (x2 + (1 : Int32)) S11)))) else some ((), S)
set_option maxRecDepth 100000 in
theorem X_Rd_readExprb_48 {nL : Nat} {xs : Nat → Int32} {M : Sto} {O : Sto} {rc : Int32 → Sto → Option (Unit × Sto)} {E d : Nat} (hE : 9 ≤ E) (hd : E + 7 ≤ d) (hrc : ∀ (x1 : Int32) (S : Sto) (r : Unit) (S' : Sto), rc x1 S = some (r, S') → EX nL xs 0 MI_29 E 0 [some (.ref 1), some (.int x1), none] [] (S, M, O) (.inl none) (S', M, O)) : ∀ n : Nat, ∀ (x1 : Int32) (x2 : Int32) (S : Sto) (r : Unit) (S' : Sto), F_Rd_readExprb_48 rc n x1 x2 S = some (r, S') → EX nL xs 0 MI_29 d 48 [some (.ref 1), some (.int x1), some (.int x2)] [] (S, M, O) (.inl none) (S', M, O) := by
  intro n
  induction n with
  | zero => intro x1 x2 S r S' hF; cases hF
  | succ n ih =>
  intro x1 x2 S r S' hF
  unfold F_Rd_readExprb_48 at hF
  refine Ex_go 3 (pc' := if (500 : Int32) ≤ x2 then 99 else 55) (L' := [some (.ref 1), some (.int x1), some (.int x2)]) (st' := []) (σ' := (S, M, O)) (rfl) ?_
  refine Ex_br (fun hc => ?_) (fun hc => ?_)
  · rw [if_pos hc] at hF
    cases hF
    exact Ex_fin rfl
  · rw [if_neg hc] at hF
    refine Ex_go 3 (pc' := if ¬ (gi S 9) = 0 then 99 else 62) (L' := [some (.ref 1), some (.int x1), some (.int x2)]) (st' := []) (σ' := (S, M, O)) (rfl) ?_
    refine Ex_brN (fun hc => ?_) (fun hc => ?_)
    · rw [if_pos hc] at hF
      refine Ex_go 2 (pc' := 65) (L' := [some (.ref 1), some (.int x1), some (.int x2)]) (st' := [.ref 3017, .ref 1]) (σ' := (S, M, O)) (rfl) ?_
      obtain ⟨r1, hx2, hF⟩ := b1_i hF
      refine Ex_call (kind := 2) (y := 10) (as := [.ref 1, .ref 3017]) (rest := []) (L0 := [some (.ref 1), some (.ref 3017), none]) (d' := 6) (v := some (.int r1)) (σ1 := (S, M, O)) rfl rfl mt_10 rfl rfl (by omega) (X_Rd_isWord (Nat.le_refl _) _ _ _ (by decide) hx2) (Ex_st (st2 := [.int r1]) rfl ?_)
      refine Ex_go 1 (pc' := if r1 = 0 then 99 else 71) (L' := [some (.ref 1), some (.int x1), some (.int x2)]) (st' := []) (σ' := (S, M, O)) (rfl) ?_
      refine Ex_br (fun hc => ?_) (fun hc => ?_)
      · rw [if_pos hc] at hF
        cases hF
        exact Ex_fin rfl
      · rw [if_neg hc] at hF
        refine Ex_go 1 (pc' := 72) (L' := [some (.ref 1), some (.int x1), some (.int x2)]) (st' := [.ref 1]) (σ' := (S, M, O)) (rfl) ?_
        obtain ⟨r3, S5, hx4, hF⟩ := b2_i hF
        refine Ex_call (kind := 2) (y := 9) (as := [.ref 1]) (rest := []) (L0 := [some (.ref 1)]) (d' := 2) (v := none) (σ1 := (S5, M, O)) rfl rfl mt_9 rfl rfl (by omega) (X_Rd_nextToken (Nat.le_refl _) _ _ _ hx4) (Ex_st (st2 := []) rfl ?_)
        refine Ex_go 2 (pc' := 77) (L' := [some (.ref 1), some (.int x1), some (.int x2)]) (st' := [.int x1, .ref 1]) (σ' := (S5, M, O)) (rfl) ?_
        obtain ⟨r6, S8, hx7, hF⟩ := b2_i hF
        refine Ex_call (kind := 2) (y := 28) (as := [.ref 1, .int x1]) (rest := []) (L0 := [some (.ref 1), some (.int x1), none]) (d' := (E + 6)) (v := none) (σ1 := (S8, M, O)) rfl rfl mt_28 rfl rfl (by omega) (X_Rd_readAnd hE (Nat.le_refl _) hrc _ _ _ _ hx7) (Ex_st (st2 := []) rfl ?_)
        refine Ex_go 5 (pc' := 90) (L' := [some (.ref 1), some (.int x1), some (.int x2)]) (st' := [.int (0 : Int32), .int (9 : Int32), .ref 9]) (σ' := (S8, M, O)) (rfl) ?_
        obtain ⟨r9, S11, hx10, hF⟩ := b2_i hF
        refine Ex_call (kind := 2) (y := 19) (as := [.ref 9, .int (9 : Int32), .int (0 : Int32)]) (rest := []) (L0 := [some (.ref 9), some (.int (9 : Int32)), some (.int (0 : Int32))]) (d' := 1) (v := none) (σ1 := (S11, M, O)) rfl rfl mt_19 rfl rfl (by omega) (X_Ru_add (Nat.le_refl _) _ _ _ _ _ hx10) (Ex_st (st2 := []) rfl ?_)
        refine Ex_go 2 (pc' := 48) (L' := [some (.ref 1), some (.int x1), some (.int (x2 + (1 : Int32)))]) (st' := []) (σ' := (S11, M, O)) (rfl) ?_
        exact Ex_mono (L := [some (.ref 1), some (.int x1), some (.int (x2 + (1 : Int32)))]) (Le_s (Le_s (Le_s (Le_0)))) (ih _ _ _ _ _ hF) (Nat.le_refl _) (by omega)
    · rw [if_neg hc] at hF
      cases hF
      exact Ex_fin rfl
def F_Rd_readExprb (rc : Int32 → Sto → Option (Unit × Sto)) (x1 : Int32) (S : Sto) : Option (Unit × Sto) := if x1 ≤ (6 : Int32) then b2 (F_Rd_readAnd rc x1 S) (fun r1 S3 => F_Rd_readExprb_48 rc FU x1 (0 : Int32) S3) else if (gi S 12) = (2 : Int32) then F_Rd_readExprb_32 rc S else if (gi S 12) = (1 : Int32) then F_Rd_readExprb_32 rc S else b1 (F_Rd_isSign (40 : Int32) S) (fun r4 => if r4 = 0 then F_Rd_readExprb_37 rc (1 : Int32) S else F_Rd_readExprb_32 rc S)
set_option maxRecDepth 100000 in
theorem X_Rd_readExprb {nL : Nat} {xs : Nat → Int32} {M : Sto} {O : Sto} {rc : Int32 → Sto → Option (Unit × Sto)} {E d : Nat} (hE : 9 ≤ E) (hd : E + 7 ≤ d) (hrc : ∀ (x1 : Int32) (S : Sto) (r : Unit) (S' : Sto), rc x1 S = some (r, S') → EX nL xs 0 MI_29 E 0 [some (.ref 1), some (.int x1), none] [] (S, M, O) (.inl none) (S', M, O)) : ∀ (x1 : Int32) (S : Sto) (r : Unit) (S' : Sto), F_Rd_readExprb rc x1 S = some (r, S') → EX nL xs 0 MI_29 d 0 [some (.ref 1), some (.int x1), none] [] (S, M, O) (.inl none) (S', M, O) := by
  intro x1 S r S' hF
  unfold F_Rd_readExprb at hF
  refine Ex_go 3 (pc' := if x1 ≤ (6 : Int32) then 41 else 6) (L' := [some (.ref 1), some (.int x1), none]) (st' := []) (σ' := (S, M, O)) (rfl) ?_
  refine Ex_br (fun hc => ?_) (fun hc => ?_)
  · rw [if_pos hc] at hF
    refine Ex_go 2 (pc' := 43) (L' := [some (.ref 1), some (.int x1), none]) (st' := [.int x1, .ref 1]) (σ' := (S, M, O)) (rfl) ?_
    obtain ⟨r1, S3, hx2, hF⟩ := b2_i hF
    refine Ex_call (kind := 2) (y := 28) (as := [.ref 1, .int x1]) (rest := []) (L0 := [some (.ref 1), some (.int x1), none]) (d' := (E + 6)) (v := none) (σ1 := (S3, M, O)) rfl rfl mt_28 rfl rfl (by omega) (X_Rd_readAnd hE (Nat.le_refl _) hrc _ _ _ _ hx2) (Ex_st (st2 := []) rfl ?_)
    refine Ex_go 2 (pc' := 48) (L' := [some (.ref 1), some (.int x1), some (.int (0 : Int32))]) (st' := []) (σ' := (S3, M, O)) (rfl) ?_
    exact Ex_mono (L := [some (.ref 1), some (.int x1), some (.int (0 : Int32))]) (Le_s (Le_s (Le_s (Le_0)))) (X_Rd_readExprb_48 hE hd hrc FU _ _ _ _ _ hF) (Nat.le_refl _) (by omega)
  · rw [if_neg hc] at hF
    refine Ex_go 5 (pc' := if (gi S 12) = (2 : Int32) then 32 else 15) (L' := [some (.ref 1), some (.int x1), none]) (st' := [.ref 1]) (σ' := (S, M, O)) (rfl) ?_
    refine Ex_br (fun hc => ?_) (fun hc => ?_)
    · rw [if_pos hc] at hF
      exact Ex_mono (L := [none, none, none]) (Le_n (Le_n (Le_n (Le_0)))) (X_Rd_readExprb_32 hE hd hrc _ _ _ hF) (Nat.le_refl _) (by omega)
    · rw [if_neg hc] at hF
      refine Ex_go 4 (pc' := if (gi S 12) = (1 : Int32) then 32 else 23) (L' := [some (.ref 1), some (.int x1), none]) (st' := [.ref 1]) (σ' := (S, M, O)) (rfl) ?_
      refine Ex_br (fun hc => ?_) (fun hc => ?_)
      · rw [if_pos hc] at hF
        exact Ex_mono (L := [none, none, none]) (Le_n (Le_n (Le_n (Le_0)))) (X_Rd_readExprb_32 hE hd hrc _ _ _ hF) (Nat.le_refl _) (by omega)
      · rw [if_neg hc] at hF
        refine Ex_go 2 (pc' := 26) (L' := [some (.ref 1), some (.int x1), none]) (st' := [.int (40 : Int32), .ref 1, .ref 1]) (σ' := (S, M, O)) (rfl) ?_
        obtain ⟨r4, hx5, hF⟩ := b1_i hF
        refine Ex_call (kind := 2) (y := 18) (as := [.ref 1, .int (40 : Int32)]) (rest := [.ref 1]) (L0 := [some (.ref 1), some (.int (40 : Int32))]) (d' := 1) (v := some (.int r4)) (σ1 := (S, M, O)) rfl rfl mt_18 rfl rfl (by omega) (X_Rd_isSign (Nat.le_refl _) _ _ _ hx5) (Ex_st (st2 := [.int r4, .ref 1]) rfl ?_)
        refine Ex_go 1 (pc' := if r4 = 0 then 36 else 32) (L' := [some (.ref 1), some (.int x1), none]) (st' := [.ref 1]) (σ' := (S, M, O)) (rfl) ?_
        refine Ex_br (fun hc => ?_) (fun hc => ?_)
        · rw [if_pos hc] at hF
          refine Ex_go 1 (pc' := 37) (L' := [some (.ref 1), some (.int x1), none]) (st' := [.int (1 : Int32), .ref 1]) (σ' := (S, M, O)) (rfl) ?_
          exact Ex_mono (L := [none, none, none]) (Le_n (Le_n (Le_n (Le_0)))) (X_Rd_readExprb_37 hE hd hrc _ _ _ _ hF) (Nat.le_refl _) (by omega)
        · rw [if_neg hc] at hF
          exact Ex_mono (L := [none, none, none]) (Le_n (Le_n (Le_n (Le_0)))) (X_Rd_readExprb_32 hE hd hrc _ _ _ hF) (Nat.le_refl _) (by omega)
def F_Rd_readExpr : Nat → Int32 → Sto → Option (Unit × Sto)
  | 0, _, _ => none
  | n + 1, x1, S => F_Rd_readExprb (F_Rd_readExpr n) x1 S
set_option maxRecDepth 100000 in
theorem X_Rd_readExpr {nL : Nat} {xs : Nat → Int32} {M : Sto} {O : Sto} : ∀ (n : Nat) {d : Nat}, 9 + 7 * n ≤ d → ∀ (x1 : Int32) (S : Sto) (r : Unit) (S' : Sto), F_Rd_readExpr n x1 S = some (r, S') → EX nL xs 0 MI_29 d 0 [some (.ref 1), some (.int x1), none] [] (S, M, O) (.inl none) (S', M, O) := by
  intro n
  induction n with
  | zero => intro d hd x1 S r S' hF; cases hF
  | succ n ih =>
  intro d hd x1 S r S' hF
  exact X_Rd_readExprb (E := 9 + 7 * n) (Nat.le_add_right _ _) (by omega) (ih (Nat.le_refl _)) x1 S r S' hF
def F_Rd_readSpawns (S : Sto) : Option (Unit × Sto) := if (gi S 2) = 0 then b2 (F_Rd_nextToken (si S 2 (1 : Int32))) (fun r1 S3 => b2 (F_Rd_readExpr 12 (1 : Int32) S3) (fun r4 S6 => some ((), S6))) else b2 (F_Rd_fail (5 : Int32) S) (fun r7 S9 => some ((), S9))
set_option maxRecDepth 100000 in
theorem X_Rd_readSpawns {nL : Nat} {xs : Nat → Int32} {M : Sto} {O : Sto} {d : Nat} (hd : 94 ≤ d) : ∀ (S : Sto) (r : Unit) (S' : Sto), F_Rd_readSpawns S = some (r, S') → EX nL xs 0 MI_30 d 0 [some (.ref 1)] [] (S, M, O) (.inl none) (S', M, O) := by
  intro S r S' hF
  unfold F_Rd_readSpawns at hF
  refine Ex_go 5 (pc' := if (gi S 2) = 0 then 19 else 13) (L' := [some (.ref 1)]) (st' := []) (σ' := (S, M, O)) (rfl) ?_
  refine Ex_br (fun hc => ?_) (fun hc => ?_)
  · rw [if_pos hc] at hF
    refine Ex_go 4 (pc' := 27) (L' := [some (.ref 1)]) (st' := [.int (1 : Int32), .ref 9]) (σ' := (S, M, O)) (rfl) ?_
    refine Ex_chk (b := b01 (1 : Int32)) (pc' := 30) (L' := [some (.ref 1)]) (st' := []) (σ' := ((si S 2 (1 : Int32)), M, O)) rfl (by decide) ?_
    refine Ex_go 1 (pc' := 31) (L' := [some (.ref 1)]) (st' := [.ref 1]) (σ' := ((si S 2 (1 : Int32)), M, O)) (rfl) ?_
    obtain ⟨r1, S3, hx2, hF⟩ := b2_i hF
    refine Ex_call (kind := 2) (y := 9) (as := [.ref 1]) (rest := []) (L0 := [some (.ref 1)]) (d' := 2) (v := none) (σ1 := (S3, M, O)) rfl rfl mt_9 rfl rfl (by omega) (X_Rd_nextToken (Nat.le_refl _) _ _ _ hx2) (Ex_st (st2 := []) rfl ?_)
    refine Ex_go 2 (pc' := 36) (L' := [some (.ref 1)]) (st' := [.int (1 : Int32), .ref 1]) (σ' := (S3, M, O)) (rfl) ?_
    obtain ⟨r4, S6, hx5, hF⟩ := b2_i hF
    refine Ex_call (kind := 2) (y := 29) (as := [.ref 1, .int (1 : Int32)]) (rest := []) (L0 := [some (.ref 1), some (.int (1 : Int32)), none]) (d' := 93) (v := none) (σ1 := (S6, M, O)) rfl rfl mt_29 rfl rfl (by omega) (X_Rd_readExpr 12 (Nat.le_refl _) _ _ _ _ hx5) (Ex_st (st2 := []) rfl ?_)
    cases hF
    exact Ex_fin rfl
  · rw [if_neg hc] at hF
    refine Ex_go 2 (pc' := 15) (L' := [some (.ref 1)]) (st' := [.int (5 : Int32), .ref 1]) (σ' := (S, M, O)) (rfl) ?_
    obtain ⟨r7, S9, hx8, hF⟩ := b2_i hF
    refine Ex_call (kind := 2) (y := 12) (as := [.ref 1, .int (5 : Int32)]) (rest := []) (L0 := [some (.ref 1), some (.int (5 : Int32))]) (d' := 1) (v := none) (σ1 := (S9, M, O)) rfl rfl mt_12 rfl rfl (by omega) (X_Rd_fail (Nat.le_refl _) _ _ _ _ hx8) (Ex_st (st2 := []) rfl ?_)
    cases hF
    exact Ex_fin rfl
def F_Rd_readPlace_54 (S : Sto) : Option (Unit × Sto) := b2 (F_Rd_expectNumber (0 : Int32) ((gi S 5) - (1 : Int32)) S) (fun r1 S3 => if (gi S3 9) = 0 then some ((), (sl S3 6 ((gl S3 6) ||| ((1 : Int64) <<< (Int32.toInt64 r1 &&& 63))))) else some ((), S3))
set_option maxRecDepth 100000 in
theorem X_Rd_readPlace_54 {nL : Nat} {xs : Nat → Int32} {M : Sto} {O : Sto} {d : Nat} (hd : 4 ≤ d) : ∀ (S : Sto) (r : Unit) (S' : Sto), F_Rd_readPlace_54 S = some (r, S') → EX nL xs 0 MI_16 d 54 [some (.ref 1), none] [] (S, M, O) (.inl none) (S', M, O) := by
  intro S r S' hF
  unfold F_Rd_readPlace_54 at hF
  refine Ex_go 7 (pc' := 65) (L' := [some (.ref 1), none]) (st' := [.int ((gi S 5) - (1 : Int32)), .int (0 : Int32), .ref 1]) (σ' := (S, M, O)) (rfl) ?_
  obtain ⟨r1, S3, hx2, hF⟩ := b2_i hF
  refine Ex_call (kind := 2) (y := 13) (as := [.ref 1, .int (0 : Int32), .int ((gi S 5) - (1 : Int32))]) (rest := []) (L0 := [some (.ref 1), some (.int (0 : Int32)), some (.int ((gi S 5) - (1 : Int32))), none]) (d' := 3) (v := some (.int r1)) (σ1 := (S3, M, O)) rfl rfl mt_13 rfl rfl (by omega) (X_Rd_expectNumber (Nat.le_refl _) _ _ _ _ _ hx2) (Ex_st (st2 := [.int r1]) rfl ?_)
  refine Ex_go 4 (pc' := if ¬ (gi S3 9) = 0 then 94 else 76) (L' := [some (.ref 1), some (.int r1)]) (st' := []) (σ' := (S3, M, O)) (rfl) ?_
  refine Ex_brN (fun hc => ?_) (fun hc => ?_)
  · rw [if_pos hc] at hF
    refine Ex_go 10 (pc' := 94) (L' := [some (.ref 1), some (.int r1)]) (st' := []) (σ' := ((sl S3 6 ((gl S3 6) ||| ((1 : Int64) <<< (Int32.toInt64 r1 &&& 63)))), M, O)) (rfl) ?_
    cases hF
    exact Ex_fin rfl
  · rw [if_neg hc] at hF
    cases hF
    exact Ex_fin rfl
def F_Rd_readPlace (S : Sto) : Option (Unit × Sto) := if (gi S 12) = (2 : Int32) then if (4 : Int32) < (gi S 16) then F_Rd_readPlace_54 S else if (gi S 5) ≤ (gi S 15) then F_Rd_readPlace_54 S else b1 (F_w_bit (gl S 6) (gi S 15)) (fun r1 => if r1 = (1 : Int32) then b2 (F_Rd_fail (4 : Int32) S) (fun r3 S5 => some ((), S5)) else F_Rd_readPlace_54 S) else F_Rd_readPlace_54 S
set_option maxRecDepth 100000 in
theorem X_Rd_readPlace {nL : Nat} {xs : Nat → Int32} {M : Sto} {O : Sto} {d : Nat} (hd : 4 ≤ d) : ∀ (S : Sto) (r : Unit) (S' : Sto), F_Rd_readPlace S = some (r, S') → EX nL xs 0 MI_16 d 0 [some (.ref 1), none] [] (S, M, O) (.inl none) (S', M, O) := by
  intro S r S' hF
  unfold F_Rd_readPlace at hF
  refine Ex_go 4 (pc' := if ¬ (gi S 12) = (2 : Int32) then 54 else 8) (L' := [some (.ref 1), none]) (st' := []) (σ' := (S, M, O)) (rfl) ?_
  refine Ex_brN (fun hc => ?_) (fun hc => ?_)
  · rw [if_pos hc] at hF
    refine Ex_go 4 (pc' := if (4 : Int32) < (gi S 16) then 54 else 16) (L' := [some (.ref 1), none]) (st' := []) (σ' := (S, M, O)) (rfl) ?_
    refine Ex_br (fun hc => ?_) (fun hc => ?_)
    · rw [if_pos hc] at hF
      exact Ex_mono (L := [some (.ref 1), none]) (Le_s (Le_n (Le_0))) (X_Rd_readPlace_54 hd _ _ _ hF) (Nat.le_refl _) (by omega)
    · rw [if_neg hc] at hF
      refine Ex_go 6 (pc' := if (gi S 5) ≤ (gi S 15) then 54 else 30) (L' := [some (.ref 1), none]) (st' := []) (σ' := (S, M, O)) (rfl) ?_
      refine Ex_br (fun hc => ?_) (fun hc => ?_)
      · rw [if_pos hc] at hF
        exact Ex_mono (L := [some (.ref 1), none]) (Le_s (Le_n (Le_0))) (X_Rd_readPlace_54 hd _ _ _ hF) (Nat.le_refl _) (by omega)
      · rw [if_neg hc] at hF
        refine Ex_go 5 (pc' := 41) (L' := [some (.ref 1), none]) (st' := [.int (gi S 15), .long (gl S 6)]) (σ' := (S, M, O)) (rfl) ?_
        obtain ⟨r1, hx2, hF⟩ := b1_i hF
        refine Ex_call (kind := 1) (y := 15) (as := [.long (gl S 6), .int (gi S 15)]) (rest := []) (L0 := [some (.long (gl S 6)), none, some (.int (gi S 15))]) (d' := 1) (v := some (.int r1)) (σ1 := (S, M, O)) rfl rfl mt_15 rfl rfl (by omega) (X_w_bit (Nat.le_refl _) _ _ _ hx2) (Ex_st (st2 := [.int r1]) rfl ?_)
        refine Ex_go 2 (pc' := if ¬ r1 = (1 : Int32) then 54 else 48) (L' := [some (.ref 1), none]) (st' := []) (σ' := (S, M, O)) (rfl) ?_
        refine Ex_brN (fun hc => ?_) (fun hc => ?_)
        · rw [if_pos hc] at hF
          refine Ex_go 2 (pc' := 50) (L' := [some (.ref 1), none]) (st' := [.int (4 : Int32), .ref 1]) (σ' := (S, M, O)) (rfl) ?_
          obtain ⟨r3, S5, hx4, hF⟩ := b2_i hF
          refine Ex_call (kind := 2) (y := 12) (as := [.ref 1, .int (4 : Int32)]) (rest := []) (L0 := [some (.ref 1), some (.int (4 : Int32))]) (d' := 1) (v := none) (σ1 := (S5, M, O)) rfl rfl mt_12 rfl rfl (by omega) (X_Rd_fail (Nat.le_refl _) _ _ _ _ hx4) (Ex_st (st2 := []) rfl ?_)
          cases hF
          exact Ex_fin rfl
        · rw [if_neg hc] at hF
          exact Ex_mono (L := [some (.ref 1), none]) (Le_s (Le_n (Le_0))) (X_Rd_readPlace_54 hd _ _ _ hF) (Nat.le_refl _) (by omega)
  · rw [if_neg hc] at hF
    exact Ex_mono (L := [some (.ref 1), none]) (Le_s (Le_n (Le_0))) (X_Rd_readPlace_54 hd _ _ _ hF) (Nat.le_refl _) (by omega)
def F_Rd_readPond_15 : Nat → Int32 → Sto → Option (Unit × Sto)
  | 0, _, _ => none
  | n + 1, x1, S => if (500 : Int32) ≤ x1 then some ((), S) else if (gi S 9) = 0 then if (gi S 12) = (2 : Int32) then b2 (F_Rd_readPlace S) (fun r1 S3 => F_Rd_readPond_15 n (x1 + (1 : Int32)) S3) else some ((), S) else some ((), S)
set_option maxRecDepth 100000 in
theorem X_Rd_readPond_15 {nL : Nat} {xs : Nat → Int32} {M : Sto} {O : Sto} {d : Nat} (hd : 5 ≤ d) : ∀ n : Nat, ∀ (x1 : Int32) (S : Sto) (r : Unit) (S' : Sto), F_Rd_readPond_15 n x1 S = some (r, S') → EX nL xs 0 MI_17 d 15 [some (.ref 1), some (.int x1)] [] (S, M, O) (.inl none) (S', M, O) := by
  intro n
  induction n with
  | zero => intro x1 S r S' hF; cases hF
  | succ n ih =>
  intro x1 S r S' hF
  unfold F_Rd_readPond_15 at hF
  refine Ex_go 3 (pc' := if (500 : Int32) ≤ x1 then 47 else 22) (L' := [some (.ref 1), some (.int x1)]) (st' := []) (σ' := (S, M, O)) (rfl) ?_
  refine Ex_br (fun hc => ?_) (fun hc => ?_)
  · rw [if_pos hc] at hF
    cases hF
    exact Ex_fin rfl
  · rw [if_neg hc] at hF
    refine Ex_go 3 (pc' := if ¬ (gi S 9) = 0 then 47 else 29) (L' := [some (.ref 1), some (.int x1)]) (st' := []) (σ' := (S, M, O)) (rfl) ?_
    refine Ex_brN (fun hc => ?_) (fun hc => ?_)
    · rw [if_pos hc] at hF
      refine Ex_go 4 (pc' := if ¬ (gi S 12) = (2 : Int32) then 47 else 37) (L' := [some (.ref 1), some (.int x1)]) (st' := []) (σ' := (S, M, O)) (rfl) ?_
      refine Ex_brN (fun hc => ?_) (fun hc => ?_)
      · rw [if_pos hc] at hF
        refine Ex_go 1 (pc' := 38) (L' := [some (.ref 1), some (.int x1)]) (st' := [.ref 1]) (σ' := (S, M, O)) (rfl) ?_
        obtain ⟨r1, S3, hx2, hF⟩ := b2_i hF
        refine Ex_call (kind := 2) (y := 16) (as := [.ref 1]) (rest := []) (L0 := [some (.ref 1), none]) (d' := 4) (v := none) (σ1 := (S3, M, O)) rfl rfl mt_16 rfl rfl (by omega) (X_Rd_readPlace (Nat.le_refl _) _ _ _ hx2) (Ex_st (st2 := []) rfl ?_)
        refine Ex_go 2 (pc' := 15) (L' := [some (.ref 1), some (.int (x1 + (1 : Int32)))]) (st' := []) (σ' := (S3, M, O)) (rfl) ?_
        exact Ex_mono (L := [some (.ref 1), some (.int (x1 + (1 : Int32)))]) (Le_s (Le_s (Le_0))) (ih _ _ _ _ hF) (Nat.le_refl _) (by omega)
      · rw [if_neg hc] at hF
        cases hF
        exact Ex_fin rfl
    · rw [if_neg hc] at hF
      cases hF
      exact Ex_fin rfl
def F_Rd_readPond (S : Sto) : Option (Unit × Sto) := b2 (F_Rd_nextToken (si S 18 (1 : Int32))) (fun r1 S3 => b2 (F_Rd_readPlace S3) (fun r4 S6 => F_Rd_readPond_15 FU (0 : Int32) S6))
set_option maxRecDepth 100000 in
theorem X_Rd_readPond {nL : Nat} {xs : Nat → Int32} {M : Sto} {O : Sto} {d : Nat} (hd : 5 ≤ d) : ∀ (S : Sto) (r : Unit) (S' : Sto), F_Rd_readPond S = some (r, S') → EX nL xs 0 MI_17 d 0 [some (.ref 1), none] [] (S, M, O) (.inl none) (S', M, O) := by
  intro S r S' hF
  unfold F_Rd_readPond at hF
  refine Ex_go 2 (pc' := 2) (L' := [some (.ref 1), none]) (st' := [.int (1 : Int32), .ref 1]) (σ' := (S, M, O)) (rfl) ?_
  refine Ex_chk (b := b01 (1 : Int32)) (pc' := 5) (L' := [some (.ref 1), none]) (st' := []) (σ' := ((si S 18 (1 : Int32)), M, O)) rfl (by decide) ?_
  refine Ex_go 1 (pc' := 6) (L' := [some (.ref 1), none]) (st' := [.ref 1]) (σ' := ((si S 18 (1 : Int32)), M, O)) (rfl) ?_
  obtain ⟨r1, S3, hx2, hF⟩ := b2_i hF
  refine Ex_call (kind := 2) (y := 9) (as := [.ref 1]) (rest := []) (L0 := [some (.ref 1)]) (d' := 2) (v := none) (σ1 := (S3, M, O)) rfl rfl mt_9 rfl rfl (by omega) (X_Rd_nextToken (Nat.le_refl _) _ _ _ hx2) (Ex_st (st2 := []) rfl ?_)
  refine Ex_go 1 (pc' := 10) (L' := [some (.ref 1), none]) (st' := [.ref 1]) (σ' := (S3, M, O)) (rfl) ?_
  obtain ⟨r4, S6, hx5, hF⟩ := b2_i hF
  refine Ex_call (kind := 2) (y := 16) (as := [.ref 1]) (rest := []) (L0 := [some (.ref 1), none]) (d' := 4) (v := none) (σ1 := (S6, M, O)) rfl rfl mt_16 rfl rfl (by omega) (X_Rd_readPlace (Nat.le_refl _) _ _ _ hx5) (Ex_st (st2 := []) rfl ?_)
  refine Ex_go 2 (pc' := 15) (L' := [some (.ref 1), some (.int (0 : Int32))]) (st' := []) (σ' := (S6, M, O)) (rfl) ?_
  exact Ex_mono (L := [some (.ref 1), some (.int (0 : Int32))]) (Le_s (Le_s (Le_0))) (X_Rd_readPond_15 hd FU _ _ _ _ hF) (Nat.le_refl _) (by omega)
def F_Rd_readPlaces (S : Sto) : Option (Unit × Sto) := if (gi S 17) = 0 then if (gi S 18) = 0 then b2 (F_Rd_nextToken (si S 17 (1 : Int32))) (fun r1 S3 => b2 (F_Rd_expectNumber (2 : Int32) (60 : Int32) S3) (fun r4 S6 => some ((), (si S6 5 r4)))) else b2 (F_Rd_fail (6 : Int32) S) (fun r7 S9 => some ((), S9)) else b2 (F_Rd_fail (5 : Int32) S) (fun r10 S12 => some ((), S12))
set_option maxRecDepth 100000 in
theorem X_Rd_readPlaces {nL : Nat} {xs : Nat → Int32} {M : Sto} {O : Sto} {d : Nat} (hd : 4 ≤ d) : ∀ (S : Sto) (r : Unit) (S' : Sto), F_Rd_readPlaces S = some (r, S') → EX nL xs 0 MI_14 d 0 [some (.ref 1)] [] (S, M, O) (.inl none) (S', M, O) := by
  intro S r S' hF
  unfold F_Rd_readPlaces at hF
  refine Ex_go 3 (pc' := if (gi S 17) = 0 then 15 else 7) (L' := [some (.ref 1)]) (st' := []) (σ' := (S, M, O)) (rfl) ?_
  refine Ex_br (fun hc => ?_) (fun hc => ?_)
  · rw [if_pos hc] at hF
    refine Ex_go 3 (pc' := if (gi S 18) = 0 then 31 else 22) (L' := [some (.ref 1)]) (st' := []) (σ' := (S, M, O)) (rfl) ?_
    refine Ex_br (fun hc => ?_) (fun hc => ?_)
    · rw [if_pos hc] at hF
      refine Ex_go 2 (pc' := 33) (L' := [some (.ref 1)]) (st' := [.int (1 : Int32), .ref 1]) (σ' := (S, M, O)) (rfl) ?_
      refine Ex_chk (b := b01 (1 : Int32)) (pc' := 36) (L' := [some (.ref 1)]) (st' := []) (σ' := ((si S 17 (1 : Int32)), M, O)) rfl (by decide) ?_
      refine Ex_go 1 (pc' := 37) (L' := [some (.ref 1)]) (st' := [.ref 1]) (σ' := ((si S 17 (1 : Int32)), M, O)) (rfl) ?_
      obtain ⟨r1, S3, hx2, hF⟩ := b2_i hF
      refine Ex_call (kind := 2) (y := 9) (as := [.ref 1]) (rest := []) (L0 := [some (.ref 1)]) (d' := 2) (v := none) (σ1 := (S3, M, O)) rfl rfl mt_9 rfl rfl (by omega) (X_Rd_nextToken (Nat.le_refl _) _ _ _ hx2) (Ex_st (st2 := []) rfl ?_)
      refine Ex_go 5 (pc' := 48) (L' := [some (.ref 1)]) (st' := [.int (60 : Int32), .int (2 : Int32), .ref 1, .ref 3]) (σ' := (S3, M, O)) (rfl) ?_
      obtain ⟨r4, S6, hx5, hF⟩ := b2_i hF
      refine Ex_call (kind := 2) (y := 13) (as := [.ref 1, .int (2 : Int32), .int (60 : Int32)]) (rest := [.ref 3]) (L0 := [some (.ref 1), some (.int (2 : Int32)), some (.int (60 : Int32)), none]) (d' := 3) (v := some (.int r4)) (σ1 := (S6, M, O)) rfl rfl mt_13 rfl rfl (by omega) (X_Rd_expectNumber (Nat.le_refl _) _ _ _ _ _ hx5) (Ex_st (st2 := [.int r4, .ref 3]) rfl ?_)
      refine Ex_go 1 (pc' := 54) (L' := [some (.ref 1)]) (st' := []) (σ' := ((si S6 5 r4), M, O)) (rfl) ?_
      cases hF
      exact Ex_fin rfl
    · rw [if_neg hc] at hF
      refine Ex_go 2 (pc' := 25) (L' := [some (.ref 1)]) (st' := [.int (6 : Int32), .ref 1]) (σ' := (S, M, O)) (rfl) ?_
      obtain ⟨r7, S9, hx8, hF⟩ := b2_i hF
      refine Ex_call (kind := 2) (y := 12) (as := [.ref 1, .int (6 : Int32)]) (rest := []) (L0 := [some (.ref 1), some (.int (6 : Int32))]) (d' := 1) (v := none) (σ1 := (S9, M, O)) rfl rfl mt_12 rfl rfl (by omega) (X_Rd_fail (Nat.le_refl _) _ _ _ _ hx8) (Ex_st (st2 := []) rfl ?_)
      refine Ex_go 1 (pc' := 54) (L' := [some (.ref 1)]) (st' := []) (σ' := (S9, M, O)) (rfl) ?_
      cases hF
      exact Ex_fin rfl
  · rw [if_neg hc] at hF
    refine Ex_go 2 (pc' := 9) (L' := [some (.ref 1)]) (st' := [.int (5 : Int32), .ref 1]) (σ' := (S, M, O)) (rfl) ?_
    obtain ⟨r10, S12, hx11, hF⟩ := b2_i hF
    refine Ex_call (kind := 2) (y := 12) (as := [.ref 1, .int (5 : Int32)]) (rest := []) (L0 := [some (.ref 1), some (.int (5 : Int32))]) (d' := 1) (v := none) (σ1 := (S12, M, O)) rfl rfl mt_12 rfl rfl (by omega) (X_Rd_fail (Nat.le_refl _) _ _ _ _ hx11) (Ex_st (st2 := []) rfl ?_)
    refine Ex_go 1 (pc' := 54) (L' := [some (.ref 1)]) (st' := []) (σ' := (S12, M, O)) (rfl) ?_
    cases hF
    exact Ex_fin rfl
def F_Se_cast (x1 : Int32) (x2 : Int64) (x4 : Int64) (x6 : Int64) (x8 : Int64) (S : Sto) : Option (Unit × Sto) := if (gi S 4) < 0 then some ((), S) else if (8 : Int32) ≤ (gi S 4) then some ((), S) else ck (ib (gi S 4) 8) (ck (ib (gi (ui S 4 (upd (ai S 4) (Int32.toNatClampNeg (gi S 4)) x1)) 4) 8) (ck (ib (gi (ul (ui S 4 (upd (ai S 4) (Int32.toNatClampNeg (gi S 4)) x1)) 5 (vp_updL (al (ui S 4 (upd (ai S 4) (Int32.toNatClampNeg (gi S 4)) x1)) 5) (Int32.toNatClampNeg (gi (ui S 4 (upd (ai S 4) (Int32.toNatClampNeg (gi S 4)) x1)) 4)) x2)) 4) 8) (ck (ib (gi (ul (ul (ui S 4 (upd (ai S 4) (Int32.toNatClampNeg (gi S 4)) x1)) 5 (vp_updL (al (ui S 4 (upd (ai S 4) (Int32.toNatClampNeg (gi S 4)) x1)) 5) (Int32.toNatClampNeg (gi (ui S 4 (upd (ai S 4) (Int32.toNatClampNeg (gi S 4)) x1)) 4)) x2)) 6 (vp_updL (al (ul (ui S 4 (upd (ai S 4) (Int32.toNatClampNeg (gi S 4)) x1)) 5 (vp_updL (al (ui S 4 (upd (ai S 4) (Int32.toNatClampNeg (gi S 4)) x1)) 5) (Int32.toNatClampNeg (gi (ui S 4 (upd (ai S 4) (Int32.toNatClampNeg (gi S 4)) x1)) 4)) x2)) 6) (Int32.toNatClampNeg (gi (ul (ui S 4 (upd (ai S 4) (Int32.toNatClampNeg (gi S 4)) x1)) 5 (vp_updL (al (ui S 4 (upd (ai S 4) (Int32.toNatClampNeg (gi S 4)) x1)) 5) (Int32.toNatClampNeg (gi (ui S 4 (upd (ai S 4) (Int32.toNatClampNeg (gi S 4)) x1)) 4)) x2)) 4)) x4)) 4) 8) (ck (ib (gi (ul (ul (ul (ui S 4 (upd (ai S 4) (Int32.toNatClampNeg (gi S 4)) x1)) 5 (vp_updL (al (ui S 4 (upd (ai S 4) (Int32.toNatClampNeg (gi S 4)) x1)) 5) (Int32.toNatClampNeg (gi (ui S 4 (upd (ai S 4) (Int32.toNatClampNeg (gi S 4)) x1)) 4)) x2)) 6 (vp_updL (al (ul (ui S 4 (upd (ai S 4) (Int32.toNatClampNeg (gi S 4)) x1)) 5 (vp_updL (al (ui S 4 (upd (ai S 4) (Int32.toNatClampNeg (gi S 4)) x1)) 5) (Int32.toNatClampNeg (gi (ui S 4 (upd (ai S 4) (Int32.toNatClampNeg (gi S 4)) x1)) 4)) x2)) 6) (Int32.toNatClampNeg (gi (ul (ui S 4 (upd (ai S 4) (Int32.toNatClampNeg (gi S 4)) x1)) 5 (vp_updL (al (ui S 4 (upd (ai S 4) (Int32.toNatClampNeg (gi S 4)) x1)) 5) (Int32.toNatClampNeg (gi (ui S 4 (upd (ai S 4) (Int32.toNatClampNeg (gi S 4)) x1)) 4)) x2)) 4)) x4)) 7 (vp_updL (al (ul (ul (ui S 4 (upd (ai S 4) (Int32.toNatClampNeg (gi S 4)) x1)) 5 (vp_updL (al (ui S 4 (upd (ai S 4) (Int32.toNatClampNeg (gi S 4)) x1)) 5) (Int32.toNatClampNeg (gi (ui S 4 (upd (ai S 4) (Int32.toNatClampNeg (gi S 4)) x1)) 4)) x2)) 6 (vp_updL (al (ul (ui S 4 (upd (ai S 4) (Int32.toNatClampNeg (gi S 4)) x1)) 5 (vp_updL (al (ui S 4 (upd (ai S 4) (Int32.toNatClampNeg (gi S 4)) x1)) 5) (Int32.toNatClampNeg (gi (ui S 4 (upd (ai S 4) (Int32.toNatClampNeg (gi S 4)) x1)) 4)) x2)) 6) (Int32.toNatClampNeg (gi (ul (ui S 4 (upd (ai S 4) (Int32.toNatClampNeg (gi S 4)) x1)) 5 (vp_updL (al (ui S 4 (upd (ai S 4) (Int32.toNatClampNeg (gi S 4)) x1)) 5) (Int32.toNatClampNeg (gi (ui S 4 (upd (ai S 4) (Int32.toNatClampNeg (gi S 4)) x1)) 4)) x2)) 4)) x4)) 7) (Int32.toNatClampNeg (gi (ul (ul (ui S 4 (upd (ai S 4) (Int32.toNatClampNeg (gi S 4)) x1)) 5 (vp_updL (al (ui S 4 (upd (ai S 4) (Int32.toNatClampNeg (gi S 4)) x1)) 5) (Int32.toNatClampNeg (gi (ui S 4 (upd (ai S 4) (Int32.toNatClampNeg (gi S 4)) x1)) 4)) x2)) 6 (vp_updL (al (ul (ui S 4 (upd (ai S 4) (Int32.toNatClampNeg (gi S 4)) x1)) 5 (vp_updL (al (ui S 4 (upd (ai S 4) (Int32.toNatClampNeg (gi S 4)) x1)) 5) (Int32.toNatClampNeg (gi (ui S 4 (upd (ai S 4) (Int32.toNatClampNeg (gi S 4)) x1)) 4)) x2)) 6) (Int32.toNatClampNeg (gi (ul (ui S 4 (upd (ai S 4) (Int32.toNatClampNeg (gi S 4)) x1)) 5 (vp_updL (al (ui S 4 (upd (ai S 4) (Int32.toNatClampNeg (gi S 4)) x1)) 5) (Int32.toNatClampNeg (gi (ui S 4 (upd (ai S 4) (Int32.toNatClampNeg (gi S 4)) x1)) 4)) x2)) 4)) x4)) 4)) x6)) 4) 8) (some ((), (si (ul (ul (ul (ul (ui S 4 (upd (ai S 4) (Int32.toNatClampNeg (gi S 4)) x1)) 5 (vp_updL (al (ui S 4 (upd (ai S 4) (Int32.toNatClampNeg (gi S 4)) x1)) 5) (Int32.toNatClampNeg (gi (ui S 4 (upd (ai S 4) (Int32.toNatClampNeg (gi S 4)) x1)) 4)) x2)) 6 (vp_updL (al (ul (ui S 4 (upd (ai S 4) (Int32.toNatClampNeg (gi S 4)) x1)) 5 (vp_updL (al (ui S 4 (upd (ai S 4) (Int32.toNatClampNeg (gi S 4)) x1)) 5) (Int32.toNatClampNeg (gi (ui S 4 (upd (ai S 4) (Int32.toNatClampNeg (gi S 4)) x1)) 4)) x2)) 6) (Int32.toNatClampNeg (gi (ul (ui S 4 (upd (ai S 4) (Int32.toNatClampNeg (gi S 4)) x1)) 5 (vp_updL (al (ui S 4 (upd (ai S 4) (Int32.toNatClampNeg (gi S 4)) x1)) 5) (Int32.toNatClampNeg (gi (ui S 4 (upd (ai S 4) (Int32.toNatClampNeg (gi S 4)) x1)) 4)) x2)) 4)) x4)) 7 (vp_updL (al (ul (ul (ui S 4 (upd (ai S 4) (Int32.toNatClampNeg (gi S 4)) x1)) 5 (vp_updL (al (ui S 4 (upd (ai S 4) (Int32.toNatClampNeg (gi S 4)) x1)) 5) (Int32.toNatClampNeg (gi (ui S 4 (upd (ai S 4) (Int32.toNatClampNeg (gi S 4)) x1)) 4)) x2)) 6 (vp_updL (al (ul (ui S 4 (upd (ai S 4) (Int32.toNatClampNeg (gi S 4)) x1)) 5 (vp_updL (al (ui S 4 (upd (ai S 4) (Int32.toNatClampNeg (gi S 4)) x1)) 5) (Int32.toNatClampNeg (gi (ui S 4 (upd (ai S 4) (Int32.toNatClampNeg (gi S 4)) x1)) 4)) x2)) 6) (Int32.toNatClampNeg (gi (ul (ui S 4 (upd (ai S 4) (Int32.toNatClampNeg (gi S 4)) x1)) 5 (vp_updL (al (ui S 4 (upd (ai S 4) (Int32.toNatClampNeg (gi S 4)) x1)) 5) (Int32.toNatClampNeg (gi (ui S 4 (upd (ai S 4) (Int32.toNatClampNeg (gi S 4)) x1)) 4)) x2)) 4)) x4)) 7) (Int32.toNatClampNeg (gi (ul (ul (ui S 4 (upd (ai S 4) (Int32.toNatClampNeg (gi S 4)) x1)) 5 (vp_updL (al (ui S 4 (upd (ai S 4) (Int32.toNatClampNeg (gi S 4)) x1)) 5) (Int32.toNatClampNeg (gi (ui S 4 (upd (ai S 4) (Int32.toNatClampNeg (gi S 4)) x1)) 4)) x2)) 6 (vp_updL (al (ul (ui S 4 (upd (ai S 4) (Int32.toNatClampNeg (gi S 4)) x1)) 5 (vp_updL (al (ui S 4 (upd (ai S 4) (Int32.toNatClampNeg (gi S 4)) x1)) 5) (Int32.toNatClampNeg (gi (ui S 4 (upd (ai S 4) (Int32.toNatClampNeg (gi S 4)) x1)) 4)) x2)) 6) (Int32.toNatClampNeg (gi (ul (ui S 4 (upd (ai S 4) (Int32.toNatClampNeg (gi S 4)) x1)) 5 (vp_updL (al (ui S 4 (upd (ai S 4) (Int32.toNatClampNeg (gi S 4)) x1)) 5) (Int32.toNatClampNeg (gi (ui S 4 (upd (ai S 4) (Int32.toNatClampNeg (gi S 4)) x1)) 4)) x2)) 4)) x4)) 4)) x6)) 8 (vp_updL (al (ul (ul (ul (ui S 4 (upd (ai S 4) (Int32.toNatClampNeg (gi S 4)) x1)) 5 (vp_updL (al (ui S 4 (upd (ai S 4) (Int32.toNatClampNeg (gi S 4)) x1)) 5) (Int32.toNatClampNeg (gi (ui S 4 (upd (ai S 4) (Int32.toNatClampNeg (gi S 4)) x1)) 4)) x2)) 6 (vp_updL (al (ul (ui S 4 (upd (ai S 4) (Int32.toNatClampNeg (gi S 4)) x1)) 5 (vp_updL (al (ui S 4 (upd (ai S 4) (Int32.toNatClampNeg (gi S 4)) x1)) 5) (Int32.toNatClampNeg (gi (ui S 4 (upd (ai S 4) (Int32.toNatClampNeg (gi S 4)) x1)) 4)) x2)) 6) (Int32.toNatClampNeg (gi (ul (ui S 4 (upd (ai S 4) (Int32.toNatClampNeg (gi S 4)) x1)) 5 (vp_updL (al (ui S 4 (upd (ai S 4) (Int32.toNatClampNeg (gi S 4)) x1)) 5) (Int32.toNatClampNeg (gi (ui S 4 (upd (ai S 4) (Int32.toNatClampNeg (gi S 4)) x1)) 4)) x2)) 4)) x4)) 7 (vp_updL (al (ul (ul (ui S 4 (upd (ai S 4) (Int32.toNatClampNeg (gi S 4)) x1)) 5 (vp_updL (al (ui S 4 (upd (ai S 4) (Int32.toNatClampNeg (gi S 4)) x1)) 5) (Int32.toNatClampNeg (gi (ui S 4 (upd (ai S 4) (Int32.toNatClampNeg (gi S 4)) x1)) 4)) x2)) 6 (vp_updL (al (ul (ui S 4 (upd (ai S 4) (Int32.toNatClampNeg (gi S 4)) x1)) 5 (vp_updL (al (ui S 4 (upd (ai S 4) (Int32.toNatClampNeg (gi S 4)) x1)) 5) (Int32.toNatClampNeg (gi (ui S 4 (upd (ai S 4) (Int32.toNatClampNeg (gi S 4)) x1)) 4)) x2)) 6) (Int32.toNatClampNeg (gi (ul (ui S 4 (upd (ai S 4) (Int32.toNatClampNeg (gi S 4)) x1)) 5 (vp_updL (al (ui S 4 (upd (ai S 4) (Int32.toNatClampNeg (gi S 4)) x1)) 5) (Int32.toNatClampNeg (gi (ui S 4 (upd (ai S 4) (Int32.toNatClampNeg (gi S 4)) x1)) 4)) x2)) 4)) x4)) 7) (Int32.toNatClampNeg (gi (ul (ul (ui S 4 (upd (ai S 4) (Int32.toNatClampNeg (gi S 4)) x1)) 5 (vp_updL (al (ui S 4 (upd (ai S 4) (Int32.toNatClampNeg (gi S 4)) x1)) 5) (Int32.toNatClampNeg (gi (ui S 4 (upd (ai S 4) (Int32.toNatClampNeg (gi S 4)) x1)) 4)) x2)) 6 (vp_updL (al (ul (ui S 4 (upd (ai S 4) (Int32.toNatClampNeg (gi S 4)) x1)) 5 (vp_updL (al (ui S 4 (upd (ai S 4) (Int32.toNatClampNeg (gi S 4)) x1)) 5) (Int32.toNatClampNeg (gi (ui S 4 (upd (ai S 4) (Int32.toNatClampNeg (gi S 4)) x1)) 4)) x2)) 6) (Int32.toNatClampNeg (gi (ul (ui S 4 (upd (ai S 4) (Int32.toNatClampNeg (gi S 4)) x1)) 5 (vp_updL (al (ui S 4 (upd (ai S 4) (Int32.toNatClampNeg (gi S 4)) x1)) 5) (Int32.toNatClampNeg (gi (ui S 4 (upd (ai S 4) (Int32.toNatClampNeg (gi S 4)) x1)) 4)) x2)) 4)) x4)) 4)) x6)) 8) (Int32.toNatClampNeg (gi (ul (ul (ul (ui S 4 (upd (ai S 4) (Int32.toNatClampNeg (gi S 4)) x1)) 5 (vp_updL (al (ui S 4 (upd (ai S 4) (Int32.toNatClampNeg (gi S 4)) x1)) 5) (Int32.toNatClampNeg (gi (ui S 4 (upd (ai S 4) (Int32.toNatClampNeg (gi S 4)) x1)) 4)) x2)) 6 (vp_updL (al (ul (ui S 4 (upd (ai S 4) (Int32.toNatClampNeg (gi S 4)) x1)) 5 (vp_updL (al (ui S 4 (upd (ai S 4) (Int32.toNatClampNeg (gi S 4)) x1)) 5) (Int32.toNatClampNeg (gi (ui S 4 (upd (ai S 4) (Int32.toNatClampNeg (gi S 4)) x1)) 4)) x2)) 6) (Int32.toNatClampNeg (gi (ul (ui S 4 (upd (ai S 4) (Int32.toNatClampNeg (gi S 4)) x1)) 5 (vp_updL (al (ui S 4 (upd (ai S 4) (Int32.toNatClampNeg (gi S 4)) x1)) 5) (Int32.toNatClampNeg (gi (ui S 4 (upd (ai S 4) (Int32.toNatClampNeg (gi S 4)) x1)) 4)) x2)) 4)) x4)) 7 (vp_updL (al (ul (ul (ui S 4 (upd (ai S 4) (Int32.toNatClampNeg (gi S 4)) x1)) 5 (vp_updL (al (ui S 4 (upd (ai S 4) (Int32.toNatClampNeg (gi S 4)) x1)) 5) (Int32.toNatClampNeg (gi (ui S 4 (upd (ai S 4) (Int32.toNatClampNeg (gi S 4)) x1)) 4)) x2)) 6 (vp_updL (al (ul (ui S 4 (upd (ai S 4) (Int32.toNatClampNeg (gi S 4)) x1)) 5 (vp_updL (al (ui S 4 (upd (ai S 4) (Int32.toNatClampNeg (gi S 4)) x1)) 5) (Int32.toNatClampNeg (gi (ui S 4 (upd (ai S 4) (Int32.toNatClampNeg (gi S 4)) x1)) 4)) x2)) 6) (Int32.toNatClampNeg (gi (ul (ui S 4 (upd (ai S 4) (Int32.toNatClampNeg (gi S 4)) x1)) 5 (vp_updL (al (ui S 4 (upd (ai S 4) (Int32.toNatClampNeg (gi S 4)) x1)) 5) (Int32.toNatClampNeg (gi (ui S 4 (upd (ai S 4) (Int32.toNatClampNeg (gi S 4)) x1)) 4)) x2)) 4)) x4)) 7) (Int32.toNatClampNeg (gi (ul (ul (ui S 4 (upd (ai S 4) (Int32.toNatClampNeg (gi S 4)) x1)) 5 (vp_updL (al (ui S 4 (upd (ai S 4) (Int32.toNatClampNeg (gi S 4)) x1)) 5) (Int32.toNatClampNeg (gi (ui S 4 (upd (ai S 4) (Int32.toNatClampNeg (gi S 4)) x1)) 4)) x2)) 6 (vp_updL (al (ul (ui S 4 (upd (ai S 4) (Int32.toNatClampNeg (gi S 4)) x1)) 5 (vp_updL (al (ui S 4 (upd (ai S 4) (Int32.toNatClampNeg (gi S 4)) x1)) 5) (Int32.toNatClampNeg (gi (ui S 4 (upd (ai S 4) (Int32.toNatClampNeg (gi S 4)) x1)) 4)) x2)) 6) (Int32.toNatClampNeg (gi (ul (ui S 4 (upd (ai S 4) (Int32.toNatClampNeg (gi S 4)) x1)) 5 (vp_updL (al (ui S 4 (upd (ai S 4) (Int32.toNatClampNeg (gi S 4)) x1)) 5) (Int32.toNatClampNeg (gi (ui S 4 (upd (ai S 4) (Int32.toNatClampNeg (gi S 4)) x1)) 4)) x2)) 4)) x4)) 4)) x6)) 4)) x8)) 4 ((gi (ul (ul (ul (ul (ui S 4 (upd (ai S 4) (Int32.toNatClampNeg (gi S 4)) x1)) 5 (vp_updL (al (ui S 4 (upd (ai S 4) (Int32.toNatClampNeg (gi S 4)) x1)) 5) (Int32.toNatClampNeg (gi (ui S 4 (upd (ai S 4) (Int32.toNatClampNeg (gi S 4)) x1)) 4)) x2)) 6 (vp_updL (al (ul (ui S 4 (upd (ai S 4) (Int32.toNatClampNeg (gi S 4)) x1)) 5 (vp_updL (al (ui S 4 (upd (ai S 4) (Int32.toNatClampNeg (gi S 4)) x1)) 5) (Int32.toNatClampNeg (gi (ui S 4 (upd (ai S 4) (Int32.toNatClampNeg (gi S 4)) x1)) 4)) x2)) 6) (Int32.toNatClampNeg (gi (ul (ui S 4 (upd (ai S 4) (Int32.toNatClampNeg (gi S 4)) x1)) 5 (vp_updL (al (ui S 4 (upd (ai S 4) (Int32.toNatClampNeg (gi S 4)) x1)) 5) (Int32.toNatClampNeg (gi (ui S 4 (upd (ai S 4) (Int32.toNatClampNeg (gi S 4)) x1)) 4)) x2)) 4)) x4)) 7 (vp_updL (al (ul (ul (ui S 4 (upd (ai S 4) (Int32.toNatClampNeg (gi S 4)) x1)) 5 (vp_updL (al (ui S 4 (upd (ai S 4) (Int32.toNatClampNeg (gi S 4)) x1)) 5) (Int32.toNatClampNeg (gi (ui S 4 (upd (ai S 4) (Int32.toNatClampNeg (gi S 4)) x1)) 4)) x2)) 6 (vp_updL (al (ul (ui S 4 (upd (ai S 4) (Int32.toNatClampNeg (gi S 4)) x1)) 5 (vp_updL (al (ui S 4 (upd (ai S 4) (Int32.toNatClampNeg (gi S 4)) x1)) 5) (Int32.toNatClampNeg (gi (ui S 4 (upd (ai S 4) (Int32.toNatClampNeg (gi S 4)) x1)) 4)) x2)) 6) (Int32.toNatClampNeg (gi (ul (ui S 4 (upd (ai S 4) (Int32.toNatClampNeg (gi S 4)) x1)) 5 (vp_updL (al (ui S 4 (upd (ai S 4) (Int32.toNatClampNeg (gi S 4)) x1)) 5) (Int32.toNatClampNeg (gi (ui S 4 (upd (ai S 4) (Int32.toNatClampNeg (gi S 4)) x1)) 4)) x2)) 4)) x4)) 7) (Int32.toNatClampNeg (gi (ul (ul (ui S 4 (upd (ai S 4) (Int32.toNatClampNeg (gi S 4)) x1)) 5 (vp_updL (al (ui S 4 (upd (ai S 4) (Int32.toNatClampNeg (gi S 4)) x1)) 5) (Int32.toNatClampNeg (gi (ui S 4 (upd (ai S 4) (Int32.toNatClampNeg (gi S 4)) x1)) 4)) x2)) 6 (vp_updL (al (ul (ui S 4 (upd (ai S 4) (Int32.toNatClampNeg (gi S 4)) x1)) 5 (vp_updL (al (ui S 4 (upd (ai S 4) (Int32.toNatClampNeg (gi S 4)) x1)) 5) (Int32.toNatClampNeg (gi (ui S 4 (upd (ai S 4) (Int32.toNatClampNeg (gi S 4)) x1)) 4)) x2)) 6) (Int32.toNatClampNeg (gi (ul (ui S 4 (upd (ai S 4) (Int32.toNatClampNeg (gi S 4)) x1)) 5 (vp_updL (al (ui S 4 (upd (ai S 4) (Int32.toNatClampNeg (gi S 4)) x1)) 5) (Int32.toNatClampNeg (gi (ui S 4 (upd (ai S 4) (Int32.toNatClampNeg (gi S 4)) x1)) 4)) x2)) 4)) x4)) 4)) x6)) 8 (vp_updL (al (ul (ul (ul (ui S 4 (upd (ai S 4) (Int32.toNatClampNeg (gi S 4)) x1)) 5 (vp_updL (al (ui S 4 (upd (ai S 4) (Int32.toNatClampNeg (gi S 4)) x1)) 5) (Int32.toNatClampNeg (gi (ui S 4 (upd (ai S 4) (Int32.toNatClampNeg (gi S 4)) x1)) 4)) x2)) 6 (vp_updL (al (ul (ui S 4 (upd (ai S 4) (Int32.toNatClampNeg (gi S 4)) x1)) 5 (vp_updL (al (ui S 4 (upd (ai S 4) (Int32.toNatClampNeg (gi S 4)) x1)) 5) (Int32.toNatClampNeg (gi (ui S 4 (upd (ai S 4) (Int32.toNatClampNeg (gi S 4)) x1)) 4)) x2)) 6) (Int32.toNatClampNeg (gi (ul (ui S 4 (upd (ai S 4) (Int32.toNatClampNeg (gi S 4)) x1)) 5 (vp_updL (al (ui S 4 (upd (ai S 4) (Int32.toNatClampNeg (gi S 4)) x1)) 5) (Int32.toNatClampNeg (gi (ui S 4 (upd (ai S 4) (Int32.toNatClampNeg (gi S 4)) x1)) 4)) x2)) 4)) x4)) 7 (vp_updL (al (ul (ul (ui S 4 (upd (ai S 4) (Int32.toNatClampNeg (gi S 4)) x1)) 5 (vp_updL (al (ui S 4 (upd (ai S 4) (Int32.toNatClampNeg (gi S 4)) x1)) 5) (Int32.toNatClampNeg (gi (ui S 4 (upd (ai S 4) (Int32.toNatClampNeg (gi S 4)) x1)) 4)) x2)) 6 (vp_updL (al (ul (ui S 4 (upd (ai S 4) (Int32.toNatClampNeg (gi S 4)) x1)) 5 (vp_updL (al (ui S 4 (upd (ai S 4) (Int32.toNatClampNeg (gi S 4)) x1)) 5) (Int32.toNatClampNeg (gi (ui S 4 (upd (ai S 4) (Int32.toNatClampNeg (gi S 4)) x1)) 4)) x2)) 6) (Int32.toNatClampNeg (gi (ul (ui S 4 (upd (ai S 4) (Int32.toNatClampNeg (gi S 4)) x1)) 5 (vp_updL (al (ui S 4 (upd (ai S 4) (Int32.toNatClampNeg (gi S 4)) x1)) 5) (Int32.toNatClampNeg (gi (ui S 4 (upd (ai S 4) (Int32.toNatClampNeg (gi S 4)) x1)) 4)) x2)) 4)) x4)) 7) (Int32.toNatClampNeg (gi (ul (ul (ui S 4 (upd (ai S 4) (Int32.toNatClampNeg (gi S 4)) x1)) 5 (vp_updL (al (ui S 4 (upd (ai S 4) (Int32.toNatClampNeg (gi S 4)) x1)) 5) (Int32.toNatClampNeg (gi (ui S 4 (upd (ai S 4) (Int32.toNatClampNeg (gi S 4)) x1)) 4)) x2)) 6 (vp_updL (al (ul (ui S 4 (upd (ai S 4) (Int32.toNatClampNeg (gi S 4)) x1)) 5 (vp_updL (al (ui S 4 (upd (ai S 4) (Int32.toNatClampNeg (gi S 4)) x1)) 5) (Int32.toNatClampNeg (gi (ui S 4 (upd (ai S 4) (Int32.toNatClampNeg (gi S 4)) x1)) 4)) x2)) 6) (Int32.toNatClampNeg (gi (ul (ui S 4 (upd (ai S 4) (Int32.toNatClampNeg (gi S 4)) x1)) 5 (vp_updL (al (ui S 4 (upd (ai S 4) (Int32.toNatClampNeg (gi S 4)) x1)) 5) (Int32.toNatClampNeg (gi (ui S 4 (upd (ai S 4) (Int32.toNatClampNeg (gi S 4)) x1)) 4)) x2)) 4)) x4)) 4)) x6)) 8) (Int32.toNatClampNeg (gi (ul (ul (ul (ui S 4 (upd (ai S 4) (Int32.toNatClampNeg (gi S 4)) x1)) 5 (vp_updL (al (ui S 4 (upd (ai S 4) (Int32.toNatClampNeg (gi S 4)) x1)) 5) (Int32.toNatClampNeg (gi (ui S 4 (upd (ai S 4) (Int32.toNatClampNeg (gi S 4)) x1)) 4)) x2)) 6 (vp_updL (al (ul (ui S 4 (upd (ai S 4) (Int32.toNatClampNeg (gi S 4)) x1)) 5 (vp_updL (al (ui S 4 (upd (ai S 4) (Int32.toNatClampNeg (gi S 4)) x1)) 5) (Int32.toNatClampNeg (gi (ui S 4 (upd (ai S 4) (Int32.toNatClampNeg (gi S 4)) x1)) 4)) x2)) 6) (Int32.toNatClampNeg (gi (ul (ui S 4 (upd (ai S 4) (Int32.toNatClampNeg (gi S 4)) x1)) 5 (vp_updL (al (ui S 4 (upd (ai S 4) (Int32.toNatClampNeg (gi S 4)) x1)) 5) (Int32.toNatClampNeg (gi (ui S 4 (upd (ai S 4) (Int32.toNatClampNeg (gi S 4)) x1)) 4)) x2)) 4)) x4)) 7 (vp_updL (al (ul (ul (ui S 4 (upd (ai S 4) (Int32.toNatClampNeg (gi S 4)) x1)) 5 (vp_updL (al (ui S 4 (upd (ai S 4) (Int32.toNatClampNeg (gi S 4)) x1)) 5) (Int32.toNatClampNeg (gi (ui S 4 (upd (ai S 4) (Int32.toNatClampNeg (gi S 4)) x1)) 4)) x2)) 6 (vp_updL (al (ul (ui S 4 (upd (ai S 4) (Int32.toNatClampNeg (gi S 4)) x1)) 5 (vp_updL (al (ui S 4 (upd (ai S 4) (Int32.toNatClampNeg (gi S 4)) x1)) 5) (Int32.toNatClampNeg (gi (ui S 4 (upd (ai S 4) (Int32.toNatClampNeg (gi S 4)) x1)) 4)) x2)) 6) (Int32.toNatClampNeg (gi (ul (ui S 4 (upd (ai S 4) (Int32.toNatClampNeg (gi S 4)) x1)) 5 (vp_updL (al (ui S 4 (upd (ai S 4) (Int32.toNatClampNeg (gi S 4)) x1)) 5) (Int32.toNatClampNeg (gi (ui S 4 (upd (ai S 4) (Int32.toNatClampNeg (gi S 4)) x1)) 4)) x2)) 4)) x4)) 7) (Int32.toNatClampNeg (gi (ul (ul (ui S 4 (upd (ai S 4) (Int32.toNatClampNeg (gi S 4)) x1)) 5 (vp_updL (al (ui S 4 (upd (ai S 4) (Int32.toNatClampNeg (gi S 4)) x1)) 5) (Int32.toNatClampNeg (gi (ui S 4 (upd (ai S 4) (Int32.toNatClampNeg (gi S 4)) x1)) 4)) x2)) 6 (vp_updL (al (ul (ui S 4 (upd (ai S 4) (Int32.toNatClampNeg (gi S 4)) x1)) 5 (vp_updL (al (ui S 4 (upd (ai S 4) (Int32.toNatClampNeg (gi S 4)) x1)) 5) (Int32.toNatClampNeg (gi (ui S 4 (upd (ai S 4) (Int32.toNatClampNeg (gi S 4)) x1)) 4)) x2)) 6) (Int32.toNatClampNeg (gi (ul (ui S 4 (upd (ai S 4) (Int32.toNatClampNeg (gi S 4)) x1)) 5 (vp_updL (al (ui S 4 (upd (ai S 4) (Int32.toNatClampNeg (gi S 4)) x1)) 5) (Int32.toNatClampNeg (gi (ui S 4 (upd (ai S 4) (Int32.toNatClampNeg (gi S 4)) x1)) 4)) x2)) 4)) x4)) 4)) x6)) 4)) x8)) 4) + (1 : Int32)))))))))
set_option maxRecDepth 100000 in
theorem X_Se_cast {nL : Nat} {xs : Nat → Int32} {M : Sto} {O : Sto} {d : Nat} (hd : 1 ≤ d) : ∀ (x1 : Int32) (x2 : Int64) (x4 : Int64) (x6 : Int64) (x8 : Int64) (S : Sto) (r : Unit) (S' : Sto), F_Se_cast x1 x2 x4 x6 x8 S = some (r, S') → EX nL xs 0 MI_32 d 0 [some (.ref 3), some (.int x1), some (.long x2), none, some (.long x4), none, some (.long x6), none, some (.long x8), none] [] (S, M, O) (.inl none) (S', M, O) := by
  intro x1 x2 x4 x6 x8 S r S' hF
  unfold F_Se_cast at hF
  refine Ex_go 3 (pc' := if (gi S 4) < 0 then 79 else 7) (L' := [some (.ref 3), some (.int x1), some (.long x2), none, some (.long x4), none, some (.long x6), none, some (.long x8), none]) (st' := []) (σ' := (S, M, O)) (rfl) ?_
  refine Ex_br (fun hc => ?_) (fun hc => ?_)
  · rw [if_pos hc] at hF
    cases hF
    exact Ex_fin rfl
  · rw [if_neg hc] at hF
    refine Ex_go 4 (pc' := if (8 : Int32) ≤ (gi S 4) then 79 else 16) (L' := [some (.ref 3), some (.int x1), some (.long x2), none, some (.long x4), none, some (.long x6), none, some (.long x8), none]) (st' := []) (σ' := (S, M, O)) (rfl) ?_
    refine Ex_br (fun hc => ?_) (fun hc => ?_)
    · rw [if_pos hc] at hF
      cases hF
      exact Ex_fin rfl
    · rw [if_neg hc] at hF
      refine Ex_go 5 (pc' := 25) (L' := [some (.ref 3), some (.int x1), some (.long x2), none, some (.long x4), none, some (.long x6), none, some (.long x8), none]) (st' := [.int x1, .int (gi S 4), .ref 4]) (σ' := (S, M, O)) (rfl) ?_
      obtain ⟨hc1, hF⟩ := ck_i hF
      refine Ex_chk (b := ib (gi S 4) 8) (pc' := 26) (L' := [some (.ref 3), some (.int x1), some (.long x2), none, some (.long x4), none, some (.long x6), none, some (.long x8), none]) (st' := []) (σ' := ((ui S 4 (upd (ai S 4) (Int32.toNatClampNeg (gi S 4)) x1)), M, O)) rfl hc1 ?_
      refine Ex_go 5 (pc' := 35) (L' := [some (.ref 3), some (.int x1), some (.long x2), none, some (.long x4), none, some (.long x6), none, some (.long x8), none]) (st' := [.long x2, .int (gi (ui S 4 (upd (ai S 4) (Int32.toNatClampNeg (gi S 4)) x1)) 4), .ref 5]) (σ' := ((ui S 4 (upd (ai S 4) (Int32.toNatClampNeg (gi S 4)) x1)), M, O)) (rfl) ?_
      obtain ⟨hc2, hF⟩ := ck_i hF
      refine Ex_chk (b := ib (gi (ui S 4 (upd (ai S 4) (Int32.toNatClampNeg (gi S 4)) x1)) 4) 8) (pc' := 36) (L' := [some (.ref 3), some (.int x1), some (.long x2), none, some (.long x4), none, some (.long x6), none, some (.long x8), none]) (st' := []) (σ' := ((ul (ui S 4 (upd (ai S 4) (Int32.toNatClampNeg (gi S 4)) x1)) 5 (vp_updL (al (ui S 4 (upd (ai S 4) (Int32.toNatClampNeg (gi S 4)) x1)) 5) (Int32.toNatClampNeg (gi (ui S 4 (upd (ai S 4) (Int32.toNatClampNeg (gi S 4)) x1)) 4)) x2)), M, O)) rfl hc2 ?_
      refine Ex_go 5 (pc' := 46) (L' := [some (.ref 3), some (.int x1), some (.long x2), none, some (.long x4), none, some (.long x6), none, some (.long x8), none]) (st' := [.long x4, .int (gi (ul (ui S 4 (upd (ai S 4) (Int32.toNatClampNeg (gi S 4)) x1)) 5 (vp_updL (al (ui S 4 (upd (ai S 4) (Int32.toNatClampNeg (gi S 4)) x1)) 5) (Int32.toNatClampNeg (gi (ui S 4 (upd (ai S 4) (Int32.toNatClampNeg (gi S 4)) x1)) 4)) x2)) 4), .ref 6]) (σ' := ((ul (ui S 4 (upd (ai S 4) (Int32.toNatClampNeg (gi S 4)) x1)) 5 (vp_updL (al (ui S 4 (upd (ai S 4) (Int32.toNatClampNeg (gi S 4)) x1)) 5) (Int32.toNatClampNeg (gi (ui S 4 (upd (ai S 4) (Int32.toNatClampNeg (gi S 4)) x1)) 4)) x2)), M, O)) (rfl) ?_
      obtain ⟨hc3, hF⟩ := ck_i hF
      refine Ex_chk (b := ib (gi (ul (ui S 4 (upd (ai S 4) (Int32.toNatClampNeg (gi S 4)) x1)) 5 (vp_updL (al (ui S 4 (upd (ai S 4) (Int32.toNatClampNeg (gi S 4)) x1)) 5) (Int32.toNatClampNeg (gi (ui S 4 (upd (ai S 4) (Int32.toNatClampNeg (gi S 4)) x1)) 4)) x2)) 4) 8) (pc' := 47) (L' := [some (.ref 3), some (.int x1), some (.long x2), none, some (.long x4), none, some (.long x6), none, some (.long x8), none]) (st' := []) (σ' := ((ul (ul (ui S 4 (upd (ai S 4) (Int32.toNatClampNeg (gi S 4)) x1)) 5 (vp_updL (al (ui S 4 (upd (ai S 4) (Int32.toNatClampNeg (gi S 4)) x1)) 5) (Int32.toNatClampNeg (gi (ui S 4 (upd (ai S 4) (Int32.toNatClampNeg (gi S 4)) x1)) 4)) x2)) 6 (vp_updL (al (ul (ui S 4 (upd (ai S 4) (Int32.toNatClampNeg (gi S 4)) x1)) 5 (vp_updL (al (ui S 4 (upd (ai S 4) (Int32.toNatClampNeg (gi S 4)) x1)) 5) (Int32.toNatClampNeg (gi (ui S 4 (upd (ai S 4) (Int32.toNatClampNeg (gi S 4)) x1)) 4)) x2)) 6) (Int32.toNatClampNeg (gi (ul (ui S 4 (upd (ai S 4) (Int32.toNatClampNeg (gi S 4)) x1)) 5 (vp_updL (al (ui S 4 (upd (ai S 4) (Int32.toNatClampNeg (gi S 4)) x1)) 5) (Int32.toNatClampNeg (gi (ui S 4 (upd (ai S 4) (Int32.toNatClampNeg (gi S 4)) x1)) 4)) x2)) 4)) x4)), M, O)) rfl hc3 ?_
      refine Ex_go 5 (pc' := 57) (L' := [some (.ref 3), some (.int x1), some (.long x2), none, some (.long x4), none, some (.long x6), none, some (.long x8), none]) (st' := [.long x6, .int (gi (ul (ul (ui S 4 (upd (ai S 4) (Int32.toNatClampNeg (gi S 4)) x1)) 5 (vp_updL (al (ui S 4 (upd (ai S 4) (Int32.toNatClampNeg (gi S 4)) x1)) 5) (Int32.toNatClampNeg (gi (ui S 4 (upd (ai S 4) (Int32.toNatClampNeg (gi S 4)) x1)) 4)) x2)) 6 (vp_updL (al (ul (ui S 4 (upd (ai S 4) (Int32.toNatClampNeg (gi S 4)) x1)) 5 (vp_updL (al (ui S 4 (upd (ai S 4) (Int32.toNatClampNeg (gi S 4)) x1)) 5) (Int32.toNatClampNeg (gi (ui S 4 (upd (ai S 4) (Int32.toNatClampNeg (gi S 4)) x1)) 4)) x2)) 6) (Int32.toNatClampNeg (gi (ul (ui S 4 (upd (ai S 4) (Int32.toNatClampNeg (gi S 4)) x1)) 5 (vp_updL (al (ui S 4 (upd (ai S 4) (Int32.toNatClampNeg (gi S 4)) x1)) 5) (Int32.toNatClampNeg (gi (ui S 4 (upd (ai S 4) (Int32.toNatClampNeg (gi S 4)) x1)) 4)) x2)) 4)) x4)) 4), .ref 7]) (σ' := ((ul (ul (ui S 4 (upd (ai S 4) (Int32.toNatClampNeg (gi S 4)) x1)) 5 (vp_updL (al (ui S 4 (upd (ai S 4) (Int32.toNatClampNeg (gi S 4)) x1)) 5) (Int32.toNatClampNeg (gi (ui S 4 (upd (ai S 4) (Int32.toNatClampNeg (gi S 4)) x1)) 4)) x2)) 6 (vp_updL (al (ul (ui S 4 (upd (ai S 4) (Int32.toNatClampNeg (gi S 4)) x1)) 5 (vp_updL (al (ui S 4 (upd (ai S 4) (Int32.toNatClampNeg (gi S 4)) x1)) 5) (Int32.toNatClampNeg (gi (ui S 4 (upd (ai S 4) (Int32.toNatClampNeg (gi S 4)) x1)) 4)) x2)) 6) (Int32.toNatClampNeg (gi (ul (ui S 4 (upd (ai S 4) (Int32.toNatClampNeg (gi S 4)) x1)) 5 (vp_updL (al (ui S 4 (upd (ai S 4) (Int32.toNatClampNeg (gi S 4)) x1)) 5) (Int32.toNatClampNeg (gi (ui S 4 (upd (ai S 4) (Int32.toNatClampNeg (gi S 4)) x1)) 4)) x2)) 4)) x4)), M, O)) (rfl) ?_
      obtain ⟨hc4, hF⟩ := ck_i hF
      refine Ex_chk (b := ib (gi (ul (ul (ui S 4 (upd (ai S 4) (Int32.toNatClampNeg (gi S 4)) x1)) 5 (vp_updL (al (ui S 4 (upd (ai S 4) (Int32.toNatClampNeg (gi S 4)) x1)) 5) (Int32.toNatClampNeg (gi (ui S 4 (upd (ai S 4) (Int32.toNatClampNeg (gi S 4)) x1)) 4)) x2)) 6 (vp_updL (al (ul (ui S 4 (upd (ai S 4) (Int32.toNatClampNeg (gi S 4)) x1)) 5 (vp_updL (al (ui S 4 (upd (ai S 4) (Int32.toNatClampNeg (gi S 4)) x1)) 5) (Int32.toNatClampNeg (gi (ui S 4 (upd (ai S 4) (Int32.toNatClampNeg (gi S 4)) x1)) 4)) x2)) 6) (Int32.toNatClampNeg (gi (ul (ui S 4 (upd (ai S 4) (Int32.toNatClampNeg (gi S 4)) x1)) 5 (vp_updL (al (ui S 4 (upd (ai S 4) (Int32.toNatClampNeg (gi S 4)) x1)) 5) (Int32.toNatClampNeg (gi (ui S 4 (upd (ai S 4) (Int32.toNatClampNeg (gi S 4)) x1)) 4)) x2)) 4)) x4)) 4) 8) (pc' := 58) (L' := [some (.ref 3), some (.int x1), some (.long x2), none, some (.long x4), none, some (.long x6), none, some (.long x8), none]) (st' := []) (σ' := ((ul (ul (ul (ui S 4 (upd (ai S 4) (Int32.toNatClampNeg (gi S 4)) x1)) 5 (vp_updL (al (ui S 4 (upd (ai S 4) (Int32.toNatClampNeg (gi S 4)) x1)) 5) (Int32.toNatClampNeg (gi (ui S 4 (upd (ai S 4) (Int32.toNatClampNeg (gi S 4)) x1)) 4)) x2)) 6 (vp_updL (al (ul (ui S 4 (upd (ai S 4) (Int32.toNatClampNeg (gi S 4)) x1)) 5 (vp_updL (al (ui S 4 (upd (ai S 4) (Int32.toNatClampNeg (gi S 4)) x1)) 5) (Int32.toNatClampNeg (gi (ui S 4 (upd (ai S 4) (Int32.toNatClampNeg (gi S 4)) x1)) 4)) x2)) 6) (Int32.toNatClampNeg (gi (ul (ui S 4 (upd (ai S 4) (Int32.toNatClampNeg (gi S 4)) x1)) 5 (vp_updL (al (ui S 4 (upd (ai S 4) (Int32.toNatClampNeg (gi S 4)) x1)) 5) (Int32.toNatClampNeg (gi (ui S 4 (upd (ai S 4) (Int32.toNatClampNeg (gi S 4)) x1)) 4)) x2)) 4)) x4)) 7 (vp_updL (al (ul (ul (ui S 4 (upd (ai S 4) (Int32.toNatClampNeg (gi S 4)) x1)) 5 (vp_updL (al (ui S 4 (upd (ai S 4) (Int32.toNatClampNeg (gi S 4)) x1)) 5) (Int32.toNatClampNeg (gi (ui S 4 (upd (ai S 4) (Int32.toNatClampNeg (gi S 4)) x1)) 4)) x2)) 6 (vp_updL (al (ul (ui S 4 (upd (ai S 4) (Int32.toNatClampNeg (gi S 4)) x1)) 5 (vp_updL (al (ui S 4 (upd (ai S 4) (Int32.toNatClampNeg (gi S 4)) x1)) 5) (Int32.toNatClampNeg (gi (ui S 4 (upd (ai S 4) (Int32.toNatClampNeg (gi S 4)) x1)) 4)) x2)) 6) (Int32.toNatClampNeg (gi (ul (ui S 4 (upd (ai S 4) (Int32.toNatClampNeg (gi S 4)) x1)) 5 (vp_updL (al (ui S 4 (upd (ai S 4) (Int32.toNatClampNeg (gi S 4)) x1)) 5) (Int32.toNatClampNeg (gi (ui S 4 (upd (ai S 4) (Int32.toNatClampNeg (gi S 4)) x1)) 4)) x2)) 4)) x4)) 7) (Int32.toNatClampNeg (gi (ul (ul (ui S 4 (upd (ai S 4) (Int32.toNatClampNeg (gi S 4)) x1)) 5 (vp_updL (al (ui S 4 (upd (ai S 4) (Int32.toNatClampNeg (gi S 4)) x1)) 5) (Int32.toNatClampNeg (gi (ui S 4 (upd (ai S 4) (Int32.toNatClampNeg (gi S 4)) x1)) 4)) x2)) 6 (vp_updL (al (ul (ui S 4 (upd (ai S 4) (Int32.toNatClampNeg (gi S 4)) x1)) 5 (vp_updL (al (ui S 4 (upd (ai S 4) (Int32.toNatClampNeg (gi S 4)) x1)) 5) (Int32.toNatClampNeg (gi (ui S 4 (upd (ai S 4) (Int32.toNatClampNeg (gi S 4)) x1)) 4)) x2)) 6) (Int32.toNatClampNeg (gi (ul (ui S 4 (upd (ai S 4) (Int32.toNatClampNeg (gi S 4)) x1)) 5 (vp_updL (al (ui S 4 (upd (ai S 4) (Int32.toNatClampNeg (gi S 4)) x1)) 5) (Int32.toNatClampNeg (gi (ui S 4 (upd (ai S 4) (Int32.toNatClampNeg (gi S 4)) x1)) 4)) x2)) 4)) x4)) 4)) x6)), M, O)) rfl hc4 ?_
      refine Ex_go 5 (pc' := 68) (L' := [some (.ref 3), some (.int x1), some (.long x2), none, some (.long x4), none, some (.long x6), none, some (.long x8), none]) (st' := [.long x8, .int (gi (ul (ul (ul (ui S 4 (upd (ai S 4) (Int32.toNatClampNeg (gi S 4)) x1)) 5 (vp_updL (al (ui S 4 (upd (ai S 4) (Int32.toNatClampNeg (gi S 4)) x1)) 5) (Int32.toNatClampNeg (gi (ui S 4 (upd (ai S 4) (Int32.toNatClampNeg (gi S 4)) x1)) 4)) x2)) 6 (vp_updL (al (ul (ui S 4 (upd (ai S 4) (Int32.toNatClampNeg (gi S 4)) x1)) 5 (vp_updL (al (ui S 4 (upd (ai S 4) (Int32.toNatClampNeg (gi S 4)) x1)) 5) (Int32.toNatClampNeg (gi (ui S 4 (upd (ai S 4) (Int32.toNatClampNeg (gi S 4)) x1)) 4)) x2)) 6) (Int32.toNatClampNeg (gi (ul (ui S 4 (upd (ai S 4) (Int32.toNatClampNeg (gi S 4)) x1)) 5 (vp_updL (al (ui S 4 (upd (ai S 4) (Int32.toNatClampNeg (gi S 4)) x1)) 5) (Int32.toNatClampNeg (gi (ui S 4 (upd (ai S 4) (Int32.toNatClampNeg (gi S 4)) x1)) 4)) x2)) 4)) x4)) 7 (vp_updL (al (ul (ul (ui S 4 (upd (ai S 4) (Int32.toNatClampNeg (gi S 4)) x1)) 5 (vp_updL (al (ui S 4 (upd (ai S 4) (Int32.toNatClampNeg (gi S 4)) x1)) 5) (Int32.toNatClampNeg (gi (ui S 4 (upd (ai S 4) (Int32.toNatClampNeg (gi S 4)) x1)) 4)) x2)) 6 (vp_updL (al (ul (ui S 4 (upd (ai S 4) (Int32.toNatClampNeg (gi S 4)) x1)) 5 (vp_updL (al (ui S 4 (upd (ai S 4) (Int32.toNatClampNeg (gi S 4)) x1)) 5) (Int32.toNatClampNeg (gi (ui S 4 (upd (ai S 4) (Int32.toNatClampNeg (gi S 4)) x1)) 4)) x2)) 6) (Int32.toNatClampNeg (gi (ul (ui S 4 (upd (ai S 4) (Int32.toNatClampNeg (gi S 4)) x1)) 5 (vp_updL (al (ui S 4 (upd (ai S 4) (Int32.toNatClampNeg (gi S 4)) x1)) 5) (Int32.toNatClampNeg (gi (ui S 4 (upd (ai S 4) (Int32.toNatClampNeg (gi S 4)) x1)) 4)) x2)) 4)) x4)) 7) (Int32.toNatClampNeg (gi (ul (ul (ui S 4 (upd (ai S 4) (Int32.toNatClampNeg (gi S 4)) x1)) 5 (vp_updL (al (ui S 4 (upd (ai S 4) (Int32.toNatClampNeg (gi S 4)) x1)) 5) (Int32.toNatClampNeg (gi (ui S 4 (upd (ai S 4) (Int32.toNatClampNeg (gi S 4)) x1)) 4)) x2)) 6 (vp_updL (al (ul (ui S 4 (upd (ai S 4) (Int32.toNatClampNeg (gi S 4)) x1)) 5 (vp_updL (al (ui S 4 (upd (ai S 4) (Int32.toNatClampNeg (gi S 4)) x1)) 5) (Int32.toNatClampNeg (gi (ui S 4 (upd (ai S 4) (Int32.toNatClampNeg (gi S 4)) x1)) 4)) x2)) 6) (Int32.toNatClampNeg (gi (ul (ui S 4 (upd (ai S 4) (Int32.toNatClampNeg (gi S 4)) x1)) 5 (vp_updL (al (ui S 4 (upd (ai S 4) (Int32.toNatClampNeg (gi S 4)) x1)) 5) (Int32.toNatClampNeg (gi (ui S 4 (upd (ai S 4) (Int32.toNatClampNeg (gi S 4)) x1)) 4)) x2)) 4)) x4)) 4)) x6)) 4), .ref 8]) (σ' := ((ul (ul (ul (ui S 4 (upd (ai S 4) (Int32.toNatClampNeg (gi S 4)) x1)) 5 (vp_updL (al (ui S 4 (upd (ai S 4) (Int32.toNatClampNeg (gi S 4)) x1)) 5) (Int32.toNatClampNeg (gi (ui S 4 (upd (ai S 4) (Int32.toNatClampNeg (gi S 4)) x1)) 4)) x2)) 6 (vp_updL (al (ul (ui S 4 (upd (ai S 4) (Int32.toNatClampNeg (gi S 4)) x1)) 5 (vp_updL (al (ui S 4 (upd (ai S 4) (Int32.toNatClampNeg (gi S 4)) x1)) 5) (Int32.toNatClampNeg (gi (ui S 4 (upd (ai S 4) (Int32.toNatClampNeg (gi S 4)) x1)) 4)) x2)) 6) (Int32.toNatClampNeg (gi (ul (ui S 4 (upd (ai S 4) (Int32.toNatClampNeg (gi S 4)) x1)) 5 (vp_updL (al (ui S 4 (upd (ai S 4) (Int32.toNatClampNeg (gi S 4)) x1)) 5) (Int32.toNatClampNeg (gi (ui S 4 (upd (ai S 4) (Int32.toNatClampNeg (gi S 4)) x1)) 4)) x2)) 4)) x4)) 7 (vp_updL (al (ul (ul (ui S 4 (upd (ai S 4) (Int32.toNatClampNeg (gi S 4)) x1)) 5 (vp_updL (al (ui S 4 (upd (ai S 4) (Int32.toNatClampNeg (gi S 4)) x1)) 5) (Int32.toNatClampNeg (gi (ui S 4 (upd (ai S 4) (Int32.toNatClampNeg (gi S 4)) x1)) 4)) x2)) 6 (vp_updL (al (ul (ui S 4 (upd (ai S 4) (Int32.toNatClampNeg (gi S 4)) x1)) 5 (vp_updL (al (ui S 4 (upd (ai S 4) (Int32.toNatClampNeg (gi S 4)) x1)) 5) (Int32.toNatClampNeg (gi (ui S 4 (upd (ai S 4) (Int32.toNatClampNeg (gi S 4)) x1)) 4)) x2)) 6) (Int32.toNatClampNeg (gi (ul (ui S 4 (upd (ai S 4) (Int32.toNatClampNeg (gi S 4)) x1)) 5 (vp_updL (al (ui S 4 (upd (ai S 4) (Int32.toNatClampNeg (gi S 4)) x1)) 5) (Int32.toNatClampNeg (gi (ui S 4 (upd (ai S 4) (Int32.toNatClampNeg (gi S 4)) x1)) 4)) x2)) 4)) x4)) 7) (Int32.toNatClampNeg (gi (ul (ul (ui S 4 (upd (ai S 4) (Int32.toNatClampNeg (gi S 4)) x1)) 5 (vp_updL (al (ui S 4 (upd (ai S 4) (Int32.toNatClampNeg (gi S 4)) x1)) 5) (Int32.toNatClampNeg (gi (ui S 4 (upd (ai S 4) (Int32.toNatClampNeg (gi S 4)) x1)) 4)) x2)) 6 (vp_updL (al (ul (ui S 4 (upd (ai S 4) (Int32.toNatClampNeg (gi S 4)) x1)) 5 (vp_updL (al (ui S 4 (upd (ai S 4) (Int32.toNatClampNeg (gi S 4)) x1)) 5) (Int32.toNatClampNeg (gi (ui S 4 (upd (ai S 4) (Int32.toNatClampNeg (gi S 4)) x1)) 4)) x2)) 6) (Int32.toNatClampNeg (gi (ul (ui S 4 (upd (ai S 4) (Int32.toNatClampNeg (gi S 4)) x1)) 5 (vp_updL (al (ui S 4 (upd (ai S 4) (Int32.toNatClampNeg (gi S 4)) x1)) 5) (Int32.toNatClampNeg (gi (ui S 4 (upd (ai S 4) (Int32.toNatClampNeg (gi S 4)) x1)) 4)) x2)) 4)) x4)) 4)) x6)), M, O)) (rfl) ?_
      obtain ⟨hc5, hF⟩ := ck_i hF
      refine Ex_chk (b := ib (gi (ul (ul (ul (ui S 4 (upd (ai S 4) (Int32.toNatClampNeg (gi S 4)) x1)) 5 (vp_updL (al (ui S 4 (upd (ai S 4) (Int32.toNatClampNeg (gi S 4)) x1)) 5) (Int32.toNatClampNeg (gi (ui S 4 (upd (ai S 4) (Int32.toNatClampNeg (gi S 4)) x1)) 4)) x2)) 6 (vp_updL (al (ul (ui S 4 (upd (ai S 4) (Int32.toNatClampNeg (gi S 4)) x1)) 5 (vp_updL (al (ui S 4 (upd (ai S 4) (Int32.toNatClampNeg (gi S 4)) x1)) 5) (Int32.toNatClampNeg (gi (ui S 4 (upd (ai S 4) (Int32.toNatClampNeg (gi S 4)) x1)) 4)) x2)) 6) (Int32.toNatClampNeg (gi (ul (ui S 4 (upd (ai S 4) (Int32.toNatClampNeg (gi S 4)) x1)) 5 (vp_updL (al (ui S 4 (upd (ai S 4) (Int32.toNatClampNeg (gi S 4)) x1)) 5) (Int32.toNatClampNeg (gi (ui S 4 (upd (ai S 4) (Int32.toNatClampNeg (gi S 4)) x1)) 4)) x2)) 4)) x4)) 7 (vp_updL (al (ul (ul (ui S 4 (upd (ai S 4) (Int32.toNatClampNeg (gi S 4)) x1)) 5 (vp_updL (al (ui S 4 (upd (ai S 4) (Int32.toNatClampNeg (gi S 4)) x1)) 5) (Int32.toNatClampNeg (gi (ui S 4 (upd (ai S 4) (Int32.toNatClampNeg (gi S 4)) x1)) 4)) x2)) 6 (vp_updL (al (ul (ui S 4 (upd (ai S 4) (Int32.toNatClampNeg (gi S 4)) x1)) 5 (vp_updL (al (ui S 4 (upd (ai S 4) (Int32.toNatClampNeg (gi S 4)) x1)) 5) (Int32.toNatClampNeg (gi (ui S 4 (upd (ai S 4) (Int32.toNatClampNeg (gi S 4)) x1)) 4)) x2)) 6) (Int32.toNatClampNeg (gi (ul (ui S 4 (upd (ai S 4) (Int32.toNatClampNeg (gi S 4)) x1)) 5 (vp_updL (al (ui S 4 (upd (ai S 4) (Int32.toNatClampNeg (gi S 4)) x1)) 5) (Int32.toNatClampNeg (gi (ui S 4 (upd (ai S 4) (Int32.toNatClampNeg (gi S 4)) x1)) 4)) x2)) 4)) x4)) 7) (Int32.toNatClampNeg (gi (ul (ul (ui S 4 (upd (ai S 4) (Int32.toNatClampNeg (gi S 4)) x1)) 5 (vp_updL (al (ui S 4 (upd (ai S 4) (Int32.toNatClampNeg (gi S 4)) x1)) 5) (Int32.toNatClampNeg (gi (ui S 4 (upd (ai S 4) (Int32.toNatClampNeg (gi S 4)) x1)) 4)) x2)) 6 (vp_updL (al (ul (ui S 4 (upd (ai S 4) (Int32.toNatClampNeg (gi S 4)) x1)) 5 (vp_updL (al (ui S 4 (upd (ai S 4) (Int32.toNatClampNeg (gi S 4)) x1)) 5) (Int32.toNatClampNeg (gi (ui S 4 (upd (ai S 4) (Int32.toNatClampNeg (gi S 4)) x1)) 4)) x2)) 6) (Int32.toNatClampNeg (gi (ul (ui S 4 (upd (ai S 4) (Int32.toNatClampNeg (gi S 4)) x1)) 5 (vp_updL (al (ui S 4 (upd (ai S 4) (Int32.toNatClampNeg (gi S 4)) x1)) 5) (Int32.toNatClampNeg (gi (ui S 4 (upd (ai S 4) (Int32.toNatClampNeg (gi S 4)) x1)) 4)) x2)) 4)) x4)) 4)) x6)) 4) 8) (pc' := 69) (L' := [some (.ref 3), some (.int x1), some (.long x2), none, some (.long x4), none, some (.long x6), none, some (.long x8), none]) (st' := []) (σ' := ((ul (ul (ul (ul (ui S 4 (upd (ai S 4) (Int32.toNatClampNeg (gi S 4)) x1)) 5 (vp_updL (al (ui S 4 (upd (ai S 4) (Int32.toNatClampNeg (gi S 4)) x1)) 5) (Int32.toNatClampNeg (gi (ui S 4 (upd (ai S 4) (Int32.toNatClampNeg (gi S 4)) x1)) 4)) x2)) 6 (vp_updL (al (ul (ui S 4 (upd (ai S 4) (Int32.toNatClampNeg (gi S 4)) x1)) 5 (vp_updL (al (ui S 4 (upd (ai S 4) (Int32.toNatClampNeg (gi S 4)) x1)) 5) (Int32.toNatClampNeg (gi (ui S 4 (upd (ai S 4) (Int32.toNatClampNeg (gi S 4)) x1)) 4)) x2)) 6) (Int32.toNatClampNeg (gi (ul (ui S 4 (upd (ai S 4) (Int32.toNatClampNeg (gi S 4)) x1)) 5 (vp_updL (al (ui S 4 (upd (ai S 4) (Int32.toNatClampNeg (gi S 4)) x1)) 5) (Int32.toNatClampNeg (gi (ui S 4 (upd (ai S 4) (Int32.toNatClampNeg (gi S 4)) x1)) 4)) x2)) 4)) x4)) 7 (vp_updL (al (ul (ul (ui S 4 (upd (ai S 4) (Int32.toNatClampNeg (gi S 4)) x1)) 5 (vp_updL (al (ui S 4 (upd (ai S 4) (Int32.toNatClampNeg (gi S 4)) x1)) 5) (Int32.toNatClampNeg (gi (ui S 4 (upd (ai S 4) (Int32.toNatClampNeg (gi S 4)) x1)) 4)) x2)) 6 (vp_updL (al (ul (ui S 4 (upd (ai S 4) (Int32.toNatClampNeg (gi S 4)) x1)) 5 (vp_updL (al (ui S 4 (upd (ai S 4) (Int32.toNatClampNeg (gi S 4)) x1)) 5) (Int32.toNatClampNeg (gi (ui S 4 (upd (ai S 4) (Int32.toNatClampNeg (gi S 4)) x1)) 4)) x2)) 6) (Int32.toNatClampNeg (gi (ul (ui S 4 (upd (ai S 4) (Int32.toNatClampNeg (gi S 4)) x1)) 5 (vp_updL (al (ui S 4 (upd (ai S 4) (Int32.toNatClampNeg (gi S 4)) x1)) 5) (Int32.toNatClampNeg (gi (ui S 4 (upd (ai S 4) (Int32.toNatClampNeg (gi S 4)) x1)) 4)) x2)) 4)) x4)) 7) (Int32.toNatClampNeg (gi (ul (ul (ui S 4 (upd (ai S 4) (Int32.toNatClampNeg (gi S 4)) x1)) 5 (vp_updL (al (ui S 4 (upd (ai S 4) (Int32.toNatClampNeg (gi S 4)) x1)) 5) (Int32.toNatClampNeg (gi (ui S 4 (upd (ai S 4) (Int32.toNatClampNeg (gi S 4)) x1)) 4)) x2)) 6 (vp_updL (al (ul (ui S 4 (upd (ai S 4) (Int32.toNatClampNeg (gi S 4)) x1)) 5 (vp_updL (al (ui S 4 (upd (ai S 4) (Int32.toNatClampNeg (gi S 4)) x1)) 5) (Int32.toNatClampNeg (gi (ui S 4 (upd (ai S 4) (Int32.toNatClampNeg (gi S 4)) x1)) 4)) x2)) 6) (Int32.toNatClampNeg (gi (ul (ui S 4 (upd (ai S 4) (Int32.toNatClampNeg (gi S 4)) x1)) 5 (vp_updL (al (ui S 4 (upd (ai S 4) (Int32.toNatClampNeg (gi S 4)) x1)) 5) (Int32.toNatClampNeg (gi (ui S 4 (upd (ai S 4) (Int32.toNatClampNeg (gi S 4)) x1)) 4)) x2)) 4)) x4)) 4)) x6)) 8 (vp_updL (al (ul (ul (ul (ui S 4 (upd (ai S 4) (Int32.toNatClampNeg (gi S 4)) x1)) 5 (vp_updL (al (ui S 4 (upd (ai S 4) (Int32.toNatClampNeg (gi S 4)) x1)) 5) (Int32.toNatClampNeg (gi (ui S 4 (upd (ai S 4) (Int32.toNatClampNeg (gi S 4)) x1)) 4)) x2)) 6 (vp_updL (al (ul (ui S 4 (upd (ai S 4) (Int32.toNatClampNeg (gi S 4)) x1)) 5 (vp_updL (al (ui S 4 (upd (ai S 4) (Int32.toNatClampNeg (gi S 4)) x1)) 5) (Int32.toNatClampNeg (gi (ui S 4 (upd (ai S 4) (Int32.toNatClampNeg (gi S 4)) x1)) 4)) x2)) 6) (Int32.toNatClampNeg (gi (ul (ui S 4 (upd (ai S 4) (Int32.toNatClampNeg (gi S 4)) x1)) 5 (vp_updL (al (ui S 4 (upd (ai S 4) (Int32.toNatClampNeg (gi S 4)) x1)) 5) (Int32.toNatClampNeg (gi (ui S 4 (upd (ai S 4) (Int32.toNatClampNeg (gi S 4)) x1)) 4)) x2)) 4)) x4)) 7 (vp_updL (al (ul (ul (ui S 4 (upd (ai S 4) (Int32.toNatClampNeg (gi S 4)) x1)) 5 (vp_updL (al (ui S 4 (upd (ai S 4) (Int32.toNatClampNeg (gi S 4)) x1)) 5) (Int32.toNatClampNeg (gi (ui S 4 (upd (ai S 4) (Int32.toNatClampNeg (gi S 4)) x1)) 4)) x2)) 6 (vp_updL (al (ul (ui S 4 (upd (ai S 4) (Int32.toNatClampNeg (gi S 4)) x1)) 5 (vp_updL (al (ui S 4 (upd (ai S 4) (Int32.toNatClampNeg (gi S 4)) x1)) 5) (Int32.toNatClampNeg (gi (ui S 4 (upd (ai S 4) (Int32.toNatClampNeg (gi S 4)) x1)) 4)) x2)) 6) (Int32.toNatClampNeg (gi (ul (ui S 4 (upd (ai S 4) (Int32.toNatClampNeg (gi S 4)) x1)) 5 (vp_updL (al (ui S 4 (upd (ai S 4) (Int32.toNatClampNeg (gi S 4)) x1)) 5) (Int32.toNatClampNeg (gi (ui S 4 (upd (ai S 4) (Int32.toNatClampNeg (gi S 4)) x1)) 4)) x2)) 4)) x4)) 7) (Int32.toNatClampNeg (gi (ul (ul (ui S 4 (upd (ai S 4) (Int32.toNatClampNeg (gi S 4)) x1)) 5 (vp_updL (al (ui S 4 (upd (ai S 4) (Int32.toNatClampNeg (gi S 4)) x1)) 5) (Int32.toNatClampNeg (gi (ui S 4 (upd (ai S 4) (Int32.toNatClampNeg (gi S 4)) x1)) 4)) x2)) 6 (vp_updL (al (ul (ui S 4 (upd (ai S 4) (Int32.toNatClampNeg (gi S 4)) x1)) 5 (vp_updL (al (ui S 4 (upd (ai S 4) (Int32.toNatClampNeg (gi S 4)) x1)) 5) (Int32.toNatClampNeg (gi (ui S 4 (upd (ai S 4) (Int32.toNatClampNeg (gi S 4)) x1)) 4)) x2)) 6) (Int32.toNatClampNeg (gi (ul (ui S 4 (upd (ai S 4) (Int32.toNatClampNeg (gi S 4)) x1)) 5 (vp_updL (al (ui S 4 (upd (ai S 4) (Int32.toNatClampNeg (gi S 4)) x1)) 5) (Int32.toNatClampNeg (gi (ui S 4 (upd (ai S 4) (Int32.toNatClampNeg (gi S 4)) x1)) 4)) x2)) 4)) x4)) 4)) x6)) 8) (Int32.toNatClampNeg (gi (ul (ul (ul (ui S 4 (upd (ai S 4) (Int32.toNatClampNeg (gi S 4)) x1)) 5 (vp_updL (al (ui S 4 (upd (ai S 4) (Int32.toNatClampNeg (gi S 4)) x1)) 5) (Int32.toNatClampNeg (gi (ui S 4 (upd (ai S 4) (Int32.toNatClampNeg (gi S 4)) x1)) 4)) x2)) 6 (vp_updL (al (ul (ui S 4 (upd (ai S 4) (Int32.toNatClampNeg (gi S 4)) x1)) 5 (vp_updL (al (ui S 4 (upd (ai S 4) (Int32.toNatClampNeg (gi S 4)) x1)) 5) (Int32.toNatClampNeg (gi (ui S 4 (upd (ai S 4) (Int32.toNatClampNeg (gi S 4)) x1)) 4)) x2)) 6) (Int32.toNatClampNeg (gi (ul (ui S 4 (upd (ai S 4) (Int32.toNatClampNeg (gi S 4)) x1)) 5 (vp_updL (al (ui S 4 (upd (ai S 4) (Int32.toNatClampNeg (gi S 4)) x1)) 5) (Int32.toNatClampNeg (gi (ui S 4 (upd (ai S 4) (Int32.toNatClampNeg (gi S 4)) x1)) 4)) x2)) 4)) x4)) 7 (vp_updL (al (ul (ul (ui S 4 (upd (ai S 4) (Int32.toNatClampNeg (gi S 4)) x1)) 5 (vp_updL (al (ui S 4 (upd (ai S 4) (Int32.toNatClampNeg (gi S 4)) x1)) 5) (Int32.toNatClampNeg (gi (ui S 4 (upd (ai S 4) (Int32.toNatClampNeg (gi S 4)) x1)) 4)) x2)) 6 (vp_updL (al (ul (ui S 4 (upd (ai S 4) (Int32.toNatClampNeg (gi S 4)) x1)) 5 (vp_updL (al (ui S 4 (upd (ai S 4) (Int32.toNatClampNeg (gi S 4)) x1)) 5) (Int32.toNatClampNeg (gi (ui S 4 (upd (ai S 4) (Int32.toNatClampNeg (gi S 4)) x1)) 4)) x2)) 6) (Int32.toNatClampNeg (gi (ul (ui S 4 (upd (ai S 4) (Int32.toNatClampNeg (gi S 4)) x1)) 5 (vp_updL (al (ui S 4 (upd (ai S 4) (Int32.toNatClampNeg (gi S 4)) x1)) 5) (Int32.toNatClampNeg (gi (ui S 4 (upd (ai S 4) (Int32.toNatClampNeg (gi S 4)) x1)) 4)) x2)) 4)) x4)) 7) (Int32.toNatClampNeg (gi (ul (ul (ui S 4 (upd (ai S 4) (Int32.toNatClampNeg (gi S 4)) x1)) 5 (vp_updL (al (ui S 4 (upd (ai S 4) (Int32.toNatClampNeg (gi S 4)) x1)) 5) (Int32.toNatClampNeg (gi (ui S 4 (upd (ai S 4) (Int32.toNatClampNeg (gi S 4)) x1)) 4)) x2)) 6 (vp_updL (al (ul (ui S 4 (upd (ai S 4) (Int32.toNatClampNeg (gi S 4)) x1)) 5 (vp_updL (al (ui S 4 (upd (ai S 4) (Int32.toNatClampNeg (gi S 4)) x1)) 5) (Int32.toNatClampNeg (gi (ui S 4 (upd (ai S 4) (Int32.toNatClampNeg (gi S 4)) x1)) 4)) x2)) 6) (Int32.toNatClampNeg (gi (ul (ui S 4 (upd (ai S 4) (Int32.toNatClampNeg (gi S 4)) x1)) 5 (vp_updL (al (ui S 4 (upd (ai S 4) (Int32.toNatClampNeg (gi S 4)) x1)) 5) (Int32.toNatClampNeg (gi (ui S 4 (upd (ai S 4) (Int32.toNatClampNeg (gi S 4)) x1)) 4)) x2)) 4)) x4)) 4)) x6)) 4)) x8)), M, O)) rfl hc5 ?_
      refine Ex_go 6 (pc' := 79) (L' := [some (.ref 3), some (.int x1), some (.long x2), none, some (.long x4), none, some (.long x6), none, some (.long x8), none]) (st' := []) (σ' := ((si (ul (ul (ul (ul (ui S 4 (upd (ai S 4) (Int32.toNatClampNeg (gi S 4)) x1)) 5 (vp_updL (al (ui S 4 (upd (ai S 4) (Int32.toNatClampNeg (gi S 4)) x1)) 5) (Int32.toNatClampNeg (gi (ui S 4 (upd (ai S 4) (Int32.toNatClampNeg (gi S 4)) x1)) 4)) x2)) 6 (vp_updL (al (ul (ui S 4 (upd (ai S 4) (Int32.toNatClampNeg (gi S 4)) x1)) 5 (vp_updL (al (ui S 4 (upd (ai S 4) (Int32.toNatClampNeg (gi S 4)) x1)) 5) (Int32.toNatClampNeg (gi (ui S 4 (upd (ai S 4) (Int32.toNatClampNeg (gi S 4)) x1)) 4)) x2)) 6) (Int32.toNatClampNeg (gi (ul (ui S 4 (upd (ai S 4) (Int32.toNatClampNeg (gi S 4)) x1)) 5 (vp_updL (al (ui S 4 (upd (ai S 4) (Int32.toNatClampNeg (gi S 4)) x1)) 5) (Int32.toNatClampNeg (gi (ui S 4 (upd (ai S 4) (Int32.toNatClampNeg (gi S 4)) x1)) 4)) x2)) 4)) x4)) 7 (vp_updL (al (ul (ul (ui S 4 (upd (ai S 4) (Int32.toNatClampNeg (gi S 4)) x1)) 5 (vp_updL (al (ui S 4 (upd (ai S 4) (Int32.toNatClampNeg (gi S 4)) x1)) 5) (Int32.toNatClampNeg (gi (ui S 4 (upd (ai S 4) (Int32.toNatClampNeg (gi S 4)) x1)) 4)) x2)) 6 (vp_updL (al (ul (ui S 4 (upd (ai S 4) (Int32.toNatClampNeg (gi S 4)) x1)) 5 (vp_updL (al (ui S 4 (upd (ai S 4) (Int32.toNatClampNeg (gi S 4)) x1)) 5) (Int32.toNatClampNeg (gi (ui S 4 (upd (ai S 4) (Int32.toNatClampNeg (gi S 4)) x1)) 4)) x2)) 6) (Int32.toNatClampNeg (gi (ul (ui S 4 (upd (ai S 4) (Int32.toNatClampNeg (gi S 4)) x1)) 5 (vp_updL (al (ui S 4 (upd (ai S 4) (Int32.toNatClampNeg (gi S 4)) x1)) 5) (Int32.toNatClampNeg (gi (ui S 4 (upd (ai S 4) (Int32.toNatClampNeg (gi S 4)) x1)) 4)) x2)) 4)) x4)) 7) (Int32.toNatClampNeg (gi (ul (ul (ui S 4 (upd (ai S 4) (Int32.toNatClampNeg (gi S 4)) x1)) 5 (vp_updL (al (ui S 4 (upd (ai S 4) (Int32.toNatClampNeg (gi S 4)) x1)) 5) (Int32.toNatClampNeg (gi (ui S 4 (upd (ai S 4) (Int32.toNatClampNeg (gi S 4)) x1)) 4)) x2)) 6 (vp_updL (al (ul (ui S 4 (upd (ai S 4) (Int32.toNatClampNeg (gi S 4)) x1)) 5 (vp_updL (al (ui S 4 (upd (ai S 4) (Int32.toNatClampNeg (gi S 4)) x1)) 5) (Int32.toNatClampNeg (gi (ui S 4 (upd (ai S 4) (Int32.toNatClampNeg (gi S 4)) x1)) 4)) x2)) 6) (Int32.toNatClampNeg (gi (ul (ui S 4 (upd (ai S 4) (Int32.toNatClampNeg (gi S 4)) x1)) 5 (vp_updL (al (ui S 4 (upd (ai S 4) (Int32.toNatClampNeg (gi S 4)) x1)) 5) (Int32.toNatClampNeg (gi (ui S 4 (upd (ai S 4) (Int32.toNatClampNeg (gi S 4)) x1)) 4)) x2)) 4)) x4)) 4)) x6)) 8 (vp_updL (al (ul (ul (ul (ui S 4 (upd (ai S 4) (Int32.toNatClampNeg (gi S 4)) x1)) 5 (vp_updL (al (ui S 4 (upd (ai S 4) (Int32.toNatClampNeg (gi S 4)) x1)) 5) (Int32.toNatClampNeg (gi (ui S 4 (upd (ai S 4) (Int32.toNatClampNeg (gi S 4)) x1)) 4)) x2)) 6 (vp_updL (al (ul (ui S 4 (upd (ai S 4) (Int32.toNatClampNeg (gi S 4)) x1)) 5 (vp_updL (al (ui S 4 (upd (ai S 4) (Int32.toNatClampNeg (gi S 4)) x1)) 5) (Int32.toNatClampNeg (gi (ui S 4 (upd (ai S 4) (Int32.toNatClampNeg (gi S 4)) x1)) 4)) x2)) 6) (Int32.toNatClampNeg (gi (ul (ui S 4 (upd (ai S 4) (Int32.toNatClampNeg (gi S 4)) x1)) 5 (vp_updL (al (ui S 4 (upd (ai S 4) (Int32.toNatClampNeg (gi S 4)) x1)) 5) (Int32.toNatClampNeg (gi (ui S 4 (upd (ai S 4) (Int32.toNatClampNeg (gi S 4)) x1)) 4)) x2)) 4)) x4)) 7 (vp_updL (al (ul (ul (ui S 4 (upd (ai S 4) (Int32.toNatClampNeg (gi S 4)) x1)) 5 (vp_updL (al (ui S 4 (upd (ai S 4) (Int32.toNatClampNeg (gi S 4)) x1)) 5) (Int32.toNatClampNeg (gi (ui S 4 (upd (ai S 4) (Int32.toNatClampNeg (gi S 4)) x1)) 4)) x2)) 6 (vp_updL (al (ul (ui S 4 (upd (ai S 4) (Int32.toNatClampNeg (gi S 4)) x1)) 5 (vp_updL (al (ui S 4 (upd (ai S 4) (Int32.toNatClampNeg (gi S 4)) x1)) 5) (Int32.toNatClampNeg (gi (ui S 4 (upd (ai S 4) (Int32.toNatClampNeg (gi S 4)) x1)) 4)) x2)) 6) (Int32.toNatClampNeg (gi (ul (ui S 4 (upd (ai S 4) (Int32.toNatClampNeg (gi S 4)) x1)) 5 (vp_updL (al (ui S 4 (upd (ai S 4) (Int32.toNatClampNeg (gi S 4)) x1)) 5) (Int32.toNatClampNeg (gi (ui S 4 (upd (ai S 4) (Int32.toNatClampNeg (gi S 4)) x1)) 4)) x2)) 4)) x4)) 7) (Int32.toNatClampNeg (gi (ul (ul (ui S 4 (upd (ai S 4) (Int32.toNatClampNeg (gi S 4)) x1)) 5 (vp_updL (al (ui S 4 (upd (ai S 4) (Int32.toNatClampNeg (gi S 4)) x1)) 5) (Int32.toNatClampNeg (gi (ui S 4 (upd (ai S 4) (Int32.toNatClampNeg (gi S 4)) x1)) 4)) x2)) 6 (vp_updL (al (ul (ui S 4 (upd (ai S 4) (Int32.toNatClampNeg (gi S 4)) x1)) 5 (vp_updL (al (ui S 4 (upd (ai S 4) (Int32.toNatClampNeg (gi S 4)) x1)) 5) (Int32.toNatClampNeg (gi (ui S 4 (upd (ai S 4) (Int32.toNatClampNeg (gi S 4)) x1)) 4)) x2)) 6) (Int32.toNatClampNeg (gi (ul (ui S 4 (upd (ai S 4) (Int32.toNatClampNeg (gi S 4)) x1)) 5 (vp_updL (al (ui S 4 (upd (ai S 4) (Int32.toNatClampNeg (gi S 4)) x1)) 5) (Int32.toNatClampNeg (gi (ui S 4 (upd (ai S 4) (Int32.toNatClampNeg (gi S 4)) x1)) 4)) x2)) 4)) x4)) 4)) x6)) 8) (Int32.toNatClampNeg (gi (ul (ul (ul (ui S 4 (upd (ai S 4) (Int32.toNatClampNeg (gi S 4)) x1)) 5 (vp_updL (al (ui S 4 (upd (ai S 4) (Int32.toNatClampNeg (gi S 4)) x1)) 5) (Int32.toNatClampNeg (gi (ui S 4 (upd (ai S 4) (Int32.toNatClampNeg (gi S 4)) x1)) 4)) x2)) 6 (vp_updL (al (ul (ui S 4 (upd (ai S 4) (Int32.toNatClampNeg (gi S 4)) x1)) 5 (vp_updL (al (ui S 4 (upd (ai S 4) (Int32.toNatClampNeg (gi S 4)) x1)) 5) (Int32.toNatClampNeg (gi (ui S 4 (upd (ai S 4) (Int32.toNatClampNeg (gi S 4)) x1)) 4)) x2)) 6) (Int32.toNatClampNeg (gi (ul (ui S 4 (upd (ai S 4) (Int32.toNatClampNeg (gi S 4)) x1)) 5 (vp_updL (al (ui S 4 (upd (ai S 4) (Int32.toNatClampNeg (gi S 4)) x1)) 5) (Int32.toNatClampNeg (gi (ui S 4 (upd (ai S 4) (Int32.toNatClampNeg (gi S 4)) x1)) 4)) x2)) 4)) x4)) 7 (vp_updL (al (ul (ul (ui S 4 (upd (ai S 4) (Int32.toNatClampNeg (gi S 4)) x1)) 5 (vp_updL (al (ui S 4 (upd (ai S 4) (Int32.toNatClampNeg (gi S 4)) x1)) 5) (Int32.toNatClampNeg (gi (ui S 4 (upd (ai S 4) (Int32.toNatClampNeg (gi S 4)) x1)) 4)) x2)) 6 (vp_updL (al (ul (ui S 4 (upd (ai S 4) (Int32.toNatClampNeg (gi S 4)) x1)) 5 (vp_updL (al (ui S 4 (upd (ai S 4) (Int32.toNatClampNeg (gi S 4)) x1)) 5) (Int32.toNatClampNeg (gi (ui S 4 (upd (ai S 4) (Int32.toNatClampNeg (gi S 4)) x1)) 4)) x2)) 6) (Int32.toNatClampNeg (gi (ul (ui S 4 (upd (ai S 4) (Int32.toNatClampNeg (gi S 4)) x1)) 5 (vp_updL (al (ui S 4 (upd (ai S 4) (Int32.toNatClampNeg (gi S 4)) x1)) 5) (Int32.toNatClampNeg (gi (ui S 4 (upd (ai S 4) (Int32.toNatClampNeg (gi S 4)) x1)) 4)) x2)) 4)) x4)) 7) (Int32.toNatClampNeg (gi (ul (ul (ui S 4 (upd (ai S 4) (Int32.toNatClampNeg (gi S 4)) x1)) 5 (vp_updL (al (ui S 4 (upd (ai S 4) (Int32.toNatClampNeg (gi S 4)) x1)) 5) (Int32.toNatClampNeg (gi (ui S 4 (upd (ai S 4) (Int32.toNatClampNeg (gi S 4)) x1)) 4)) x2)) 6 (vp_updL (al (ul (ui S 4 (upd (ai S 4) (Int32.toNatClampNeg (gi S 4)) x1)) 5 (vp_updL (al (ui S 4 (upd (ai S 4) (Int32.toNatClampNeg (gi S 4)) x1)) 5) (Int32.toNatClampNeg (gi (ui S 4 (upd (ai S 4) (Int32.toNatClampNeg (gi S 4)) x1)) 4)) x2)) 6) (Int32.toNatClampNeg (gi (ul (ui S 4 (upd (ai S 4) (Int32.toNatClampNeg (gi S 4)) x1)) 5 (vp_updL (al (ui S 4 (upd (ai S 4) (Int32.toNatClampNeg (gi S 4)) x1)) 5) (Int32.toNatClampNeg (gi (ui S 4 (upd (ai S 4) (Int32.toNatClampNeg (gi S 4)) x1)) 4)) x2)) 4)) x4)) 4)) x6)) 4)) x8)) 4 ((gi (ul (ul (ul (ul (ui S 4 (upd (ai S 4) (Int32.toNatClampNeg (gi S 4)) x1)) 5 (vp_updL (al (ui S 4 (upd (ai S 4) (Int32.toNatClampNeg (gi S 4)) x1)) 5) (Int32.toNatClampNeg (gi (ui S 4 (upd (ai S 4) (Int32.toNatClampNeg (gi S 4)) x1)) 4)) x2)) 6 (vp_updL (al (ul (ui S 4 (upd (ai S 4) (Int32.toNatClampNeg (gi S 4)) x1)) 5 (vp_updL (al (ui S 4 (upd (ai S 4) (Int32.toNatClampNeg (gi S 4)) x1)) 5) (Int32.toNatClampNeg (gi (ui S 4 (upd (ai S 4) (Int32.toNatClampNeg (gi S 4)) x1)) 4)) x2)) 6) (Int32.toNatClampNeg (gi (ul (ui S 4 (upd (ai S 4) (Int32.toNatClampNeg (gi S 4)) x1)) 5 (vp_updL (al (ui S 4 (upd (ai S 4) (Int32.toNatClampNeg (gi S 4)) x1)) 5) (Int32.toNatClampNeg (gi (ui S 4 (upd (ai S 4) (Int32.toNatClampNeg (gi S 4)) x1)) 4)) x2)) 4)) x4)) 7 (vp_updL (al (ul (ul (ui S 4 (upd (ai S 4) (Int32.toNatClampNeg (gi S 4)) x1)) 5 (vp_updL (al (ui S 4 (upd (ai S 4) (Int32.toNatClampNeg (gi S 4)) x1)) 5) (Int32.toNatClampNeg (gi (ui S 4 (upd (ai S 4) (Int32.toNatClampNeg (gi S 4)) x1)) 4)) x2)) 6 (vp_updL (al (ul (ui S 4 (upd (ai S 4) (Int32.toNatClampNeg (gi S 4)) x1)) 5 (vp_updL (al (ui S 4 (upd (ai S 4) (Int32.toNatClampNeg (gi S 4)) x1)) 5) (Int32.toNatClampNeg (gi (ui S 4 (upd (ai S 4) (Int32.toNatClampNeg (gi S 4)) x1)) 4)) x2)) 6) (Int32.toNatClampNeg (gi (ul (ui S 4 (upd (ai S 4) (Int32.toNatClampNeg (gi S 4)) x1)) 5 (vp_updL (al (ui S 4 (upd (ai S 4) (Int32.toNatClampNeg (gi S 4)) x1)) 5) (Int32.toNatClampNeg (gi (ui S 4 (upd (ai S 4) (Int32.toNatClampNeg (gi S 4)) x1)) 4)) x2)) 4)) x4)) 7) (Int32.toNatClampNeg (gi (ul (ul (ui S 4 (upd (ai S 4) (Int32.toNatClampNeg (gi S 4)) x1)) 5 (vp_updL (al (ui S 4 (upd (ai S 4) (Int32.toNatClampNeg (gi S 4)) x1)) 5) (Int32.toNatClampNeg (gi (ui S 4 (upd (ai S 4) (Int32.toNatClampNeg (gi S 4)) x1)) 4)) x2)) 6 (vp_updL (al (ul (ui S 4 (upd (ai S 4) (Int32.toNatClampNeg (gi S 4)) x1)) 5 (vp_updL (al (ui S 4 (upd (ai S 4) (Int32.toNatClampNeg (gi S 4)) x1)) 5) (Int32.toNatClampNeg (gi (ui S 4 (upd (ai S 4) (Int32.toNatClampNeg (gi S 4)) x1)) 4)) x2)) 6) (Int32.toNatClampNeg (gi (ul (ui S 4 (upd (ai S 4) (Int32.toNatClampNeg (gi S 4)) x1)) 5 (vp_updL (al (ui S 4 (upd (ai S 4) (Int32.toNatClampNeg (gi S 4)) x1)) 5) (Int32.toNatClampNeg (gi (ui S 4 (upd (ai S 4) (Int32.toNatClampNeg (gi S 4)) x1)) 4)) x2)) 4)) x4)) 4)) x6)) 8 (vp_updL (al (ul (ul (ul (ui S 4 (upd (ai S 4) (Int32.toNatClampNeg (gi S 4)) x1)) 5 (vp_updL (al (ui S 4 (upd (ai S 4) (Int32.toNatClampNeg (gi S 4)) x1)) 5) (Int32.toNatClampNeg (gi (ui S 4 (upd (ai S 4) (Int32.toNatClampNeg (gi S 4)) x1)) 4)) x2)) 6 (vp_updL (al (ul (ui S 4 (upd (ai S 4) (Int32.toNatClampNeg (gi S 4)) x1)) 5 (vp_updL (al (ui S 4 (upd (ai S 4) (Int32.toNatClampNeg (gi S 4)) x1)) 5) (Int32.toNatClampNeg (gi (ui S 4 (upd (ai S 4) (Int32.toNatClampNeg (gi S 4)) x1)) 4)) x2)) 6) (Int32.toNatClampNeg (gi (ul (ui S 4 (upd (ai S 4) (Int32.toNatClampNeg (gi S 4)) x1)) 5 (vp_updL (al (ui S 4 (upd (ai S 4) (Int32.toNatClampNeg (gi S 4)) x1)) 5) (Int32.toNatClampNeg (gi (ui S 4 (upd (ai S 4) (Int32.toNatClampNeg (gi S 4)) x1)) 4)) x2)) 4)) x4)) 7 (vp_updL (al (ul (ul (ui S 4 (upd (ai S 4) (Int32.toNatClampNeg (gi S 4)) x1)) 5 (vp_updL (al (ui S 4 (upd (ai S 4) (Int32.toNatClampNeg (gi S 4)) x1)) 5) (Int32.toNatClampNeg (gi (ui S 4 (upd (ai S 4) (Int32.toNatClampNeg (gi S 4)) x1)) 4)) x2)) 6 (vp_updL (al (ul (ui S 4 (upd (ai S 4) (Int32.toNatClampNeg (gi S 4)) x1)) 5 (vp_updL (al (ui S 4 (upd (ai S 4) (Int32.toNatClampNeg (gi S 4)) x1)) 5) (Int32.toNatClampNeg (gi (ui S 4 (upd (ai S 4) (Int32.toNatClampNeg (gi S 4)) x1)) 4)) x2)) 6) (Int32.toNatClampNeg (gi (ul (ui S 4 (upd (ai S 4) (Int32.toNatClampNeg (gi S 4)) x1)) 5 (vp_updL (al (ui S 4 (upd (ai S 4) (Int32.toNatClampNeg (gi S 4)) x1)) 5) (Int32.toNatClampNeg (gi (ui S 4 (upd (ai S 4) (Int32.toNatClampNeg (gi S 4)) x1)) 4)) x2)) 4)) x4)) 7) (Int32.toNatClampNeg (gi (ul (ul (ui S 4 (upd (ai S 4) (Int32.toNatClampNeg (gi S 4)) x1)) 5 (vp_updL (al (ui S 4 (upd (ai S 4) (Int32.toNatClampNeg (gi S 4)) x1)) 5) (Int32.toNatClampNeg (gi (ui S 4 (upd (ai S 4) (Int32.toNatClampNeg (gi S 4)) x1)) 4)) x2)) 6 (vp_updL (al (ul (ui S 4 (upd (ai S 4) (Int32.toNatClampNeg (gi S 4)) x1)) 5 (vp_updL (al (ui S 4 (upd (ai S 4) (Int32.toNatClampNeg (gi S 4)) x1)) 5) (Int32.toNatClampNeg (gi (ui S 4 (upd (ai S 4) (Int32.toNatClampNeg (gi S 4)) x1)) 4)) x2)) 6) (Int32.toNatClampNeg (gi (ul (ui S 4 (upd (ai S 4) (Int32.toNatClampNeg (gi S 4)) x1)) 5 (vp_updL (al (ui S 4 (upd (ai S 4) (Int32.toNatClampNeg (gi S 4)) x1)) 5) (Int32.toNatClampNeg (gi (ui S 4 (upd (ai S 4) (Int32.toNatClampNeg (gi S 4)) x1)) 4)) x2)) 4)) x4)) 4)) x6)) 8) (Int32.toNatClampNeg (gi (ul (ul (ul (ui S 4 (upd (ai S 4) (Int32.toNatClampNeg (gi S 4)) x1)) 5 (vp_updL (al (ui S 4 (upd (ai S 4) (Int32.toNatClampNeg (gi S 4)) x1)) 5) (Int32.toNatClampNeg (gi (ui S 4 (upd (ai S 4) (Int32.toNatClampNeg (gi S 4)) x1)) 4)) x2)) 6 (vp_updL (al (ul (ui S 4 (upd (ai S 4) (Int32.toNatClampNeg (gi S 4)) x1)) 5 (vp_updL (al (ui S 4 (upd (ai S 4) (Int32.toNatClampNeg (gi S 4)) x1)) 5) (Int32.toNatClampNeg (gi (ui S 4 (upd (ai S 4) (Int32.toNatClampNeg (gi S 4)) x1)) 4)) x2)) 6) (Int32.toNatClampNeg (gi (ul (ui S 4 (upd (ai S 4) (Int32.toNatClampNeg (gi S 4)) x1)) 5 (vp_updL (al (ui S 4 (upd (ai S 4) (Int32.toNatClampNeg (gi S 4)) x1)) 5) (Int32.toNatClampNeg (gi (ui S 4 (upd (ai S 4) (Int32.toNatClampNeg (gi S 4)) x1)) 4)) x2)) 4)) x4)) 7 (vp_updL (al (ul (ul (ui S 4 (upd (ai S 4) (Int32.toNatClampNeg (gi S 4)) x1)) 5 (vp_updL (al (ui S 4 (upd (ai S 4) (Int32.toNatClampNeg (gi S 4)) x1)) 5) (Int32.toNatClampNeg (gi (ui S 4 (upd (ai S 4) (Int32.toNatClampNeg (gi S 4)) x1)) 4)) x2)) 6 (vp_updL (al (ul (ui S 4 (upd (ai S 4) (Int32.toNatClampNeg (gi S 4)) x1)) 5 (vp_updL (al (ui S 4 (upd (ai S 4) (Int32.toNatClampNeg (gi S 4)) x1)) 5) (Int32.toNatClampNeg (gi (ui S 4 (upd (ai S 4) (Int32.toNatClampNeg (gi S 4)) x1)) 4)) x2)) 6) (Int32.toNatClampNeg (gi (ul (ui S 4 (upd (ai S 4) (Int32.toNatClampNeg (gi S 4)) x1)) 5 (vp_updL (al (ui S 4 (upd (ai S 4) (Int32.toNatClampNeg (gi S 4)) x1)) 5) (Int32.toNatClampNeg (gi (ui S 4 (upd (ai S 4) (Int32.toNatClampNeg (gi S 4)) x1)) 4)) x2)) 4)) x4)) 7) (Int32.toNatClampNeg (gi (ul (ul (ui S 4 (upd (ai S 4) (Int32.toNatClampNeg (gi S 4)) x1)) 5 (vp_updL (al (ui S 4 (upd (ai S 4) (Int32.toNatClampNeg (gi S 4)) x1)) 5) (Int32.toNatClampNeg (gi (ui S 4 (upd (ai S 4) (Int32.toNatClampNeg (gi S 4)) x1)) 4)) x2)) 6 (vp_updL (al (ul (ui S 4 (upd (ai S 4) (Int32.toNatClampNeg (gi S 4)) x1)) 5 (vp_updL (al (ui S 4 (upd (ai S 4) (Int32.toNatClampNeg (gi S 4)) x1)) 5) (Int32.toNatClampNeg (gi (ui S 4 (upd (ai S 4) (Int32.toNatClampNeg (gi S 4)) x1)) 4)) x2)) 6) (Int32.toNatClampNeg (gi (ul (ui S 4 (upd (ai S 4) (Int32.toNatClampNeg (gi S 4)) x1)) 5 (vp_updL (al (ui S 4 (upd (ai S 4) (Int32.toNatClampNeg (gi S 4)) x1)) 5) (Int32.toNatClampNeg (gi (ui S 4 (upd (ai S 4) (Int32.toNatClampNeg (gi S 4)) x1)) 4)) x2)) 4)) x4)) 4)) x6)) 4)) x8)) 4) + (1 : Int32))), M, O)) (rfl) ?_
      cases hF
      exact Ex_fin rfl
