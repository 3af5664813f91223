/-! ===== what the methods do, as functions, and that the small machine does it (printed by wip/whole/gen4.py) ===== -/
def F_Po_yearsLeft_6 : Nat → Int32 → Int64 → Int32 → Sto → Option (Int32 × Sto)
  | 0, _, _, _, _ => none
  | n + 1, x4, x5, x7, S => if (300 : Int32) ≤ x7 then if x5 = (0 : Int64) then some ((300 : Int32), S) else some ((-1 : Int32), S) else if x5 = (0 : Int64) then some (x7, S) else b2 (F_Po_behind x5 (x4 + x7) S) (fun r1 S3 => F_Po_yearsLeft_6 n x4 r1 (x7 + (1 : Int32)) S3)
set_option maxRecDepth 100000 in
theorem X_Po_yearsLeft_6 {nL : Nat} {xs : Nat → Int32} {M : Sto} {O : Sto} {d : Nat} (hd : 4 ≤ d) : ∀ n : Nat, ∀ (x4 : Int32) (x5 : Int64) (x7 : Int32) (S : Sto) (r : Int32) (S' : Sto), F_Po_yearsLeft_6 n x4 x5 x7 S = some (r, S') → EX nL xs 0 MI_251 d 6 [some (.ref 43), some (.ref 12), none, none, some (.int x4), some (.long x5), none, some (.int x7)] [] (S, M, O) (.inl (some (.int r))) (S', M, O) := by
  intro n
  induction n with
  | zero => intro x4 x5 x7 S r S' hF; cases hF
  | succ n ih =>
  intro x4 x5 x7 S r S' hF
  unfold F_Po_yearsLeft_6 at hF
  refine Ex_go 3 (pc' := if (300 : Int32) ≤ x7 then 44 else 14) (L' := [some (.ref 43), some (.ref 12), none, none, some (.int x4), some (.long x5), none, some (.int x7)]) (st' := []) (σ' := (S, M, O)) (rfl) ?_
  refine Ex_br (fun hc => ?_) (fun hc => ?_)
  · rw [if_pos hc] at hF
    refine Ex_go 4 (pc' := if ¬ (lg_cmp x5 (0 : Int64)) = 0 then 57 else 51) (L' := [some (.ref 43), some (.ref 12), none, none, some (.int x4), some (.long x5), none, some (.int x7)]) (st' := []) (σ' := (S, M, O)) (rfl) ?_
    refine Ex_brNI lc_ne (fun hc => ?_) (fun hc => ?_)
    · rw [if_pos hc] at hF
      refine Ex_go 2 (pc' := 58) (L' := [some (.ref 43), some (.ref 12), none, none, some (.int x4), some (.long x5), none, some (.int x7)]) (st' := [.int (300 : Int32)]) (σ' := (S, M, O)) (rfl) ?_
      cases hF
      exact Ex_fin rfl
    · rw [if_neg hc] at hF
      refine Ex_go 1 (pc' := 58) (L' := [some (.ref 43), some (.ref 12), none, none, some (.int x4), some (.long x5), none, some (.int x7)]) (st' := [.int (-1 : Int32)]) (σ' := (S, M, O)) (rfl) ?_
      cases hF
      exact Ex_fin rfl
  · rw [if_neg hc] at hF
    refine Ex_go 4 (pc' := if ¬ (lg_cmp x5 (0 : Int64)) = 0 then 24 else 21) (L' := [some (.ref 43), some (.ref 12), none, none, some (.int x4), some (.long x5), none, some (.int x7)]) (st' := []) (σ' := (S, M, O)) (rfl) ?_
    refine Ex_brNI lc_ne (fun hc => ?_) (fun hc => ?_)
    · rw [if_pos hc] at hF
      refine Ex_go 1 (pc' := 23) (L' := [some (.ref 43), some (.ref 12), none, none, some (.int x4), some (.long x5), none, some (.int x7)]) (st' := [.int x7]) (σ' := (S, M, O)) (rfl) ?_
      cases hF
      exact Ex_fin rfl
    · rw [if_neg hc] at hF
      refine Ex_go 6 (pc' := 33) (L' := [some (.ref 43), some (.ref 12), none, none, some (.int x4), some (.long x5), none, some (.int x7)]) (st' := [.int (x4 + x7), .long x5, .ref 12, .ref 43]) (σ' := (S, M, O)) (rfl) ?_
      obtain ⟨r1, S3, hx2, hF⟩ := b2_i hF
      refine Ex_call (kind := 2) (y := 112) (as := [.ref 43, .ref 12, .long x5, .int (x4 + x7)]) (rest := []) (L0 := [some (.ref 43), some (.ref 12), some (.long x5), none, some (.int (x4 + x7)), none, none, none, none, none]) (d' := 3) (v := some (.long r1)) (σ1 := (S3, M, O)) rfl rfl mt_112 rfl rfl (by omega) (X_Po_behind (Nat.le_refl _) _ _ _ _ _ hx2) (Ex_st (st2 := [.long r1]) rfl ?_)
      refine Ex_go 3 (pc' := 6) (L' := [some (.ref 43), some (.ref 12), none, none, some (.int x4), some (.long r1), none, some (.int (x7 + (1 : Int32)))]) (st' := []) (σ' := (S3, M, O)) (rfl) ?_
      exact Ex_mono (L := [some (.ref 43), some (.ref 12), none, none, some (.int x4), some (.long r1), none, some (.int (x7 + (1 : Int32)))]) (Le_s (Le_s (Le_n (Le_n (Le_s (Le_s (Le_n (Le_s (Le_0))))))))) (ih _ _ _ _ _ _ hF) (Nat.le_refl _) (by omega)
def F_Po_yearsLeft (x2 : Int64) (x4 : Int32) (S : Sto) : Option (Int32 × Sto) := F_Po_yearsLeft_6 FU x4 x2 (0 : Int32) S
set_option maxRecDepth 100000 in
theorem X_Po_yearsLeft {nL : Nat} {xs : Nat → Int32} {M : Sto} {O : Sto} {d : Nat} (hd : 4 ≤ d) : ∀ (x2 : Int64) (x4 : Int32) (S : Sto) (r : Int32) (S' : Sto), F_Po_yearsLeft x2 x4 S = some (r, S') → EX nL xs 0 MI_251 d 0 [some (.ref 43), some (.ref 12), some (.long x2), none, some (.int x4), none, none, none] [] (S, M, O) (.inl (some (.int r))) (S', M, O) := by
  intro x2 x4 S r S' hF
  unfold F_Po_yearsLeft at hF
  refine Ex_go 4 (pc' := 6) (L' := [some (.ref 43), some (.ref 12), some (.long x2), none, some (.int x4), some (.long x2), none, some (.int (0 : Int32))]) (st' := []) (σ' := (S, M, O)) (rfl) ?_
  exact Ex_mono (L := [some (.ref 43), some (.ref 12), none, none, some (.int x4), some (.long x2), none, some (.int (0 : Int32))]) (Le_s (Le_s (Le_n (Le_n (Le_s (Le_s (Le_n (Le_s (Le_0))))))))) (X_Po_yearsLeft_6 hd FU _ _ _ _ _ _ hF) (Nat.le_refl _) (by omega)
def F_w_ends (S : Sto) : Option (Int32 × Sto) := b2 (F_Po_yearsLeft (gl S 29) (gi S 30) S) (fun r1 S3 => some (r1, S3))
set_option maxRecDepth 100000 in
theorem X_w_ends {nL : Nat} {xs : Nat → Int32} {M : Sto} {O : Sto} {d : Nat} (hd : 5 ≤ d) : ∀ (S : Sto) (r : Int32) (S' : Sto), F_w_ends S = some (r, S') → EX nL xs 0 MI_252 d 0 [some (.ref 0)] [] (S, M, O) (.inl (some (.int r))) (S', M, O) := by
  intro S r S' hF
  unfold F_w_ends at hF
  refine Ex_go 10 (pc' := 22) (L' := [some (.ref 0)]) (st' := [.int (gi S 30), .long (gl S 29), .ref 12, .ref 43]) (σ' := (S, M, O)) (rfl) ?_
  obtain ⟨r1, S3, hx2, hF⟩ := b2_i hF
  refine Ex_call (kind := 2) (y := 251) (as := [.ref 43, .ref 12, .long (gl S 29), .int (gi S 30)]) (rest := []) (L0 := [some (.ref 43), some (.ref 12), some (.long (gl S 29)), none, some (.int (gi S 30)), none, none, none]) (d' := 4) (v := some (.int r1)) (σ1 := (S3, M, O)) rfl rfl mt_251 rfl rfl (by omega) (X_Po_yearsLeft (Nat.le_refl _) _ _ _ _ _ hx2) (Ex_st (st2 := [.int r1]) rfl ?_)
  cases hF
  exact Ex_fin rfl
def F_m_bitsOf_4 : Nat → Int32 → Int64 → Option Int32
  | 0, _, _ => none
  | n + 1, x2, x3 => if x3 = (0 : Int64) then some x2 else F_m_bitsOf_4 n (x2 + (1 : Int32)) (x3 &&& (x3 - (1 : Int64)))
set_option maxRecDepth 100000 in
theorem X_m_bitsOf_4 {nL : Nat} {xs : Nat → Int32} {S : Sto} {M : Sto} {O : Sto} {d : Nat} (hd : 1 ≤ d) : ∀ n : Nat, ∀ (x2 : Int32) (x3 : Int64) (r : Int32), F_m_bitsOf_4 n x2 x3 = some r → EX nL xs 0 MI_85 d 4 [none, none, some (.int x2), some (.long x3), none] [] (S, M, O) (.inl (some (.int r))) (S, M, O) := by
  intro n
  induction n with
  | zero => intro x2 x3 r hF; cases hF
  | succ n ih =>
  intro x2 x3 r hF
  unfold F_m_bitsOf_4 at hF
  refine Ex_go 4 (pc' := if (lg_cmp x3 (0 : Int64)) = 0 then 22 else 10) (L' := [none, none, some (.int x2), some (.long x3), none]) (st' := []) (σ' := (S, M, O)) (rfl) ?_
  refine Ex_brI lc_eq (fun hc => ?_) (fun hc => ?_)
  · rw [if_pos hc] at hF
    refine Ex_go 1 (pc' := 23) (L' := [none, none, some (.int x2), some (.long x3), none]) (st' := [.int x2]) (σ' := (S, M, O)) (rfl) ?_
    cases hF
    exact Ex_fin rfl
  · rw [if_neg hc] at hF
    refine Ex_go 8 (pc' := 4) (L' := [none, none, some (.int (x2 + (1 : Int32))), some (.long (x3 &&& (x3 - (1 : Int64)))), none]) (st' := []) (σ' := (S, M, O)) (rfl) ?_
    exact Ex_mono (L := [none, none, some (.int (x2 + (1 : Int32))), some (.long (x3 &&& (x3 - (1 : Int64)))), none]) (Le_n (Le_n (Le_s (Le_s (Le_n (Le_0)))))) (ih _ _ _ hF) (Nat.le_refl _) (by omega)
def F_m_bitsOf (x0 : Int64) : Option Int32 := F_m_bitsOf_4 FU (0 : Int32) x0
set_option maxRecDepth 100000 in
theorem X_m_bitsOf {nL : Nat} {xs : Nat → Int32} {S : Sto} {M : Sto} {O : Sto} {d : Nat} (hd : 1 ≤ d) : ∀ (x0 : Int64) (r : Int32), F_m_bitsOf x0 = some r → EX nL xs 0 MI_85 d 0 [some (.long x0), none, none, none, none] [] (S, M, O) (.inl (some (.int r))) (S, M, O) := by
  intro x0 r hF
  unfold F_m_bitsOf at hF
  refine Ex_go 4 (pc' := 4) (L' := [some (.long x0), none, some (.int (0 : Int32)), some (.long x0), none]) (st' := []) (σ' := (S, M, O)) (rfl) ?_
  exact Ex_mono (L := [none, none, some (.int (0 : Int32)), some (.long x0), none]) (Le_n (Le_n (Le_s (Le_s (Le_n (Le_0)))))) (X_m_bitsOf_4 hd FU _ _ _ hF) (Nat.le_refl _) (by omega)
def F_m_bit (x0 : Int64) (x2 : Int32) : Option Int32 := some (Int64.toInt32 ((x0 >>> (Int32.toInt64 x2 &&& 63)) &&& (1 : Int64)))
set_option maxRecDepth 100000 in
theorem X_m_bit {nL : Nat} {xs : Nat → Int32} {S : Sto} {M : Sto} {O : Sto} {d : Nat} (hd : 1 ≤ d) : ∀ (x0 : Int64) (x2 : Int32) (r : Int32), F_m_bit x0 x2 = some r → EX nL xs 0 MI_115 d 0 [some (.long x0), none, some (.int x2)] [] (S, M, O) (.inl (some (.int r))) (S, M, O) := by
  intro x0 x2 r hF
  unfold F_m_bit at hF
  refine Ex_go 6 (pc' := 6) (L' := [some (.long x0), none, some (.int x2)]) (st' := [.int (Int64.toInt32 ((x0 >>> (Int32.toInt64 x2 &&& 63)) &&& (1 : Int64)))]) (σ' := (S, M, O)) (rfl) ?_
  cases hF
  exact Ex_fin rfl
def F_m_reckon (x0 : Int32) (x1 : Int32) (x2 : Int32) : Option Int32 := if x0 = (-26) then if x1 = 0 then some (0 : Int32) else if x2 = 0 then some (0 : Int32) else some (1 : Int32) else (if x0 = (-25) then if x1 = x2 then some (1 : Int32) else some (0 : Int32) else (if x0 = (-24) then if x2 ≤ x1 then some (0 : Int32) else some (1 : Int32) else (if x0 = (-23) then if x2 = 0 then some (0 : Int32) else ck (nzI x2) (some (x1 / x2)) else (if x0 = (-22) then some (x1 * x2) else (if x0 = (-21) then some (x1 - x2) else (if x0 = (-20) then some (x1 + x2) else (if x1 = 0 then if x2 = 0 then some (0 : Int32) else some (1 : Int32) else some (1 : Int32))))))))
set_option maxRecDepth 100000 in
theorem X_m_reckon {nL : Nat} {xs : Nat → Int32} {S : Sto} {M : Sto} {O : Sto} {d : Nat} (hd : 1 ≤ d) : ∀ (x0 : Int32) (x1 : Int32) (x2 : Int32) (r : Int32), F_m_reckon x0 x1 x2 = some r → EX nL xs 0 MI_116 d 0 [some (.int x0), some (.int x1), some (.int x2)] [] (S, M, O) (.inl (some (.int r))) (S, M, O) := by
  intro x0 x1 x2 r hF
  unfold F_m_reckon at hF
  refine Ex_go 2 (pc' := swp x0 [((-26), 90), ((-25), 79), ((-24), 68), ((-23), 56), ((-22), 52), ((-21), 48), ((-20), 44)] 104) (L' := [some (.int x0), some (.int x1), some (.int x2)]) (st' := []) (σ' := (S, M, O)) (rfl) ?_
  refine Ex_br (c := x0 = (-26)) (fun hc => ?_) (fun hc => ?_)
  · rw [if_pos hc] at hF
    refine Ex_go 2 (pc' := if x1 = 0 then 102 else 94) (L' := [some (.int x0), some (.int x1), some (.int x2)]) (st' := []) (σ' := (S, M, O)) (rfl) ?_
    refine Ex_br (fun hc => ?_) (fun hc => ?_)
    · rw [if_pos hc] at hF
      refine Ex_go 1 (pc' := 103) (L' := [some (.int x0), some (.int x1), some (.int x2)]) (st' := [.int (0 : Int32)]) (σ' := (S, M, O)) (rfl) ?_
      cases hF
      exact Ex_fin rfl
    · rw [if_neg hc] at hF
      refine Ex_go 2 (pc' := if x2 = 0 then 102 else 98) (L' := [some (.int x0), some (.int x1), some (.int x2)]) (st' := []) (σ' := (S, M, O)) (rfl) ?_
      refine Ex_br (fun hc => ?_) (fun hc => ?_)
      · rw [if_pos hc] at hF
        refine Ex_go 1 (pc' := 103) (L' := [some (.int x0), some (.int x1), some (.int x2)]) (st' := [.int (0 : Int32)]) (σ' := (S, M, O)) (rfl) ?_
        cases hF
        exact Ex_fin rfl
      · rw [if_neg hc] at hF
        refine Ex_go 2 (pc' := 103) (L' := [some (.int x0), some (.int x1), some (.int x2)]) (st' := [.int (1 : Int32)]) (σ' := (S, M, O)) (rfl) ?_
        cases hF
        exact Ex_fin rfl
  rw [if_neg hc] at hF
  refine Ex_br (c := x0 = (-25)) (fun hc => ?_) (fun hc => ?_)
  · rw [if_pos hc] at hF
    refine Ex_go 3 (pc' := if ¬ x1 = x2 then 88 else 84) (L' := [some (.int x0), some (.int x1), some (.int x2)]) (st' := []) (σ' := (S, M, O)) (rfl) ?_
    refine Ex_brN (fun hc => ?_) (fun hc => ?_)
    · rw [if_pos hc] at hF
      refine Ex_go 2 (pc' := 89) (L' := [some (.int x0), some (.int x1), some (.int x2)]) (st' := [.int (1 : Int32)]) (σ' := (S, M, O)) (rfl) ?_
      cases hF
      exact Ex_fin rfl
    · rw [if_neg hc] at hF
      refine Ex_go 1 (pc' := 89) (L' := [some (.int x0), some (.int x1), some (.int x2)]) (st' := [.int (0 : Int32)]) (σ' := (S, M, O)) (rfl) ?_
      cases hF
      exact Ex_fin rfl
  rw [if_neg hc] at hF
  refine Ex_br (c := x0 = (-24)) (fun hc => ?_) (fun hc => ?_)
  · rw [if_pos hc] at hF
    refine Ex_go 3 (pc' := if x2 ≤ x1 then 77 else 73) (L' := [some (.int x0), some (.int x1), some (.int x2)]) (st' := []) (σ' := (S, M, O)) (rfl) ?_
    refine Ex_br (fun hc => ?_) (fun hc => ?_)
    · rw [if_pos hc] at hF
      refine Ex_go 1 (pc' := 78) (L' := [some (.int x0), some (.int x1), some (.int x2)]) (st' := [.int (0 : Int32)]) (σ' := (S, M, O)) (rfl) ?_
      cases hF
      exact Ex_fin rfl
    · rw [if_neg hc] at hF
      refine Ex_go 2 (pc' := 78) (L' := [some (.int x0), some (.int x1), some (.int x2)]) (st' := [.int (1 : Int32)]) (σ' := (S, M, O)) (rfl) ?_
      cases hF
      exact Ex_fin rfl
  rw [if_neg hc] at hF
  refine Ex_br (c := x0 = (-23)) (fun hc => ?_) (fun hc => ?_)
  · rw [if_pos hc] at hF
    refine Ex_go 2 (pc' := if ¬ x2 = 0 then 64 else 60) (L' := [some (.int x0), some (.int x1), some (.int x2)]) (st' := []) (σ' := (S, M, O)) (rfl) ?_
    refine Ex_brN (fun hc => ?_) (fun hc => ?_)
    · rw [if_pos hc] at hF
      refine Ex_go 2 (pc' := 67) (L' := [some (.int x0), some (.int x1), some (.int x2)]) (st' := [.int (0 : Int32)]) (σ' := (S, M, O)) (rfl) ?_
      cases hF
      exact Ex_fin rfl
    · rw [if_neg hc] at hF
      refine Ex_go 2 (pc' := 66) (L' := [some (.int x0), some (.int x1), some (.int x2)]) (st' := [.int x2, .int x1]) (σ' := (S, M, O)) (rfl) ?_
      obtain ⟨hc1, hF⟩ := ck_i hF
      refine Ex_chk (b := nzI x2) (pc' := 67) (L' := [some (.int x0), some (.int x1), some (.int x2)]) (st' := [.int (x1 / x2)]) (σ' := (S, M, O)) rfl hc1 ?_
      cases hF
      exact Ex_fin rfl
  rw [if_neg hc] at hF
  refine Ex_br (c := x0 = (-22)) (fun hc => ?_) (fun hc => ?_)
  · rw [if_pos hc] at hF
    refine Ex_go 3 (pc' := 55) (L' := [some (.int x0), some (.int x1), some (.int x2)]) (st' := [.int (x1 * x2)]) (σ' := (S, M, O)) (rfl) ?_
    cases hF
    exact Ex_fin rfl
  rw [if_neg hc] at hF
  refine Ex_br (c := x0 = (-21)) (fun hc => ?_) (fun hc => ?_)
  · rw [if_pos hc] at hF
    refine Ex_go 3 (pc' := 51) (L' := [some (.int x0), some (.int x1), some (.int x2)]) (st' := [.int (x1 - x2)]) (σ' := (S, M, O)) (rfl) ?_
    cases hF
    exact Ex_fin rfl
  rw [if_neg hc] at hF
  refine Ex_br (c := x0 = (-20)) (fun hc => ?_) (fun hc => ?_)
  · rw [if_pos hc] at hF
    refine Ex_go 3 (pc' := 47) (L' := [some (.int x0), some (.int x1), some (.int x2)]) (st' := [.int (x1 + x2)]) (σ' := (S, M, O)) (rfl) ?_
    cases hF
    exact Ex_fin rfl
  rw [if_neg hc] at hF
  refine Ex_go 2 (pc' := if ¬ x1 = 0 then 112 else 108) (L' := [some (.int x0), some (.int x1), some (.int x2)]) (st' := []) (σ' := (S, M, O)) (rfl) ?_
  refine Ex_brN (fun hc => ?_) (fun hc => ?_)
  · rw [if_pos hc] at hF
    refine Ex_go 2 (pc' := if x2 = 0 then 116 else 112) (L' := [some (.int x0), some (.int x1), some (.int x2)]) (st' := []) (σ' := (S, M, O)) (rfl) ?_
    refine Ex_br (fun hc => ?_) (fun hc => ?_)
    · rw [if_pos hc] at hF
      refine Ex_go 1 (pc' := 117) (L' := [some (.int x0), some (.int x1), some (.int x2)]) (st' := [.int (0 : Int32)]) (σ' := (S, M, O)) (rfl) ?_
      cases hF
      exact Ex_fin rfl
    · rw [if_neg hc] at hF
      refine Ex_go 2 (pc' := 117) (L' := [some (.int x0), some (.int x1), some (.int x2)]) (st' := [.int (1 : Int32)]) (σ' := (S, M, O)) (rfl) ?_
      cases hF
      exact Ex_fin rfl
  · rw [if_neg hc] at hF
    refine Ex_go 2 (pc' := 117) (L' := [some (.int x0), some (.int x1), some (.int x2)]) (st' := [.int (1 : Int32)]) (σ' := (S, M, O)) (rfl) ?_
    cases hF
    exact Ex_fin rfl
def F_m_valueNow_117 (k4 : Int32 → Int32 → Sto → Option (Int32 × Sto)) (x1 : Int32) (x2 : Int32) (M : Sto) : Option (Int32 × Sto) := k4 x1 (x2 + (1 : Int32)) M
set_option maxRecDepth 100000 in
theorem X_m_valueNow_117 {nL : Nat} {xs : Nat → Int32} {S : Sto} {O : Sto} {d : Nat} (hd : 2 ≤ d) {k4 : Int32 → Int32 → Sto → Option (Int32 × Sto)} (hk4 : ∀ (x1 : Int32) (x2 : Int32) (M : Sto) (r : Int32) (M' : Sto), k4 x1 x2 M = some (r, M') → EX nL xs 0 MI_117 d 4 [some (.ref 1000), some (.int x1), some (.int x2), none] [] (S, M, O) (.inl (some (.int r))) (S, M', O)) : ∀ (x1 : Int32) (x2 : Int32) (M : Sto) (r : Int32) (M' : Sto), F_m_valueNow_117 k4 x1 x2 M = some (r, M') → EX nL xs 0 MI_117 d 117 [some (.ref 1000), some (.int x1), some (.int x2), none] [] (S, M, O) (.inl (some (.int r))) (S, M', O) := by
  intro x1 x2 M r M' hF
  unfold F_m_valueNow_117 at hF
  refine Ex_go 2 (pc' := 4) (L' := [some (.ref 1000), some (.int x1), some (.int (x2 + (1 : Int32))), none]) (st' := []) (σ' := (S, M, O)) (rfl) ?_
  exact Ex_mono (L := [some (.ref 1000), some (.int x1), some (.int (x2 + (1 : Int32))), none]) (Le_s (Le_s (Le_s (Le_n (Le_0))))) (hk4 _ _ _ _ _ hF) (Nat.le_refl _) (by omega)
def F_m_valueNow_48 (k4 : Int32 → Int32 → Sto → Option (Int32 × Sto)) (x1 : Int32) (x2 : Int32) (s1 : Int32) (s2 : Int32) (M : Sto) : Option (Int32 × Sto) := ck (ib s1 64) (F_m_valueNow_117 k4 (x1 + (1 : Int32)) x2 (ui M 1014 (upd (ai M 1014) (Int32.toNatClampNeg s1) s2)))
set_option maxRecDepth 100000 in
theorem X_m_valueNow_48 {nL : Nat} {xs : Nat → Int32} {S : Sto} {O : Sto} {d : Nat} (hd : 2 ≤ d) {k4 : Int32 → Int32 → Sto → Option (Int32 × Sto)} (hk4 : ∀ (x1 : Int32) (x2 : Int32) (M : Sto) (r : Int32) (M' : Sto), k4 x1 x2 M = some (r, M') → EX nL xs 0 MI_117 d 4 [some (.ref 1000), some (.int x1), some (.int x2), none] [] (S, M, O) (.inl (some (.int r))) (S, M', O)) : ∀ (x1 : Int32) (x2 : Int32) (s1 : Int32) (s2 : Int32) (M : Sto) (r : Int32) (M' : Sto), F_m_valueNow_48 k4 x1 x2 s1 s2 M = some (r, M') → EX nL xs 0 MI_117 d 48 [some (.ref 1000), some (.int x1), some (.int x2), none] [.int s2, .int s1, .ref 1014] (S, M, O) (.inl (some (.int r))) (S, M', O) := by
  intro x1 x2 s1 s2 M r M' hF
  unfold F_m_valueNow_48 at hF
  obtain ⟨hc1, hF⟩ := ck_i hF
  refine Ex_chk (b := ib s1 64) (pc' := 49) (L' := [some (.ref 1000), some (.int x1), some (.int x2), none]) (st' := []) (σ' := (S, (ui M 1014 (upd (ai M 1014) (Int32.toNatClampNeg s1) s2)), O)) rfl hc1 ?_
  refine Ex_go 2 (pc' := 117) (L' := [some (.ref 1000), some (.int (x1 + (1 : Int32))), some (.int x2), none]) (st' := []) (σ' := (S, (ui M 1014 (upd (ai M 1014) (Int32.toNatClampNeg s1) s2)), O)) (rfl) ?_
  exact Ex_mono (L := [some (.ref 1000), some (.int (x1 + (1 : Int32))), some (.int x2), none]) (Le_s (Le_s (Le_s (Le_n (Le_0))))) (X_m_valueNow_117 hd hk4 _ _ _ _ _ hF) (Nat.le_refl _) (by omega)
def F_m_valueNow_84 (k4 : Int32 → Int32 → Sto → Option (Int32 × Sto)) (x1 : Int32) (x2 : Int32) (s1 : Int32) (s2 : Int32) (M : Sto) : Option (Int32 × Sto) := ck (ib s1 64) (F_m_valueNow_117 k4 x1 x2 (ui M 1014 (upd (ai M 1014) (Int32.toNatClampNeg s1) s2)))
set_option maxRecDepth 100000 in
theorem X_m_valueNow_84 {nL : Nat} {xs : Nat → Int32} {S : Sto} {O : Sto} {d : Nat} (hd : 2 ≤ d) {k4 : Int32 → Int32 → Sto → Option (Int32 × Sto)} (hk4 : ∀ (x1 : Int32) (x2 : Int32) (M : Sto) (r : Int32) (M' : Sto), k4 x1 x2 M = some (r, M') → EX nL xs 0 MI_117 d 4 [some (.ref 1000), some (.int x1), some (.int x2), none] [] (S, M, O) (.inl (some (.int r))) (S, M', O)) : ∀ (x1 : Int32) (x2 : Int32) (s1 : Int32) (s2 : Int32) (M : Sto) (r : Int32) (M' : Sto), F_m_valueNow_84 k4 x1 x2 s1 s2 M = some (r, M') → EX nL xs 0 MI_117 d 84 [some (.ref 1000), some (.int x1), some (.int x2), none] [.int s2, .int s1, .ref 1014] (S, M, O) (.inl (some (.int r))) (S, M', O) := by
  intro x1 x2 s1 s2 M r M' hF
  unfold F_m_valueNow_84 at hF
  obtain ⟨hc1, hF⟩ := ck_i hF
  refine Ex_chk (b := ib s1 64) (pc' := 85) (L' := [some (.ref 1000), some (.int x1), some (.int x2), none]) (st' := []) (σ' := (S, (ui M 1014 (upd (ai M 1014) (Int32.toNatClampNeg s1) s2)), O)) rfl hc1 ?_
  refine Ex_go 1 (pc' := 117) (L' := [some (.ref 1000), some (.int x1), some (.int x2), none]) (st' := []) (σ' := (S, (ui M 1014 (upd (ai M 1014) (Int32.toNatClampNeg s1) s2)), O)) (rfl) ?_
  exact Ex_mono (L := [some (.ref 1000), some (.int x1), some (.int x2), none]) (Le_s (Le_s (Le_s (Le_n (Le_0))))) (X_m_valueNow_117 hd hk4 _ _ _ _ _ hF) (Nat.le_refl _) (by omega)
def F_m_valueNow_4 : Nat → Int32 → Int32 → Sto → Option (Int32 × Sto)
  | 0, _, _, _ => none
  | n + 1, x1, x2, M => if (ai M 1003 (Int32.toNatClampNeg (2 : Int32))) ≤ x2 then some ((ai M 1014 (Int32.toNatClampNeg (0 : Int32))), M) else ck (ib x2 1000) (if (ai M 1007 (Int32.toNatClampNeg x2)) ≤ (-20 : Int32) then if (ai M 1007 (Int32.toNatClampNeg x2)) = (-28 : Int32) then ck (ib (x1 - (1 : Int32)) 64) (if (ai M 1014 (Int32.toNatClampNeg (x1 - (1 : Int32)))) = 0 then F_m_valueNow_84 (F_m_valueNow_4 n) x1 x2 (x1 - (1 : Int32)) (1 : Int32) M else F_m_valueNow_84 (F_m_valueNow_4 n) x1 x2 (x1 - (1 : Int32)) (0 : Int32) M) else ck (ib ((x1 + (-1 : Int32)) - (1 : Int32)) 64) (ck (ib (x1 + (-1 : Int32)) 64) (b1 (F_m_reckon (ai M 1007 (Int32.toNatClampNeg x2)) (ai M 1014 (Int32.toNatClampNeg ((x1 + (-1 : Int32)) - (1 : Int32)))) (ai M 1014 (Int32.toNatClampNeg (x1 + (-1 : Int32))))) (fun r4 => ck (ib ((x1 + (-1 : Int32)) - (1 : Int32)) 64) (F_m_valueNow_117 (F_m_valueNow_4 n) (x1 + (-1 : Int32)) x2 (ui M 1014 (upd (ai M 1014) (Int32.toNatClampNeg ((x1 + (-1 : Int32)) - (1 : Int32))) r4)))))) else if (ai M 1007 (Int32.toNatClampNeg x2)) < 0 then ck (ib ((-1 : Int32) - (ai M 1007 (Int32.toNatClampNeg x2))) 7) (F_m_valueNow_48 (F_m_valueNow_4 n) x1 x2 x1 (ai M 1013 (Int32.toNatClampNeg ((-1 : Int32) - (ai M 1007 (Int32.toNatClampNeg x2))))) M) else F_m_valueNow_48 (F_m_valueNow_4 n) x1 x2 x1 (ai M 1007 (Int32.toNatClampNeg x2)) M)
set_option maxRecDepth 100000 in
theorem X_m_valueNow_4 {nL : Nat} {xs : Nat → Int32} {S : Sto} {O : Sto} {d : Nat} (hd : 2 ≤ d) : ∀ n : Nat, ∀ (x1 : Int32) (x2 : Int32) (M : Sto) (r : Int32) (M' : Sto), F_m_valueNow_4 n x1 x2 M = some (r, M') → EX nL xs 0 MI_117 d 4 [some (.ref 1000), some (.int x1), some (.int x2), none] [] (S, M, O) (.inl (some (.int r))) (S, M', O) := by
  intro n
  induction n with
  | zero => intro x1 x2 M r M' hF; cases hF
  | succ n ih =>
  intro x1 x2 M r M' hF
  unfold F_m_valueNow_4 at hF
  refine Ex_go 4 (pc' := 10) (L' := [some (.ref 1000), some (.int x1), some (.int x2), none]) (st' := [.int (2 : Int32), .ref 1003, .int x2]) (σ' := (S, M, O)) (rfl) ?_
  refine Ex_chk (b := ib (2 : Int32) 6) (pc' := 11) (L' := [some (.ref 1000), some (.int x1), some (.int x2), none]) (st' := [.int (ai M 1003 (Int32.toNatClampNeg (2 : Int32))), .int x2]) (σ' := (S, M, O)) rfl (by decide) ?_
  refine Ex_go 1 (pc' := if (ai M 1003 (Int32.toNatClampNeg (2 : Int32))) ≤ x2 then 123 else 14) (L' := [some (.ref 1000), some (.int x1), some (.int x2), none]) (st' := []) (σ' := (S, M, O)) (rfl) ?_
  refine Ex_br (fun hc => ?_) (fun hc => ?_)
  · rw [if_pos hc] at hF
    refine Ex_go 3 (pc' := 128) (L' := [some (.ref 1000), some (.int x1), some (.int x2), none]) (st' := [.int (0 : Int32), .ref 1014]) (σ' := (S, M, O)) (rfl) ?_
    refine Ex_chk (b := ib (0 : Int32) 64) (pc' := 129) (L' := [some (.ref 1000), some (.int x1), some (.int x2), none]) (st' := [.int (ai M 1014 (Int32.toNatClampNeg (0 : Int32)))]) (σ' := (S, M, O)) rfl (by decide) ?_
    cases hF
    exact Ex_fin rfl
  · rw [if_neg hc] at hF
    refine Ex_go 3 (pc' := 19) (L' := [some (.ref 1000), some (.int x1), some (.int x2), none]) (st' := [.int x2, .ref 1007]) (σ' := (S, M, O)) (rfl) ?_
    obtain ⟨hc1, hF⟩ := ck_i hF
    refine Ex_chk (b := ib x2 1000) (pc' := 20) (L' := [some (.ref 1000), some (.int x1), some (.int x2), none]) (st' := [.int (ai M 1007 (Int32.toNatClampNeg x2))]) (σ' := (S, M, O)) rfl hc1 ?_
    refine Ex_go 4 (pc' := if (ai M 1007 (Int32.toNatClampNeg x2)) ≤ (-20 : Int32) then 55 else 27) (L' := [some (.ref 1000), some (.int x1), some (.int x2), some (.int (ai M 1007 (Int32.toNatClampNeg x2)))]) (st' := []) (σ' := (S, M, O)) (rfl) ?_
    refine Ex_br (fun hc => ?_) (fun hc => ?_)
    · rw [if_pos hc] at hF
      refine Ex_go 3 (pc' := if ¬ (ai M 1007 (Int32.toNatClampNeg x2)) = (-28 : Int32) then 88 else 61) (L' := [some (.ref 1000), some (.int x1), some (.int x2), some (.int (ai M 1007 (Int32.toNatClampNeg x2)))]) (st' := []) (σ' := (S, M, O)) (rfl) ?_
      refine Ex_brN (fun hc => ?_) (fun hc => ?_)
      · rw [if_pos hc] at hF
        refine Ex_go 10 (pc' := 75) (L' := [some (.ref 1000), some (.int x1), some (.int x2), some (.int (ai M 1007 (Int32.toNatClampNeg x2)))]) (st' := [.int (x1 - (1 : Int32)), .ref 1014, .int (x1 - (1 : Int32)), .ref 1014]) (σ' := (S, M, O)) (rfl) ?_
        obtain ⟨hc7, hF⟩ := ck_i hF
        refine Ex_chk (b := ib (x1 - (1 : Int32)) 64) (pc' := 76) (L' := [some (.ref 1000), some (.int x1), some (.int x2), some (.int (ai M 1007 (Int32.toNatClampNeg x2)))]) (st' := [.int (ai M 1014 (Int32.toNatClampNeg (x1 - (1 : Int32)))), .int (x1 - (1 : Int32)), .ref 1014]) (σ' := (S, M, O)) rfl hc7 ?_
        refine Ex_go 1 (pc' := if (ai M 1014 (Int32.toNatClampNeg (x1 - (1 : Int32)))) = 0 then 83 else 79) (L' := [some (.ref 1000), some (.int x1), some (.int x2), some (.int (ai M 1007 (Int32.toNatClampNeg x2)))]) (st' := [.int (x1 - (1 : Int32)), .ref 1014]) (σ' := (S, M, O)) (rfl) ?_
        refine Ex_br (fun hc => ?_) (fun hc => ?_)
        · rw [if_pos hc] at hF
          refine Ex_go 1 (pc' := 84) (L' := [some (.ref 1000), some (.int x1), some (.int x2), some (.int (ai M 1007 (Int32.toNatClampNeg x2)))]) (st' := [.int (1 : Int32), .int (x1 - (1 : Int32)), .ref 1014]) (σ' := (S, M, O)) (rfl) ?_
          exact Ex_mono (L := [some (.ref 1000), some (.int x1), some (.int x2), none]) (Le_s (Le_s (Le_s (Le_n (Le_0))))) (X_m_valueNow_84 hd ih _ _ _ _ _ _ _ hF) (Nat.le_refl _) (by omega)
        · rw [if_neg hc] at hF
          refine Ex_go 2 (pc' := 84) (L' := [some (.ref 1000), some (.int x1), some (.int x2), some (.int (ai M 1007 (Int32.toNatClampNeg x2)))]) (st' := [.int (0 : Int32), .int (x1 - (1 : Int32)), .ref 1014]) (σ' := (S, M, O)) (rfl) ?_
          exact Ex_mono (L := [some (.ref 1000), some (.int x1), some (.int x2), none]) (Le_s (Le_s (Le_s (Le_n (Le_0))))) (X_m_valueNow_84 hd ih _ _ _ _ _ _ _ hF) (Nat.le_refl _) (by omega)
      · rw [if_neg hc] at hF
        refine Ex_go 10 (pc' := 104) (L' := [some (.ref 1000), some (.int (x1 + (-1 : Int32))), some (.int x2), some (.int (ai M 1007 (Int32.toNatClampNeg x2)))]) (st' := [.int (x1 + (-1 : Int32)), .ref 1014, .int (ai M 1007 (Int32.toNatClampNeg x2)), .int ((x1 + (-1 : Int32)) - (1 : Int32)), .ref 1014]) (σ' := (S, M, O)) (rfl) ?_
        refine Ex_go 2 (pc' := 106) (L' := [some (.ref 1000), some (.int (x1 + (-1 : Int32))), some (.int x2), some (.int (ai M 1007 (Int32.toNatClampNeg x2)))]) (st' := [.int ((x1 + (-1 : Int32)) - (1 : Int32)), .ref 1014, .int (ai M 1007 (Int32.toNatClampNeg x2)), .int ((x1 + (-1 : Int32)) - (1 : Int32)), .ref 1014]) (σ' := (S, M, O)) (rfl) ?_
        obtain ⟨hc2, hF⟩ := ck_i hF
        refine Ex_chk (b := ib ((x1 + (-1 : Int32)) - (1 : Int32)) 64) (pc' := 107) (L' := [some (.ref 1000), some (.int (x1 + (-1 : Int32))), some (.int x2), some (.int (ai M 1007 (Int32.toNatClampNeg x2)))]) (st' := [.int (ai M 1014 (Int32.toNatClampNeg ((x1 + (-1 : Int32)) - (1 : Int32)))), .int (ai M 1007 (Int32.toNatClampNeg x2)), .int ((x1 + (-1 : Int32)) - (1 : Int32)), .ref 1014]) (σ' := (S, M, O)) rfl hc2 ?_
        refine Ex_go 3 (pc' := 112) (L' := [some (.ref 1000), some (.int (x1 + (-1 : Int32))), some (.int x2), some (.int (ai M 1007 (Int32.toNatClampNeg x2)))]) (st' := [.int (x1 + (-1 : Int32)), .ref 1014, .int (ai M 1014 (Int32.toNatClampNeg ((x1 + (-1 : Int32)) - (1 : Int32)))), .int (ai M 1007 (Int32.toNatClampNeg x2)), .int ((x1 + (-1 : Int32)) - (1 : Int32)), .ref 1014]) (σ' := (S, M, O)) (rfl) ?_
        obtain ⟨hc3, hF⟩ := ck_i hF
        refine Ex_chk (b := ib (x1 + (-1 : Int32)) 64) (pc' := 113) (L' := [some (.ref 1000), some (.int (x1 + (-1 : Int32))), some (.int x2), some (.int (ai M 1007 (Int32.toNatClampNeg x2)))]) (st' := [.int (ai M 1014 (Int32.toNatClampNeg (x1 + (-1 : Int32)))), .int (ai M 1014 (Int32.toNatClampNeg ((x1 + (-1 : Int32)) - (1 : Int32)))), .int (ai M 1007 (Int32.toNatClampNeg x2)), .int ((x1 + (-1 : Int32)) - (1 : Int32)), .ref 1014]) (σ' := (S, M, O)) rfl hc3 ?_
        obtain ⟨r4, hx5, hF⟩ := b1_i hF
        refine Ex_call (kind := 0) (y := 116) (as := [.int (ai M 1007 (Int32.toNatClampNeg x2)), .int (ai M 1014 (Int32.toNatClampNeg ((x1 + (-1 : Int32)) - (1 : Int32)))), .int (ai M 1014 (Int32.toNatClampNeg (x1 + (-1 : Int32))))]) (rest := [.int ((x1 + (-1 : Int32)) - (1 : Int32)), .ref 1014]) (L0 := [some (.int (ai M 1007 (Int32.toNatClampNeg x2))), some (.int (ai M 1014 (Int32.toNatClampNeg ((x1 + (-1 : Int32)) - (1 : Int32))))), some (.int (ai M 1014 (Int32.toNatClampNeg (x1 + (-1 : Int32)))))]) (d' := 1) (v := some (.int r4)) (σ1 := (S, M, O)) rfl rfl mt_116 rfl rfl (by omega) (X_m_reckon (Nat.le_refl _) _ _ _ _ hx5) (Ex_st (st2 := [.int r4, .int ((x1 + (-1 : Int32)) - (1 : Int32)), .ref 1014]) rfl ?_)
        obtain ⟨hc6, hF⟩ := ck_i hF
        refine Ex_chk (b := ib ((x1 + (-1 : Int32)) - (1 : Int32)) 64) (pc' := 117) (L' := [some (.ref 1000), some (.int (x1 + (-1 : Int32))), some (.int x2), some (.int (ai M 1007 (Int32.toNatClampNeg x2)))]) (st' := []) (σ' := (S, (ui M 1014 (upd (ai M 1014) (Int32.toNatClampNeg ((x1 + (-1 : Int32)) - (1 : Int32))) r4)), O)) rfl hc6 ?_
        exact Ex_mono (L := [some (.ref 1000), some (.int (x1 + (-1 : Int32))), some (.int x2), none]) (Le_s (Le_s (Le_s (Le_n (Le_0))))) (X_m_valueNow_117 hd ih _ _ _ _ _ hF) (Nat.le_refl _) (by omega)
    · rw [if_neg hc] at hF
      refine Ex_go 5 (pc' := if (ai M 1007 (Int32.toNatClampNeg x2)) < 0 then 40 else 36) (L' := [some (.ref 1000), some (.int x1), some (.int x2), some (.int (ai M 1007 (Int32.toNatClampNeg x2)))]) (st' := [.int x1, .ref 1014]) (σ' := (S, M, O)) (rfl) ?_
      refine Ex_br (fun hc => ?_) (fun hc => ?_)
      · rw [if_pos hc] at hF
        refine Ex_go 5 (pc' := 47) (L' := [some (.ref 1000), some (.int x1), some (.int x2), some (.int (ai M 1007 (Int32.toNatClampNeg x2)))]) (st' := [.int ((-1 : Int32) - (ai M 1007 (Int32.toNatClampNeg x2))), .ref 1013, .int x1, .ref 1014]) (σ' := (S, M, O)) (rfl) ?_
        obtain ⟨hc8, hF⟩ := ck_i hF
        refine Ex_chk (b := ib ((-1 : Int32) - (ai M 1007 (Int32.toNatClampNeg x2))) 7) (pc' := 48) (L' := [some (.ref 1000), some (.int x1), some (.int x2), some (.int (ai M 1007 (Int32.toNatClampNeg x2)))]) (st' := [.int (ai M 1013 (Int32.toNatClampNeg ((-1 : Int32) - (ai M 1007 (Int32.toNatClampNeg x2))))), .int x1, .ref 1014]) (σ' := (S, M, O)) rfl hc8 ?_
        exact Ex_mono (L := [some (.ref 1000), some (.int x1), some (.int x2), none]) (Le_s (Le_s (Le_s (Le_n (Le_0))))) (X_m_valueNow_48 hd ih _ _ _ _ _ _ _ hF) (Nat.le_refl _) (by omega)
      · rw [if_neg hc] at hF
        refine Ex_go 2 (pc' := 48) (L' := [some (.ref 1000), some (.int x1), some (.int x2), some (.int (ai M 1007 (Int32.toNatClampNeg x2)))]) (st' := [.int (ai M 1007 (Int32.toNatClampNeg x2)), .int x1, .ref 1014]) (σ' := (S, M, O)) (rfl) ?_
        exact Ex_mono (L := [some (.ref 1000), some (.int x1), some (.int x2), none]) (Le_s (Le_s (Le_s (Le_n (Le_0))))) (X_m_valueNow_48 hd ih _ _ _ _ _ _ _ hF) (Nat.le_refl _) (by omega)
def F_m_valueNow (M : Sto) : Option (Int32 × Sto) := F_m_valueNow_4 FU (0 : Int32) (0 : Int32) M
set_option maxRecDepth 100000 in
theorem X_m_valueNow {nL : Nat} {xs : Nat → Int32} {S : Sto} {O : Sto} {d : Nat} (hd : 2 ≤ d) : ∀ (M : Sto) (r : Int32) (M' : Sto), F_m_valueNow M = some (r, M') → EX nL xs 0 MI_117 d 0 [some (.ref 1000), none, none, none] [] (S, M, O) (.inl (some (.int r))) (S, M', O) := by
  intro M r M' hF
  unfold F_m_valueNow at hF
  refine Ex_go 4 (pc' := 4) (L' := [some (.ref 1000), some (.int (0 : Int32)), some (.int (0 : Int32)), none]) (st' := []) (σ' := (S, M, O)) (rfl) ?_
  exact Ex_mono (L := [some (.ref 1000), some (.int (0 : Int32)), some (.int (0 : Int32)), none]) (Le_s (Le_s (Le_s (Le_n (Le_0))))) (X_m_valueNow_4 hd FU _ _ _ _ _ hF) (Nat.le_refl _) (by omega)
def F_m_spawned_104 (k46 : Int64 → Int32 → Int32 → Int32 → Sto → Option (Int64 × Sto)) (x1 : Int64) (x3 : Int32) (x4 : Int32) (x5 : Int32) (M : Sto) : Option (Int64 × Sto) := k46 x1 x3 x4 (x5 + (1 : Int32)) M
set_option maxRecDepth 100000 in
theorem X_m_spawned_104 {nL : Nat} {xs : Nat → Int32} {S : Sto} {O : Sto} {d : Nat} (hd : 3 ≤ d) {k46 : Int64 → Int32 → Int32 → Int32 → Sto → Option (Int64 × Sto)} (hk46 : ∀ (x1 : Int64) (x3 : Int32) (x4 : Int32) (x5 : Int32) (M : Sto) (r : Int64) (M' : Sto), k46 x1 x3 x4 x5 M = some (r, M') → EX nL xs 0 MI_118 d 46 [some (.ref 1000), some (.long x1), none, some (.int x3), some (.int x4), some (.int x5), none, none] [] (S, M, O) (.inl (some (.long r))) (S, M', O)) : ∀ (x1 : Int64) (x3 : Int32) (x4 : Int32) (x5 : Int32) (M : Sto) (r : Int64) (M' : Sto), F_m_spawned_104 k46 x1 x3 x4 x5 M = some (r, M') → EX nL xs 0 MI_118 d 104 [some (.ref 1000), some (.long x1), none, some (.int x3), some (.int x4), some (.int x5), none, none] [] (S, M, O) (.inl (some (.long r))) (S, M', O) := by
  intro x1 x3 x4 x5 M r M' hF
  unfold F_m_spawned_104 at hF
  refine Ex_go 2 (pc' := 46) (L' := [some (.ref 1000), some (.long x1), none, some (.int x3), some (.int x4), some (.int (x5 + (1 : Int32))), none, none]) (st' := []) (σ' := (S, M, O)) (rfl) ?_
  exact Ex_mono (L := [some (.ref 1000), some (.long x1), none, some (.int x3), some (.int x4), some (.int (x5 + (1 : Int32))), none, none]) (Le_s (Le_s (Le_n (Le_s (Le_s (Le_s (Le_n (Le_n (Le_0))))))))) (hk46 _ _ _ _ _ _ _ hF) (Nat.le_refl _) (by omega)
def F_m_spawned_59 (k46 : Int64 → Int32 → Int32 → Int32 → Sto → Option (Int64 × Sto)) : Nat → Int64 → Int32 → Int32 → Int32 → Int32 → Sto → Option (Int64 × Sto)
  | 0, _, _, _, _, _, _ => none
  | n + 1, x1, x3, x4, x5, x6, M => if x4 ≤ x6 then F_m_spawned_104 k46 x1 x3 x4 x5 M else b1 (F_m_bit x1 x5) (fun r1 => if r1 = (1 : Int32) then ck (nzI x4) (ck (ib ((x5 + x6) - (x5 + x6) / x4 * x4) 60) (b1 (F_m_bit x1 x6) (fun r5 => ck (ib ((x5 + x6) - (x5 + x6) / x4 * x4) 60) (F_m_spawned_59 k46 n x1 x3 x4 x5 (x6 + (1 : Int32)) (ui M 1015 (upd (ai M 1015) (Int32.toNatClampNeg ((x5 + x6) - (x5 + x6) / x4 * x4)) ((ai M 1015 (Int32.toNatClampNeg ((x5 + x6) - (x5 + x6) / x4 * x4))) + r5))))))) else F_m_spawned_104 k46 x1 x3 x4 x5 M)
set_option maxRecDepth 100000 in
theorem X_m_spawned_59 {nL : Nat} {xs : Nat → Int32} {S : Sto} {O : Sto} {d : Nat} (hd : 3 ≤ d) {k46 : Int64 → Int32 → Int32 → Int32 → Sto → Option (Int64 × Sto)} (hk46 : ∀ (x1 : Int64) (x3 : Int32) (x4 : Int32) (x5 : Int32) (M : Sto) (r : Int64) (M' : Sto), k46 x1 x3 x4 x5 M = some (r, M') → EX nL xs 0 MI_118 d 46 [some (.ref 1000), some (.long x1), none, some (.int x3), some (.int x4), some (.int x5), none, none] [] (S, M, O) (.inl (some (.long r))) (S, M', O)) : ∀ n : Nat, ∀ (x1 : Int64) (x3 : Int32) (x4 : Int32) (x5 : Int32) (x6 : Int32) (M : Sto) (r : Int64) (M' : Sto), F_m_spawned_59 k46 n x1 x3 x4 x5 x6 M = some (r, M') → EX nL xs 0 MI_118 d 59 [some (.ref 1000), some (.long x1), none, some (.int x3), some (.int x4), some (.int x5), some (.int x6), none] [] (S, M, O) (.inl (some (.long r))) (S, M', O) := by
  intro n
  induction n with
  | zero => intro x1 x3 x4 x5 x6 M r M' hF; cases hF
  | succ n ih =>
  intro x1 x3 x4 x5 x6 M r M' hF
  unfold F_m_spawned_59 at hF
  refine Ex_go 3 (pc' := if x4 ≤ x6 then 104 else 66) (L' := [some (.ref 1000), some (.long x1), none, some (.int x3), some (.int x4), some (.int x5), some (.int x6), none]) (st' := []) (σ' := (S, M, O)) (rfl) ?_
  refine Ex_br (fun hc => ?_) (fun hc => ?_)
  · rw [if_pos hc] at hF
    exact Ex_mono (L := [some (.ref 1000), some (.long x1), none, some (.int x3), some (.int x4), some (.int x5), none, none]) (Le_s (Le_s (Le_n (Le_s (Le_s (Le_s (Le_n (Le_n (Le_0))))))))) (X_m_spawned_104 hd hk46 _ _ _ _ _ _ _ hF) (Nat.le_refl _) (by omega)
  · rw [if_neg hc] at hF
    refine Ex_go 2 (pc' := 69) (L' := [some (.ref 1000), some (.long x1), none, some (.int x3), some (.int x4), some (.int x5), some (.int x6), none]) (st' := [.int x5, .long x1]) (σ' := (S, M, O)) (rfl) ?_
    obtain ⟨r1, hx2, hF⟩ := b1_i hF
    refine Ex_call (kind := 0) (y := 115) (as := [.long x1, .int x5]) (rest := []) (L0 := [some (.long x1), none, some (.int x5)]) (d' := 1) (v := some (.int r1)) (σ1 := (S, M, O)) rfl rfl mt_115 rfl rfl (by omega) (X_m_bit (Nat.le_refl _) _ _ _ hx2) (Ex_st (st2 := [.int r1]) rfl ?_)
    refine Ex_go 2 (pc' := if ¬ r1 = (1 : Int32) then 104 else 76) (L' := [some (.ref 1000), some (.long x1), none, some (.int x3), some (.int x4), some (.int x5), some (.int x6), none]) (st' := []) (σ' := (S, M, O)) (rfl) ?_
    refine Ex_brN (fun hc => ?_) (fun hc => ?_)
    · rw [if_pos hc] at hF
      refine Ex_go 6 (pc' := 87) (L' := [some (.ref 1000), some (.long x1), none, some (.int x3), some (.int x4), some (.int x5), some (.int x6), none]) (st' := [.int x4, .int (x5 + x6), .ref 1015]) (σ' := (S, M, O)) (rfl) ?_
      obtain ⟨hc3, hF⟩ := ck_i hF
      refine Ex_chk (b := nzI x4) (pc' := 88) (L' := [some (.ref 1000), some (.long x1), none, some (.int x3), some (.int x4), some (.int x5), some (.int x6), none]) (st' := [.int ((x5 + x6) - (x5 + x6) / x4 * x4), .ref 1015]) (σ' := (S, M, O)) rfl hc3 ?_
      refine Ex_go 1 (pc' := 89) (L' := [some (.ref 1000), some (.long x1), none, some (.int x3), some (.int x4), some (.int x5), some (.int x6), none]) (st' := [.int ((x5 + x6) - (x5 + x6) / x4 * x4), .ref 1015, .int ((x5 + x6) - (x5 + x6) / x4 * x4), .ref 1015]) (σ' := (S, M, O)) (rfl) ?_
      obtain ⟨hc4, hF⟩ := ck_i hF
      refine Ex_chk (b := ib ((x5 + x6) - (x5 + x6) / x4 * x4) 60) (pc' := 90) (L' := [some (.ref 1000), some (.long x1), none, some (.int x3), some (.int x4), some (.int x5), some (.int x6), none]) (st' := [.int (ai M 1015 (Int32.toNatClampNeg ((x5 + x6) - (x5 + x6) / x4 * x4))), .int ((x5 + x6) - (x5 + x6) / x4 * x4), .ref 1015]) (σ' := (S, M, O)) rfl hc4 ?_
      refine Ex_go 2 (pc' := 93) (L' := [some (.ref 1000), some (.long x1), none, some (.int x3), some (.int x4), some (.int x5), some (.int x6), none]) (st' := [.int x6, .long x1, .int (ai M 1015 (Int32.toNatClampNeg ((x5 + x6) - (x5 + x6) / x4 * x4))), .int ((x5 + x6) - (x5 + x6) / x4 * x4), .ref 1015]) (σ' := (S, M, O)) (rfl) ?_
      obtain ⟨r5, hx6, hF⟩ := b1_i hF
      refine Ex_call (kind := 0) (y := 115) (as := [.long x1, .int x6]) (rest := [.int (ai M 1015 (Int32.toNatClampNeg ((x5 + x6) - (x5 + x6) / x4 * x4))), .int ((x5 + x6) - (x5 + x6) / x4 * x4), .ref 1015]) (L0 := [some (.long x1), none, some (.int x6)]) (d' := 1) (v := some (.int r5)) (σ1 := (S, M, O)) rfl rfl mt_115 rfl rfl (by omega) (X_m_bit (Nat.le_refl _) _ _ _ hx6) (Ex_st (st2 := [.int r5, .int (ai M 1015 (Int32.toNatClampNeg ((x5 + x6) - (x5 + x6) / x4 * x4))), .int ((x5 + x6) - (x5 + x6) / x4 * x4), .ref 1015]) rfl ?_)
      refine Ex_go 1 (pc' := 97) (L' := [some (.ref 1000), some (.long x1), none, some (.int x3), some (.int x4), some (.int x5), some (.int x6), none]) (st' := [.int ((ai M 1015 (Int32.toNatClampNeg ((x5 + x6) - (x5 + x6) / x4 * x4))) + r5), .int ((x5 + x6) - (x5 + x6) / x4 * x4), .ref 1015]) (σ' := (S, M, O)) (rfl) ?_
      obtain ⟨hc7, hF⟩ := ck_i hF
      refine Ex_chk (b := ib ((x5 + x6) - (x5 + x6) / x4 * x4) 60) (pc' := 98) (L' := [some (.ref 1000), some (.long x1), none, some (.int x3), some (.int x4), some (.int x5), some (.int x6), none]) (st' := []) (σ' := (S, (ui M 1015 (upd (ai M 1015) (Int32.toNatClampNeg ((x5 + x6) - (x5 + x6) / x4 * x4)) ((ai M 1015 (Int32.toNatClampNeg ((x5 + x6) - (x5 + x6) / x4 * x4))) + r5))), O)) rfl hc7 ?_
      refine Ex_go 2 (pc' := 59) (L' := [some (.ref 1000), some (.long x1), none, some (.int x3), some (.int x4), some (.int x5), some (.int (x6 + (1 : Int32))), none]) (st' := []) (σ' := (S, (ui M 1015 (upd (ai M 1015) (Int32.toNatClampNeg ((x5 + x6) - (x5 + x6) / x4 * x4)) ((ai M 1015 (Int32.toNatClampNeg ((x5 + x6) - (x5 + x6) / x4 * x4))) + r5))), O)) (rfl) ?_
      exact Ex_mono (L := [some (.ref 1000), some (.long x1), none, some (.int x3), some (.int x4), some (.int x5), some (.int (x6 + (1 : Int32))), none]) (Le_s (Le_s (Le_n (Le_s (Le_s (Le_s (Le_s (Le_n (Le_0))))))))) (ih _ _ _ _ _ _ _ _ hF) (Nat.le_refl _) (by omega)
    · rw [if_neg hc] at hF
      exact Ex_mono (L := [some (.ref 1000), some (.long x1), none, some (.int x3), some (.int x4), some (.int x5), none, none]) (Le_s (Le_s (Le_n (Le_s (Le_s (Le_s (Le_n (Le_n (Le_0))))))))) (X_m_spawned_104 hd hk46 _ _ _ _ _ _ _ hF) (Nat.le_refl _) (by omega)
def F_m_spawned_227 (k134 : Int64 → Int32 → Int64 → Int32 → Sto → Option (Int64 × Sto)) (x1 : Int64) (x4 : Int32) (x5 : Int64) (x7 : Int32) (M : Sto) : Option (Int64 × Sto) := k134 x1 x4 x5 (x7 + (1 : Int32)) M
set_option maxRecDepth 100000 in
theorem X_m_spawned_227 {nL : Nat} {xs : Nat → Int32} {S : Sto} {O : Sto} {d : Nat} (hd : 3 ≤ d) {k134 : Int64 → Int32 → Int64 → Int32 → Sto → Option (Int64 × Sto)} (hk134 : ∀ (x1 : Int64) (x4 : Int32) (x5 : Int64) (x7 : Int32) (M : Sto) (r : Int64) (M' : Sto), k134 x1 x4 x5 x7 M = some (r, M') → EX nL xs 0 MI_118 d 134 [some (.ref 1000), some (.long x1), none, none, some (.int x4), some (.long x5), none, some (.int x7)] [] (S, M, O) (.inl (some (.long r))) (S, M', O)) : ∀ (x1 : Int64) (x4 : Int32) (x5 : Int64) (x7 : Int32) (M : Sto) (r : Int64) (M' : Sto), F_m_spawned_227 k134 x1 x4 x5 x7 M = some (r, M') → EX nL xs 0 MI_118 d 227 [some (.ref 1000), some (.long x1), none, none, some (.int x4), some (.long x5), none, some (.int x7)] [] (S, M, O) (.inl (some (.long r))) (S, M', O) := by
  intro x1 x4 x5 x7 M r M' hF
  unfold F_m_spawned_227 at hF
  refine Ex_go 2 (pc' := 134) (L' := [some (.ref 1000), some (.long x1), none, none, some (.int x4), some (.long x5), none, some (.int (x7 + (1 : Int32)))]) (st' := []) (σ' := (S, M, O)) (rfl) ?_
  exact Ex_mono (L := [some (.ref 1000), some (.long x1), none, none, some (.int x4), some (.long x5), none, some (.int (x7 + (1 : Int32)))]) (Le_s (Le_s (Le_n (Le_n (Le_s (Le_s (Le_n (Le_s (Le_0))))))))) (hk134 _ _ _ _ _ _ _ hF) (Nat.le_refl _) (by omega)
def F_m_spawned_134 : Nat → Int64 → Int32 → Int64 → Int32 → Sto → Option (Int64 × Sto)
  | 0, _, _, _, _, _ => none
  | n + 1, x1, x4, x5, x7, M => if x4 ≤ x7 then some (x5, M) else b1 (F_m_bit x1 x7) (fun r1 => ck (nzI x4) (b1 (F_m_bit x1 (((x7 + x4) - (1 : Int32)) - ((x7 + x4) - (1 : Int32)) / x4 * x4)) (fun r4 => ck (nzI x4) (b1 (F_m_bit x1 ((x7 + (1 : Int32)) - (x7 + (1 : Int32)) / x4 * x4)) (fun r7 => ck (ib x7 60) (b2 (F_m_valueNow (ui (ui (ui (ui (ui M 1013 (upd (ai M 1013) (Int32.toNatClampNeg (0 : Int32)) x7)) 1013 (upd (ai (ui M 1013 (upd (ai M 1013) (Int32.toNatClampNeg (0 : Int32)) x7)) 1013) (Int32.toNatClampNeg (1 : Int32)) r1)) 1013 (upd (ai (ui (ui M 1013 (upd (ai M 1013) (Int32.toNatClampNeg (0 : Int32)) x7)) 1013 (upd (ai (ui M 1013 (upd (ai M 1013) (Int32.toNatClampNeg (0 : Int32)) x7)) 1013) (Int32.toNatClampNeg (1 : Int32)) r1)) 1013) (Int32.toNatClampNeg (2 : Int32)) r4)) 1013 (upd (ai (ui (ui (ui M 1013 (upd (ai M 1013) (Int32.toNatClampNeg (0 : Int32)) x7)) 1013 (upd (ai (ui M 1013 (upd (ai M 1013) (Int32.toNatClampNeg (0 : Int32)) x7)) 1013) (Int32.toNatClampNeg (1 : Int32)) r1)) 1013 (upd (ai (ui (ui M 1013 (upd (ai M 1013) (Int32.toNatClampNeg (0 : Int32)) x7)) 1013 (upd (ai (ui M 1013 (upd (ai M 1013) (Int32.toNatClampNeg (0 : Int32)) x7)) 1013) (Int32.toNatClampNeg (1 : Int32)) r1)) 1013) (Int32.toNatClampNeg (2 : Int32)) r4)) 1013) (Int32.toNatClampNeg (3 : Int32)) r7)) 1013 (upd (ai (ui (ui (ui (ui M 1013 (upd (ai M 1013) (Int32.toNatClampNeg (0 : Int32)) x7)) 1013 (upd (ai (ui M 1013 (upd (ai M 1013) (Int32.toNatClampNeg (0 : Int32)) x7)) 1013) (Int32.toNatClampNeg (1 : Int32)) r1)) 1013 (upd (ai (ui (ui M 1013 (upd (ai M 1013) (Int32.toNatClampNeg (0 : Int32)) x7)) 1013 (upd (ai (ui M 1013 (upd (ai M 1013) (Int32.toNatClampNeg (0 : Int32)) x7)) 1013) (Int32.toNatClampNeg (1 : Int32)) r1)) 1013) (Int32.toNatClampNeg (2 : Int32)) r4)) 1013 (upd (ai (ui (ui (ui M 1013 (upd (ai M 1013) (Int32.toNatClampNeg (0 : Int32)) x7)) 1013 (upd (ai (ui M 1013 (upd (ai M 1013) (Int32.toNatClampNeg (0 : Int32)) x7)) 1013) (Int32.toNatClampNeg (1 : Int32)) r1)) 1013 (upd (ai (ui (ui M 1013 (upd (ai M 1013) (Int32.toNatClampNeg (0 : Int32)) x7)) 1013 (upd (ai (ui M 1013 (upd (ai M 1013) (Int32.toNatClampNeg (0 : Int32)) x7)) 1013) (Int32.toNatClampNeg (1 : Int32)) r1)) 1013) (Int32.toNatClampNeg (2 : Int32)) r4)) 1013) (Int32.toNatClampNeg (3 : Int32)) r7)) 1013) (Int32.toNatClampNeg (4 : Int32)) (ai (ui (ui (ui (ui M 1013 (upd (ai M 1013) (Int32.toNatClampNeg (0 : Int32)) x7)) 1013 (upd (ai (ui M 1013 (upd (ai M 1013) (Int32.toNatClampNeg (0 : Int32)) x7)) 1013) (Int32.toNatClampNeg (1 : Int32)) r1)) 1013 (upd (ai (ui (ui M 1013 (upd (ai M 1013) (Int32.toNatClampNeg (0 : Int32)) x7)) 1013 (upd (ai (ui M 1013 (upd (ai M 1013) (Int32.toNatClampNeg (0 : Int32)) x7)) 1013) (Int32.toNatClampNeg (1 : Int32)) r1)) 1013) (Int32.toNatClampNeg (2 : Int32)) r4)) 1013 (upd (ai (ui (ui (ui M 1013 (upd (ai M 1013) (Int32.toNatClampNeg (0 : Int32)) x7)) 1013 (upd (ai (ui M 1013 (upd (ai M 1013) (Int32.toNatClampNeg (0 : Int32)) x7)) 1013) (Int32.toNatClampNeg (1 : Int32)) r1)) 1013 (upd (ai (ui (ui M 1013 (upd (ai M 1013) (Int32.toNatClampNeg (0 : Int32)) x7)) 1013 (upd (ai (ui M 1013 (upd (ai M 1013) (Int32.toNatClampNeg (0 : Int32)) x7)) 1013) (Int32.toNatClampNeg (1 : Int32)) r1)) 1013) (Int32.toNatClampNeg (2 : Int32)) r4)) 1013) (Int32.toNatClampNeg (3 : Int32)) r7)) 1015 (Int32.toNatClampNeg x7))))) (fun r10 M12 => if r10 = 0 then F_m_spawned_227 (F_m_spawned_134 n) x1 x4 x5 x7 M12 else F_m_spawned_227 (F_m_spawned_134 n) x1 x4 (x5 ||| ((1 : Int64) <<< (Int32.toInt64 x7 &&& 63))) x7 M12)))))))
set_option maxRecDepth 100000 in
theorem X_m_spawned_134 {nL : Nat} {xs : Nat → Int32} {S : Sto} {O : Sto} {d : Nat} (hd : 3 ≤ d) : ∀ n : Nat, ∀ (x1 : Int64) (x4 : Int32) (x5 : Int64) (x7 : Int32) (M : Sto) (r : Int64) (M' : Sto), F_m_spawned_134 n x1 x4 x5 x7 M = some (r, M') → EX nL xs 0 MI_118 d 134 [some (.ref 1000), some (.long x1), none, none, some (.int x4), some (.long x5), none, some (.int x7)] [] (S, M, O) (.inl (some (.long r))) (S, M', O) := by
  intro n
  induction n with
  | zero => intro x1 x4 x5 x7 M r M' hF; cases hF
  | succ n ih =>
  intro x1 x4 x5 x7 M r M' hF
  unfold F_m_spawned_134 at hF
  refine Ex_go 3 (pc' := if x4 ≤ x7 then 233 else 141) (L' := [some (.ref 1000), some (.long x1), none, none, some (.int x4), some (.long x5), none, some (.int x7)]) (st' := []) (σ' := (S, M, O)) (rfl) ?_
  refine Ex_br (fun hc => ?_) (fun hc => ?_)
  · rw [if_pos hc] at hF
    refine Ex_go 1 (pc' := 235) (L' := [some (.ref 1000), some (.long x1), none, none, some (.int x4), some (.long x5), none, some (.int x7)]) (st' := [.long x5]) (σ' := (S, M, O)) (rfl) ?_
    cases hF
    exact Ex_fin rfl
  · rw [if_neg hc] at hF
    refine Ex_go 4 (pc' := 148) (L' := [some (.ref 1000), some (.long x1), none, none, some (.int x4), some (.long x5), none, some (.int x7)]) (st' := [.int x7, .int (0 : Int32), .ref 1013]) (σ' := (S, M, O)) (rfl) ?_
    refine Ex_chk (b := ib (0 : Int32) 7) (pc' := 149) (L' := [some (.ref 1000), some (.long x1), none, none, some (.int x4), some (.long x5), none, some (.int x7)]) (st' := []) (σ' := (S, (ui M 1013 (upd (ai M 1013) (Int32.toNatClampNeg (0 : Int32)) x7)), O)) rfl (by decide) ?_
    refine Ex_go 5 (pc' := 157) (L' := [some (.ref 1000), some (.long x1), none, none, some (.int x4), some (.long x5), none, some (.int x7)]) (st' := [.int x7, .long x1, .int (1 : Int32), .ref 1013]) (σ' := (S, (ui M 1013 (upd (ai M 1013) (Int32.toNatClampNeg (0 : Int32)) x7)), O)) (rfl) ?_
    obtain ⟨r1, hx2, hF⟩ := b1_i hF
    refine Ex_call (kind := 0) (y := 115) (as := [.long x1, .int x7]) (rest := [.int (1 : Int32), .ref 1013]) (L0 := [some (.long x1), none, some (.int x7)]) (d' := 1) (v := some (.int r1)) (σ1 := (S, (ui M 1013 (upd (ai M 1013) (Int32.toNatClampNeg (0 : Int32)) x7)), O)) rfl rfl mt_115 rfl rfl (by omega) (X_m_bit (Nat.le_refl _) _ _ _ hx2) (Ex_st (st2 := [.int r1, .int (1 : Int32), .ref 1013]) rfl ?_)
    refine Ex_chk (b := ib (1 : Int32) 7) (pc' := 161) (L' := [some (.ref 1000), some (.long x1), none, none, some (.int x4), some (.long x5), none, some (.int x7)]) (st' := []) (σ' := (S, (ui (ui M 1013 (upd (ai M 1013) (Int32.toNatClampNeg (0 : Int32)) x7)) 1013 (upd (ai (ui M 1013 (upd (ai M 1013) (Int32.toNatClampNeg (0 : Int32)) x7)) 1013) (Int32.toNatClampNeg (1 : Int32)) r1)), O)) rfl (by decide) ?_
    refine Ex_go 10 (pc' := 176) (L' := [some (.ref 1000), some (.long x1), none, none, some (.int x4), some (.long x5), none, some (.int x7)]) (st' := [.int x4, .int ((x7 + x4) - (1 : Int32)), .long x1, .int (2 : Int32), .ref 1013]) (σ' := (S, (ui (ui M 1013 (upd (ai M 1013) (Int32.toNatClampNeg (0 : Int32)) x7)) 1013 (upd (ai (ui M 1013 (upd (ai M 1013) (Int32.toNatClampNeg (0 : Int32)) x7)) 1013) (Int32.toNatClampNeg (1 : Int32)) r1)), O)) (rfl) ?_
    obtain ⟨hc3, hF⟩ := ck_i hF
    refine Ex_chk (b := nzI x4) (pc' := 177) (L' := [some (.ref 1000), some (.long x1), none, none, some (.int x4), some (.long x5), none, some (.int x7)]) (st' := [.int (((x7 + x4) - (1 : Int32)) - ((x7 + x4) - (1 : Int32)) / x4 * x4), .long x1, .int (2 : Int32), .ref 1013]) (σ' := (S, (ui (ui M 1013 (upd (ai M 1013) (Int32.toNatClampNeg (0 : Int32)) x7)) 1013 (upd (ai (ui M 1013 (upd (ai M 1013) (Int32.toNatClampNeg (0 : Int32)) x7)) 1013) (Int32.toNatClampNeg (1 : Int32)) r1)), O)) rfl hc3 ?_
    obtain ⟨r4, hx5, hF⟩ := b1_i hF
    refine Ex_call (kind := 0) (y := 115) (as := [.long x1, .int (((x7 + x4) - (1 : Int32)) - ((x7 + x4) - (1 : Int32)) / x4 * x4)]) (rest := [.int (2 : Int32), .ref 1013]) (L0 := [some (.long x1), none, some (.int (((x7 + x4) - (1 : Int32)) - ((x7 + x4) - (1 : Int32)) / x4 * x4))]) (d' := 1) (v := some (.int r4)) (σ1 := (S, (ui (ui M 1013 (upd (ai M 1013) (Int32.toNatClampNeg (0 : Int32)) x7)) 1013 (upd (ai (ui M 1013 (upd (ai M 1013) (Int32.toNatClampNeg (0 : Int32)) x7)) 1013) (Int32.toNatClampNeg (1 : Int32)) r1)), O)) rfl rfl mt_115 rfl rfl (by omega) (X_m_bit (Nat.le_refl _) _ _ _ hx5) (Ex_st (st2 := [.int r4, .int (2 : Int32), .ref 1013]) rfl ?_)
    refine Ex_chk (b := ib (2 : Int32) 7) (pc' := 181) (L' := [some (.ref 1000), some (.long x1), none, none, some (.int x4), some (.long x5), none, some (.int x7)]) (st' := []) (σ' := (S, (ui (ui (ui M 1013 (upd (ai M 1013) (Int32.toNatClampNeg (0 : Int32)) x7)) 1013 (upd (ai (ui M 1013 (upd (ai M 1013) (Int32.toNatClampNeg (0 : Int32)) x7)) 1013) (Int32.toNatClampNeg (1 : Int32)) r1)) 1013 (upd (ai (ui (ui M 1013 (upd (ai M 1013) (Int32.toNatClampNeg (0 : Int32)) x7)) 1013 (upd (ai (ui M 1013 (upd (ai M 1013) (Int32.toNatClampNeg (0 : Int32)) x7)) 1013) (Int32.toNatClampNeg (1 : Int32)) r1)) 1013) (Int32.toNatClampNeg (2 : Int32)) r4)), O)) rfl (by decide) ?_
    refine Ex_go 8 (pc' := 193) (L' := [some (.ref 1000), some (.long x1), none, none, some (.int x4), some (.long x5), none, some (.int x7)]) (st' := [.int x4, .int (x7 + (1 : Int32)), .long x1, .int (3 : Int32), .ref 1013]) (σ' := (S, (ui (ui (ui M 1013 (upd (ai M 1013) (Int32.toNatClampNeg (0 : Int32)) x7)) 1013 (upd (ai (ui M 1013 (upd (ai M 1013) (Int32.toNatClampNeg (0 : Int32)) x7)) 1013) (Int32.toNatClampNeg (1 : Int32)) r1)) 1013 (upd (ai (ui (ui M 1013 (upd (ai M 1013) (Int32.toNatClampNeg (0 : Int32)) x7)) 1013 (upd (ai (ui M 1013 (upd (ai M 1013) (Int32.toNatClampNeg (0 : Int32)) x7)) 1013) (Int32.toNatClampNeg (1 : Int32)) r1)) 1013) (Int32.toNatClampNeg (2 : Int32)) r4)), O)) (rfl) ?_
    obtain ⟨hc6, hF⟩ := ck_i hF
    refine Ex_chk (b := nzI x4) (pc' := 194) (L' := [some (.ref 1000), some (.long x1), none, none, some (.int x4), some (.long x5), none, some (.int x7)]) (st' := [.int ((x7 + (1 : Int32)) - (x7 + (1 : Int32)) / x4 * x4), .long x1, .int (3 : Int32), .ref 1013]) (σ' := (S, (ui (ui (ui M 1013 (upd (ai M 1013) (Int32.toNatClampNeg (0 : Int32)) x7)) 1013 (upd (ai (ui M 1013 (upd (ai M 1013) (Int32.toNatClampNeg (0 : Int32)) x7)) 1013) (Int32.toNatClampNeg (1 : Int32)) r1)) 1013 (upd (ai (ui (ui M 1013 (upd (ai M 1013) (Int32.toNatClampNeg (0 : Int32)) x7)) 1013 (upd (ai (ui M 1013 (upd (ai M 1013) (Int32.toNatClampNeg (0 : Int32)) x7)) 1013) (Int32.toNatClampNeg (1 : Int32)) r1)) 1013) (Int32.toNatClampNeg (2 : Int32)) r4)), O)) rfl hc6 ?_
    obtain ⟨r7, hx8, hF⟩ := b1_i hF
    refine Ex_call (kind := 0) (y := 115) (as := [.long x1, .int ((x7 + (1 : Int32)) - (x7 + (1 : Int32)) / x4 * x4)]) (rest := [.int (3 : Int32), .ref 1013]) (L0 := [some (.long x1), none, some (.int ((x7 + (1 : Int32)) - (x7 + (1 : Int32)) / x4 * x4))]) (d' := 1) (v := some (.int r7)) (σ1 := (S, (ui (ui (ui M 1013 (upd (ai M 1013) (Int32.toNatClampNeg (0 : Int32)) x7)) 1013 (upd (ai (ui M 1013 (upd (ai M 1013) (Int32.toNatClampNeg (0 : Int32)) x7)) 1013) (Int32.toNatClampNeg (1 : Int32)) r1)) 1013 (upd (ai (ui (ui M 1013 (upd (ai M 1013) (Int32.toNatClampNeg (0 : Int32)) x7)) 1013 (upd (ai (ui M 1013 (upd (ai M 1013) (Int32.toNatClampNeg (0 : Int32)) x7)) 1013) (Int32.toNatClampNeg (1 : Int32)) r1)) 1013) (Int32.toNatClampNeg (2 : Int32)) r4)), O)) rfl rfl mt_115 rfl rfl (by omega) (X_m_bit (Nat.le_refl _) _ _ _ hx8) (Ex_st (st2 := [.int r7, .int (3 : Int32), .ref 1013]) rfl ?_)
    refine Ex_chk (b := ib (3 : Int32) 7) (pc' := 198) (L' := [some (.ref 1000), some (.long x1), none, none, some (.int x4), some (.long x5), none, some (.int x7)]) (st' := []) (σ' := (S, (ui (ui (ui (ui M 1013 (upd (ai M 1013) (Int32.toNatClampNeg (0 : Int32)) x7)) 1013 (upd (ai (ui M 1013 (upd (ai M 1013) (Int32.toNatClampNeg (0 : Int32)) x7)) 1013) (Int32.toNatClampNeg (1 : Int32)) r1)) 1013 (upd (ai (ui (ui M 1013 (upd (ai M 1013) (Int32.toNatClampNeg (0 : Int32)) x7)) 1013 (upd (ai (ui M 1013 (upd (ai M 1013) (Int32.toNatClampNeg (0 : Int32)) x7)) 1013) (Int32.toNatClampNeg (1 : Int32)) r1)) 1013) (Int32.toNatClampNeg (2 : Int32)) r4)) 1013 (upd (ai (ui (ui (ui M 1013 (upd (ai M 1013) (Int32.toNatClampNeg (0 : Int32)) x7)) 1013 (upd (ai (ui M 1013 (upd (ai M 1013) (Int32.toNatClampNeg (0 : Int32)) x7)) 1013) (Int32.toNatClampNeg (1 : Int32)) r1)) 1013 (upd (ai (ui (ui M 1013 (upd (ai M 1013) (Int32.toNatClampNeg (0 : Int32)) x7)) 1013 (upd (ai (ui M 1013 (upd (ai M 1013) (Int32.toNatClampNeg (0 : Int32)) x7)) 1013) (Int32.toNatClampNeg (1 : Int32)) r1)) 1013) (Int32.toNatClampNeg (2 : Int32)) r4)) 1013) (Int32.toNatClampNeg (3 : Int32)) r7)), O)) rfl (by decide) ?_
    refine Ex_go 6 (pc' := 209) (L' := [some (.ref 1000), some (.long x1), none, none, some (.int x4), some (.long x5), none, some (.int x7)]) (st' := [.int x7, .ref 1015, .int (4 : Int32), .ref 1013]) (σ' := (S, (ui (ui (ui (ui M 1013 (upd (ai M 1013) (Int32.toNatClampNeg (0 : Int32)) x7)) 1013 (upd (ai (ui M 1013 (upd (ai M 1013) (Int32.toNatClampNeg (0 : Int32)) x7)) 1013) (Int32.toNatClampNeg (1 : Int32)) r1)) 1013 (upd (ai (ui (ui M 1013 (upd (ai M 1013) (Int32.toNatClampNeg (0 : Int32)) x7)) 1013 (upd (ai (ui M 1013 (upd (ai M 1013) (Int32.toNatClampNeg (0 : Int32)) x7)) 1013) (Int32.toNatClampNeg (1 : Int32)) r1)) 1013) (Int32.toNatClampNeg (2 : Int32)) r4)) 1013 (upd (ai (ui (ui (ui M 1013 (upd (ai M 1013) (Int32.toNatClampNeg (0 : Int32)) x7)) 1013 (upd (ai (ui M 1013 (upd (ai M 1013) (Int32.toNatClampNeg (0 : Int32)) x7)) 1013) (Int32.toNatClampNeg (1 : Int32)) r1)) 1013 (upd (ai (ui (ui M 1013 (upd (ai M 1013) (Int32.toNatClampNeg (0 : Int32)) x7)) 1013 (upd (ai (ui M 1013 (upd (ai M 1013) (Int32.toNatClampNeg (0 : Int32)) x7)) 1013) (Int32.toNatClampNeg (1 : Int32)) r1)) 1013) (Int32.toNatClampNeg (2 : Int32)) r4)) 1013) (Int32.toNatClampNeg (3 : Int32)) r7)), O)) (rfl) ?_
    obtain ⟨hc9, hF⟩ := ck_i hF
    refine Ex_chk (b := ib x7 60) (pc' := 210) (L' := [some (.ref 1000), some (.long x1), none, none, some (.int x4), some (.long x5), none, some (.int x7)]) (st' := [.int (ai (ui (ui (ui (ui M 1013 (upd (ai M 1013) (Int32.toNatClampNeg (0 : Int32)) x7)) 1013 (upd (ai (ui M 1013 (upd (ai M 1013) (Int32.toNatClampNeg (0 : Int32)) x7)) 1013) (Int32.toNatClampNeg (1 : Int32)) r1)) 1013 (upd (ai (ui (ui M 1013 (upd (ai M 1013) (Int32.toNatClampNeg (0 : Int32)) x7)) 1013 (upd (ai (ui M 1013 (upd (ai M 1013) (Int32.toNatClampNeg (0 : Int32)) x7)) 1013) (Int32.toNatClampNeg (1 : Int32)) r1)) 1013) (Int32.toNatClampNeg (2 : Int32)) r4)) 1013 (upd (ai (ui (ui (ui M 1013 (upd (ai M 1013) (Int32.toNatClampNeg (0 : Int32)) x7)) 1013 (upd (ai (ui M 1013 (upd (ai M 1013) (Int32.toNatClampNeg (0 : Int32)) x7)) 1013) (Int32.toNatClampNeg (1 : Int32)) r1)) 1013 (upd (ai (ui (ui M 1013 (upd (ai M 1013) (Int32.toNatClampNeg (0 : Int32)) x7)) 1013 (upd (ai (ui M 1013 (upd (ai M 1013) (Int32.toNatClampNeg (0 : Int32)) x7)) 1013) (Int32.toNatClampNeg (1 : Int32)) r1)) 1013) (Int32.toNatClampNeg (2 : Int32)) r4)) 1013) (Int32.toNatClampNeg (3 : Int32)) r7)) 1015 (Int32.toNatClampNeg x7)), .int (4 : Int32), .ref 1013]) (σ' := (S, (ui (ui (ui (ui M 1013 (upd (ai M 1013) (Int32.toNatClampNeg (0 : Int32)) x7)) 1013 (upd (ai (ui M 1013 (upd (ai M 1013) (Int32.toNatClampNeg (0 : Int32)) x7)) 1013) (Int32.toNatClampNeg (1 : Int32)) r1)) 1013 (upd (ai (ui (ui M 1013 (upd (ai M 1013) (Int32.toNatClampNeg (0 : Int32)) x7)) 1013 (upd (ai (ui M 1013 (upd (ai M 1013) (Int32.toNatClampNeg (0 : Int32)) x7)) 1013) (Int32.toNatClampNeg (1 : Int32)) r1)) 1013) (Int32.toNatClampNeg (2 : Int32)) r4)) 1013 (upd (ai (ui (ui (ui M 1013 (upd (ai M 1013) (Int32.toNatClampNeg (0 : Int32)) x7)) 1013 (upd (ai (ui M 1013 (upd (ai M 1013) (Int32.toNatClampNeg (0 : Int32)) x7)) 1013) (Int32.toNatClampNeg (1 : Int32)) r1)) 1013 (upd (ai (ui (ui M 1013 (upd (ai M 1013) (Int32.toNatClampNeg (0 : Int32)) x7)) 1013 (upd (ai (ui M 1013 (upd (ai M 1013) (Int32.toNatClampNeg (0 : Int32)) x7)) 1013) (Int32.toNatClampNeg (1 : Int32)) r1)) 1013) (Int32.toNatClampNeg (2 : Int32)) r4)) 1013) (Int32.toNatClampNeg (3 : Int32)) r7)), O)) rfl hc9 ?_
    refine Ex_chk (b := ib (4 : Int32) 7) (pc' := 211) (L' := [some (.ref 1000), some (.long x1), none, none, some (.int x4), some (.long x5), none, some (.int x7)]) (st' := []) (σ' := (S, (ui (ui (ui (ui (ui M 1013 (upd (ai M 1013) (Int32.toNatClampNeg (0 : Int32)) x7)) 1013 (upd (ai (ui M 1013 (upd (ai M 1013) (Int32.toNatClampNeg (0 : Int32)) x7)) 1013) (Int32.toNatClampNeg (1 : Int32)) r1)) 1013 (upd (ai (ui (ui M 1013 (upd (ai M 1013) (Int32.toNatClampNeg (0 : Int32)) x7)) 1013 (upd (ai (ui M 1013 (upd (ai M 1013) (Int32.toNatClampNeg (0 : Int32)) x7)) 1013) (Int32.toNatClampNeg (1 : Int32)) r1)) 1013) (Int32.toNatClampNeg (2 : Int32)) r4)) 1013 (upd (ai (ui (ui (ui M 1013 (upd (ai M 1013) (Int32.toNatClampNeg (0 : Int32)) x7)) 1013 (upd (ai (ui M 1013 (upd (ai M 1013) (Int32.toNatClampNeg (0 : Int32)) x7)) 1013) (Int32.toNatClampNeg (1 : Int32)) r1)) 1013 (upd (ai (ui (ui M 1013 (upd (ai M 1013) (Int32.toNatClampNeg (0 : Int32)) x7)) 1013 (upd (ai (ui M 1013 (upd (ai M 1013) (Int32.toNatClampNeg (0 : Int32)) x7)) 1013) (Int32.toNatClampNeg (1 : Int32)) r1)) 1013) (Int32.toNatClampNeg (2 : Int32)) r4)) 1013) (Int32.toNatClampNeg (3 : Int32)) r7)) 1013 (upd (ai (ui (ui (ui (ui M 1013 (upd (ai M 1013) (Int32.toNatClampNeg (0 : Int32)) x7)) 1013 (upd (ai (ui M 1013 (upd (ai M 1013) (Int32.toNatClampNeg (0 : Int32)) x7)) 1013) (Int32.toNatClampNeg (1 : Int32)) r1)) 1013 (upd (ai (ui (ui M 1013 (upd (ai M 1013) (Int32.toNatClampNeg (0 : Int32)) x7)) 1013 (upd (ai (ui M 1013 (upd (ai M 1013) (Int32.toNatClampNeg (0 : Int32)) x7)) 1013) (Int32.toNatClampNeg (1 : Int32)) r1)) 1013) (Int32.toNatClampNeg (2 : Int32)) r4)) 1013 (upd (ai (ui (ui (ui M 1013 (upd (ai M 1013) (Int32.toNatClampNeg (0 : Int32)) x7)) 1013 (upd (ai (ui M 1013 (upd (ai M 1013) (Int32.toNatClampNeg (0 : Int32)) x7)) 1013) (Int32.toNatClampNeg (1 : Int32)) r1)) 1013 (upd (ai (ui (ui M 1013 (upd (ai M 1013) (Int32.toNatClampNeg (0 : Int32)) x7)) 1013 (upd (ai (ui M 1013 (upd (ai M 1013) (Int32.toNatClampNeg (0 : Int32)) x7)) 1013) (Int32.toNatClampNeg (1 : Int32)) r1)) 1013) (Int32.toNatClampNeg (2 : Int32)) r4)) 1013) (Int32.toNatClampNeg (3 : Int32)) r7)) 1013) (Int32.toNatClampNeg (4 : Int32)) (ai (ui (ui (ui (ui M 1013 (upd (ai M 1013) (Int32.toNatClampNeg (0 : Int32)) x7)) 1013 (upd (ai (ui M 1013 (upd (ai M 1013) (Int32.toNatClampNeg (0 : Int32)) x7)) 1013) (Int32.toNatClampNeg (1 : Int32)) r1)) 1013 (upd (ai (ui (ui M 1013 (upd (ai M 1013) (Int32.toNatClampNeg (0 : Int32)) x7)) 1013 (upd (ai (ui M 1013 (upd (ai M 1013) (Int32.toNatClampNeg (0 : Int32)) x7)) 1013) (Int32.toNatClampNeg (1 : Int32)) r1)) 1013) (Int32.toNatClampNeg (2 : Int32)) r4)) 1013 (upd (ai (ui (ui (ui M 1013 (upd (ai M 1013) (Int32.toNatClampNeg (0 : Int32)) x7)) 1013 (upd (ai (ui M 1013 (upd (ai M 1013) (Int32.toNatClampNeg (0 : Int32)) x7)) 1013) (Int32.toNatClampNeg (1 : Int32)) r1)) 1013 (upd (ai (ui (ui M 1013 (upd (ai M 1013) (Int32.toNatClampNeg (0 : Int32)) x7)) 1013 (upd (ai (ui M 1013 (upd (ai M 1013) (Int32.toNatClampNeg (0 : Int32)) x7)) 1013) (Int32.toNatClampNeg (1 : Int32)) r1)) 1013) (Int32.toNatClampNeg (2 : Int32)) r4)) 1013) (Int32.toNatClampNeg (3 : Int32)) r7)) 1015 (Int32.toNatClampNeg x7)))), O)) rfl (by decide) ?_
    refine Ex_go 1 (pc' := 212) (L' := [some (.ref 1000), some (.long x1), none, none, some (.int x4), some (.long x5), none, some (.int x7)]) (st' := [.ref 1000]) (σ' := (S, (ui (ui (ui (ui (ui M 1013 (upd (ai M 1013) (Int32.toNatClampNeg (0 : Int32)) x7)) 1013 (upd (ai (ui M 1013 (upd (ai M 1013) (Int32.toNatClampNeg (0 : Int32)) x7)) 1013) (Int32.toNatClampNeg (1 : Int32)) r1)) 1013 (upd (ai (ui (ui M 1013 (upd (ai M 1013) (Int32.toNatClampNeg (0 : Int32)) x7)) 1013 (upd (ai (ui M 1013 (upd (ai M 1013) (Int32.toNatClampNeg (0 : Int32)) x7)) 1013) (Int32.toNatClampNeg (1 : Int32)) r1)) 1013) (Int32.toNatClampNeg (2 : Int32)) r4)) 1013 (upd (ai (ui (ui (ui M 1013 (upd (ai M 1013) (Int32.toNatClampNeg (0 : Int32)) x7)) 1013 (upd (ai (ui M 1013 (upd (ai M 1013) (Int32.toNatClampNeg (0 : Int32)) x7)) 1013) (Int32.toNatClampNeg (1 : Int32)) r1)) 1013 (upd (ai (ui (ui M 1013 (upd (ai M 1013) (Int32.toNatClampNeg (0 : Int32)) x7)) 1013 (upd (ai (ui M 1013 (upd (ai M 1013) (Int32.toNatClampNeg (0 : Int32)) x7)) 1013) (Int32.toNatClampNeg (1 : Int32)) r1)) 1013) (Int32.toNatClampNeg (2 : Int32)) r4)) 1013) (Int32.toNatClampNeg (3 : Int32)) r7)) 1013 (upd (ai (ui (ui (ui (ui M 1013 (upd (ai M 1013) (Int32.toNatClampNeg (0 : Int32)) x7)) 1013 (upd (ai (ui M 1013 (upd (ai M 1013) (Int32.toNatClampNeg (0 : Int32)) x7)) 1013) (Int32.toNatClampNeg (1 : Int32)) r1)) 1013 (upd (ai (ui (ui M 1013 (upd (ai M 1013) (Int32.toNatClampNeg (0 : Int32)) x7)) 1013 (upd (ai (ui M 1013 (upd (ai M 1013) (Int32.toNatClampNeg (0 : Int32)) x7)) 1013) (Int32.toNatClampNeg (1 : Int32)) r1)) 1013) (Int32.toNatClampNeg (2 : Int32)) r4)) 1013 (upd (ai (ui (ui (ui M 1013 (upd (ai M 1013) (Int32.toNatClampNeg (0 : Int32)) x7)) 1013 (upd (ai (ui M 1013 (upd (ai M 1013) (Int32.toNatClampNeg (0 : Int32)) x7)) 1013) (Int32.toNatClampNeg (1 : Int32)) r1)) 1013 (upd (ai (ui (ui M 1013 (upd (ai M 1013) (Int32.toNatClampNeg (0 : Int32)) x7)) 1013 (upd (ai (ui M 1013 (upd (ai M 1013) (Int32.toNatClampNeg (0 : Int32)) x7)) 1013) (Int32.toNatClampNeg (1 : Int32)) r1)) 1013) (Int32.toNatClampNeg (2 : Int32)) r4)) 1013) (Int32.toNatClampNeg (3 : Int32)) r7)) 1013) (Int32.toNatClampNeg (4 : Int32)) (ai (ui (ui (ui (ui M 1013 (upd (ai M 1013) (Int32.toNatClampNeg (0 : Int32)) x7)) 1013 (upd (ai (ui M 1013 (upd (ai M 1013) (Int32.toNatClampNeg (0 : Int32)) x7)) 1013) (Int32.toNatClampNeg (1 : Int32)) r1)) 1013 (upd (ai (ui (ui M 1013 (upd (ai M 1013) (Int32.toNatClampNeg (0 : Int32)) x7)) 1013 (upd (ai (ui M 1013 (upd (ai M 1013) (Int32.toNatClampNeg (0 : Int32)) x7)) 1013) (Int32.toNatClampNeg (1 : Int32)) r1)) 1013) (Int32.toNatClampNeg (2 : Int32)) r4)) 1013 (upd (ai (ui (ui (ui M 1013 (upd (ai M 1013) (Int32.toNatClampNeg (0 : Int32)) x7)) 1013 (upd (ai (ui M 1013 (upd (ai M 1013) (Int32.toNatClampNeg (0 : Int32)) x7)) 1013) (Int32.toNatClampNeg (1 : Int32)) r1)) 1013 (upd (ai (ui (ui M 1013 (upd (ai M 1013) (Int32.toNatClampNeg (0 : Int32)) x7)) 1013 (upd (ai (ui M 1013 (upd (ai M 1013) (Int32.toNatClampNeg (0 : Int32)) x7)) 1013) (Int32.toNatClampNeg (1 : Int32)) r1)) 1013) (Int32.toNatClampNeg (2 : Int32)) r4)) 1013) (Int32.toNatClampNeg (3 : Int32)) r7)) 1015 (Int32.toNatClampNeg x7)))), O)) (rfl) ?_
    obtain ⟨r10, M12, hx11, hF⟩ := b2_i hF
    refine Ex_call (kind := 2) (y := 117) (as := [.ref 1000]) (rest := []) (L0 := [some (.ref 1000), none, none, none]) (d' := 2) (v := some (.int r10)) (σ1 := (S, M12, O)) rfl rfl mt_117 rfl rfl (by omega) (X_m_valueNow (Nat.le_refl _) _ _ _ hx11) (Ex_st (st2 := [.int r10]) rfl ?_)
    refine Ex_go 1 (pc' := if r10 = 0 then 227 else 218) (L' := [some (.ref 1000), some (.long x1), none, none, some (.int x4), some (.long x5), none, some (.int x7)]) (st' := []) (σ' := (S, M12, O)) (rfl) ?_
    refine Ex_br (fun hc => ?_) (fun hc => ?_)
    · rw [if_pos hc] at hF
      exact Ex_mono (L := [some (.ref 1000), some (.long x1), none, none, some (.int x4), some (.long x5), none, some (.int x7)]) (Le_s (Le_s (Le_n (Le_n (Le_s (Le_s (Le_n (Le_s (Le_0))))))))) (X_m_spawned_227 hd ih _ _ _ _ _ _ _ hF) (Nat.le_refl _) (by omega)
    · rw [if_neg hc] at hF
      refine Ex_go 6 (pc' := 227) (L' := [some (.ref 1000), some (.long x1), none, none, some (.int x4), some (.long (x5 ||| ((1 : Int64) <<< (Int32.toInt64 x7 &&& 63)))), none, some (.int x7)]) (st' := []) (σ' := (S, M12, O)) (rfl) ?_
      exact Ex_mono (L := [some (.ref 1000), some (.long x1), none, none, some (.int x4), some (.long (x5 ||| ((1 : Int64) <<< (Int32.toInt64 x7 &&& 63)))), none, some (.int x7)]) (Le_s (Le_s (Le_n (Le_n (Le_s (Le_s (Le_n (Le_s (Le_0))))))))) (X_m_spawned_227 hd ih _ _ _ _ _ _ _ hF) (Nat.le_refl _) (by omega)
def F_m_spawned_46 : Nat → Int64 → Int32 → Int32 → Int32 → Sto → Option (Int64 × Sto)
  | 0, _, _, _, _, _ => none
  | n + 1, x1, x3, x4, x5, M => if x4 ≤ x5 then b1 (F_m_bitsOf x1) (fun r1 => F_m_spawned_134 FU x1 x4 (0 : Int64) (0 : Int32) (ui (ui M 1013 (upd (ai M 1013) (Int32.toNatClampNeg (5 : Int32)) r1)) 1013 (upd (ai (ui M 1013 (upd (ai M 1013) (Int32.toNatClampNeg (5 : Int32)) r1)) 1013) (Int32.toNatClampNeg (6 : Int32)) x3))) else F_m_spawned_59 (F_m_spawned_46 n) FU x1 x3 x4 x5 (x5 + (1 : Int32)) M
set_option maxRecDepth 100000 in
theorem X_m_spawned_46 {nL : Nat} {xs : Nat → Int32} {S : Sto} {O : Sto} {d : Nat} (hd : 3 ≤ d) : ∀ n : Nat, ∀ (x1 : Int64) (x3 : Int32) (x4 : Int32) (x5 : Int32) (M : Sto) (r : Int64) (M' : Sto), F_m_spawned_46 n x1 x3 x4 x5 M = some (r, M') → EX nL xs 0 MI_118 d 46 [some (.ref 1000), some (.long x1), none, some (.int x3), some (.int x4), some (.int x5), none, none] [] (S, M, O) (.inl (some (.long r))) (S, M', O) := by
  intro n
  induction n with
  | zero => intro x1 x3 x4 x5 M r M' hF; cases hF
  | succ n ih =>
  intro x1 x3 x4 x5 M r M' hF
  unfold F_m_spawned_46 at hF
  refine Ex_go 3 (pc' := if x4 ≤ x5 then 110 else 53) (L' := [some (.ref 1000), some (.long x1), none, some (.int x3), some (.int x4), some (.int x5), none, none]) (st' := []) (σ' := (S, M, O)) (rfl) ?_
  refine Ex_br (fun hc => ?_) (fun hc => ?_)
  · rw [if_pos hc] at hF
    refine Ex_go 4 (pc' := 116) (L' := [some (.ref 1000), some (.long x1), none, some (.int x3), some (.int x4), some (.int x5), none, none]) (st' := [.long x1, .int (5 : Int32), .ref 1013]) (σ' := (S, M, O)) (rfl) ?_
    obtain ⟨r1, hx2, hF⟩ := b1_i hF
    refine Ex_call (kind := 0) (y := 85) (as := [.long x1]) (rest := [.int (5 : Int32), .ref 1013]) (L0 := [some (.long x1), none, none, none, none]) (d' := 1) (v := some (.int r1)) (σ1 := (S, M, O)) rfl rfl mt_85 rfl rfl (by omega) (X_m_bitsOf (Nat.le_refl _) _ _ hx2) (Ex_st (st2 := [.int r1, .int (5 : Int32), .ref 1013]) rfl ?_)
    refine Ex_chk (b := ib (5 : Int32) 7) (pc' := 120) (L' := [some (.ref 1000), some (.long x1), none, some (.int x3), some (.int x4), some (.int x5), none, none]) (st' := []) (σ' := (S, (ui M 1013 (upd (ai M 1013) (Int32.toNatClampNeg (5 : Int32)) r1)), O)) rfl (by decide) ?_
    refine Ex_go 4 (pc' := 127) (L' := [some (.ref 1000), some (.long x1), none, some (.int x3), some (.int x4), some (.int x5), none, none]) (st' := [.int x3, .int (6 : Int32), .ref 1013]) (σ' := (S, (ui M 1013 (upd (ai M 1013) (Int32.toNatClampNeg (5 : Int32)) r1)), O)) (rfl) ?_
    refine Ex_chk (b := ib (6 : Int32) 7) (pc' := 128) (L' := [some (.ref 1000), some (.long x1), none, some (.int x3), some (.int x4), some (.int x5), none, none]) (st' := []) (σ' := (S, (ui (ui M 1013 (upd (ai M 1013) (Int32.toNatClampNeg (5 : Int32)) r1)) 1013 (upd (ai (ui M 1013 (upd (ai M 1013) (Int32.toNatClampNeg (5 : Int32)) r1)) 1013) (Int32.toNatClampNeg (6 : Int32)) x3)), O)) rfl (by decide) ?_
    refine Ex_go 4 (pc' := 134) (L' := [some (.ref 1000), some (.long x1), none, some (.int x3), some (.int x4), some (.long (0 : Int64)), none, some (.int (0 : Int32))]) (st' := []) (σ' := (S, (ui (ui M 1013 (upd (ai M 1013) (Int32.toNatClampNeg (5 : Int32)) r1)) 1013 (upd (ai (ui M 1013 (upd (ai M 1013) (Int32.toNatClampNeg (5 : Int32)) r1)) 1013) (Int32.toNatClampNeg (6 : Int32)) x3)), O)) (rfl) ?_
    exact Ex_mono (L := [some (.ref 1000), some (.long x1), none, none, some (.int x4), some (.long (0 : Int64)), none, some (.int (0 : Int32))]) (Le_s (Le_s (Le_n (Le_n (Le_s (Le_s (Le_n (Le_s (Le_0))))))))) (X_m_spawned_134 hd FU _ _ _ _ _ _ _ hF) (Nat.le_refl _) (by omega)
  · rw [if_neg hc] at hF
    refine Ex_go 4 (pc' := 59) (L' := [some (.ref 1000), some (.long x1), none, some (.int x3), some (.int x4), some (.int x5), some (.int (x5 + (1 : Int32))), none]) (st' := []) (σ' := (S, M, O)) (rfl) ?_
    exact Ex_mono (L := [some (.ref 1000), some (.long x1), none, some (.int x3), some (.int x4), some (.int x5), some (.int (x5 + (1 : Int32))), none]) (Le_s (Le_s (Le_n (Le_s (Le_s (Le_s (Le_s (Le_n (Le_0))))))))) (X_m_spawned_59 hd ih FU _ _ _ _ _ _ _ _ hF) (Nat.le_refl _) (by omega)
def F_m_spawned_22 : Nat → Int64 → Int32 → Int32 → Int32 → Sto → Option (Int64 × Sto)
  | 0, _, _, _, _, _ => none
  | n + 1, x1, x3, x4, x5, M => if x4 ≤ x5 then F_m_spawned_46 FU x1 x3 x4 (0 : Int32) M else ck (ib x5 60) (F_m_spawned_22 n x1 x3 x4 (x5 + (1 : Int32)) (ui M 1015 (upd (ai M 1015) (Int32.toNatClampNeg x5) (0 : Int32))))
set_option maxRecDepth 100000 in
theorem X_m_spawned_22 {nL : Nat} {xs : Nat → Int32} {S : Sto} {O : Sto} {d : Nat} (hd : 3 ≤ d) : ∀ n : Nat, ∀ (x1 : Int64) (x3 : Int32) (x4 : Int32) (x5 : Int32) (M : Sto) (r : Int64) (M' : Sto), F_m_spawned_22 n x1 x3 x4 x5 M = some (r, M') → EX nL xs 0 MI_118 d 22 [some (.ref 1000), some (.long x1), none, some (.int x3), some (.int x4), some (.int x5), none, none] [] (S, M, O) (.inl (some (.long r))) (S, M', O) := by
  intro n
  induction n with
  | zero => intro x1 x3 x4 x5 M r M' hF; cases hF
  | succ n ih =>
  intro x1 x3 x4 x5 M r M' hF
  unfold F_m_spawned_22 at hF
  refine Ex_go 3 (pc' := if x4 ≤ x5 then 43 else 29) (L' := [some (.ref 1000), some (.long x1), none, some (.int x3), some (.int x4), some (.int x5), none, none]) (st' := []) (σ' := (S, M, O)) (rfl) ?_
  refine Ex_br (fun hc => ?_) (fun hc => ?_)
  · rw [if_pos hc] at hF
    refine Ex_go 2 (pc' := 46) (L' := [some (.ref 1000), some (.long x1), none, some (.int x3), some (.int x4), some (.int (0 : Int32)), none, none]) (st' := []) (σ' := (S, M, O)) (rfl) ?_
    exact Ex_mono (L := [some (.ref 1000), some (.long x1), none, some (.int x3), some (.int x4), some (.int (0 : Int32)), none, none]) (Le_s (Le_s (Le_n (Le_s (Le_s (Le_s (Le_n (Le_n (Le_0))))))))) (X_m_spawned_46 hd FU _ _ _ _ _ _ _ hF) (Nat.le_refl _) (by omega)
  · rw [if_neg hc] at hF
    refine Ex_go 4 (pc' := 36) (L' := [some (.ref 1000), some (.long x1), none, some (.int x3), some (.int x4), some (.int x5), none, none]) (st' := [.int (0 : Int32), .int x5, .ref 1015]) (σ' := (S, M, O)) (rfl) ?_
    obtain ⟨hc1, hF⟩ := ck_i hF
    refine Ex_chk (b := ib x5 60) (pc' := 37) (L' := [some (.ref 1000), some (.long x1), none, some (.int x3), some (.int x4), some (.int x5), none, none]) (st' := []) (σ' := (S, (ui M 1015 (upd (ai M 1015) (Int32.toNatClampNeg x5) (0 : Int32))), O)) rfl hc1 ?_
    refine Ex_go 2 (pc' := 22) (L' := [some (.ref 1000), some (.long x1), none, some (.int x3), some (.int x4), some (.int (x5 + (1 : Int32))), none, none]) (st' := []) (σ' := (S, (ui M 1015 (upd (ai M 1015) (Int32.toNatClampNeg x5) (0 : Int32))), O)) (rfl) ?_
    exact Ex_mono (L := [some (.ref 1000), some (.long x1), none, some (.int x3), some (.int x4), some (.int (x5 + (1 : Int32))), none, none]) (Le_s (Le_s (Le_n (Le_s (Le_s (Le_s (Le_n (Le_n (Le_0))))))))) (ih _ _ _ _ _ _ _ hF) (Nat.le_refl _) (by omega)
def F_m_spawned (x1 : Int64) (x3 : Int32) (M : Sto) : Option (Int64 × Sto) := if (ai M 1003 (Int32.toNatClampNeg (2 : Int32))) = 0 then some (x1, M) else F_m_spawned_22 FU x1 x3 (ai M 1003 (Int32.toNatClampNeg (1 : Int32))) (0 : Int32) M
set_option maxRecDepth 100000 in
theorem X_m_spawned {nL : Nat} {xs : Nat → Int32} {S : Sto} {O : Sto} {d : Nat} (hd : 3 ≤ d) : ∀ (x1 : Int64) (x3 : Int32) (M : Sto) (r : Int64) (M' : Sto), F_m_spawned x1 x3 M = some (r, M') → EX nL xs 0 MI_118 d 0 [some (.ref 1000), some (.long x1), none, some (.int x3), none, none, none, none] [] (S, M, O) (.inl (some (.long r))) (S, M', O) := by
  intro x1 x3 M r M' hF
  unfold F_m_spawned at hF
  refine Ex_go 3 (pc' := 5) (L' := [some (.ref 1000), some (.long x1), none, some (.int x3), none, none, none, none]) (st' := [.int (2 : Int32), .ref 1003]) (σ' := (S, M, O)) (rfl) ?_
  refine Ex_chk (b := ib (2 : Int32) 6) (pc' := 6) (L' := [some (.ref 1000), some (.long x1), none, some (.int x3), none, none, none, none]) (st' := [.int (ai M 1003 (Int32.toNatClampNeg (2 : Int32)))]) (σ' := (S, M, O)) rfl (by decide) ?_
  refine Ex_go 1 (pc' := if ¬ (ai M 1003 (Int32.toNatClampNeg (2 : Int32))) = 0 then 11 else 9) (L' := [some (.ref 1000), some (.long x1), none, some (.int x3), none, none, none, none]) (st' := []) (σ' := (S, M, O)) (rfl) ?_
  refine Ex_brN (fun hc => ?_) (fun hc => ?_)
  · rw [if_pos hc] at hF
    refine Ex_go 1 (pc' := 10) (L' := [some (.ref 1000), some (.long x1), none, some (.int x3), none, none, none, none]) (st' := [.long x1]) (σ' := (S, M, O)) (rfl) ?_
    cases hF
    exact Ex_fin rfl
  · rw [if_neg hc] at hF
    refine Ex_go 3 (pc' := 16) (L' := [some (.ref 1000), some (.long x1), none, some (.int x3), none, none, none, none]) (st' := [.int (1 : Int32), .ref 1003]) (σ' := (S, M, O)) (rfl) ?_
    refine Ex_chk (b := ib (1 : Int32) 6) (pc' := 17) (L' := [some (.ref 1000), some (.long x1), none, some (.int x3), none, none, none, none]) (st' := [.int (ai M 1003 (Int32.toNatClampNeg (1 : Int32)))]) (σ' := (S, M, O)) rfl (by decide) ?_
    refine Ex_go 3 (pc' := 22) (L' := [some (.ref 1000), some (.long x1), none, some (.int x3), some (.int (ai M 1003 (Int32.toNatClampNeg (1 : Int32)))), some (.int (0 : Int32)), none, none]) (st' := []) (σ' := (S, M, O)) (rfl) ?_
    exact Ex_mono (L := [some (.ref 1000), some (.long x1), none, some (.int x3), some (.int (ai M 1003 (Int32.toNatClampNeg (1 : Int32)))), some (.int (0 : Int32)), none, none]) (Le_s (Le_s (Le_n (Le_s (Le_s (Le_s (Le_n (Le_n (Le_0))))))))) (X_m_spawned_22 hd FU _ _ _ _ _ _ _ hF) (Nat.le_refl _) (by omega)
def F_m_ends_12 : Nat → Int64 → Int32 → Sto → Option (Int32 × Sto)
  | 0, _, _, _ => none
  | n + 1, x1, x3, M => if (300 : Int32) < x3 then some ((-1 : Int32), M) else if x1 = (0 : Int64) then some (x3, M) else b2 (F_m_spawned x1 ((gi M 1017) + x3) M) (fun r1 M3 => F_m_ends_12 n r1 (x3 + (1 : Int32)) M3)
set_option maxRecDepth 100000 in
theorem X_m_ends_12 {nL : Nat} {xs : Nat → Int32} {S : Sto} {O : Sto} {d : Nat} (hd : 4 ≤ d) : ∀ n : Nat, ∀ (x1 : Int64) (x3 : Int32) (M : Sto) (r : Int32) (M' : Sto), F_m_ends_12 n x1 x3 M = some (r, M') → EX nL xs 0 MI_253 d 12 [some (.ref 1000), some (.long x1), none, some (.int x3)] [] (S, M, O) (.inl (some (.int r))) (S, M', O) := by
  intro n
  induction n with
  | zero => intro x1 x3 M r M' hF; cases hF
  | succ n ih =>
  intro x1 x3 M r M' hF
  unfold F_m_ends_12 at hF
  refine Ex_go 3 (pc' := if (300 : Int32) < x3 then 45 else 19) (L' := [some (.ref 1000), some (.long x1), none, some (.int x3)]) (st' := []) (σ' := (S, M, O)) (rfl) ?_
  refine Ex_br (fun hc => ?_) (fun hc => ?_)
  · rw [if_pos hc] at hF
    refine Ex_go 1 (pc' := 46) (L' := [some (.ref 1000), some (.long x1), none, some (.int x3)]) (st' := [.int (-1 : Int32)]) (σ' := (S, M, O)) (rfl) ?_
    cases hF
    exact Ex_fin rfl
  · rw [if_neg hc] at hF
    refine Ex_go 4 (pc' := if ¬ (lg_cmp x1 (0 : Int64)) = 0 then 27 else 25) (L' := [some (.ref 1000), some (.long x1), none, some (.int x3)]) (st' := []) (σ' := (S, M, O)) (rfl) ?_
    refine Ex_brNI lc_ne (fun hc => ?_) (fun hc => ?_)
    · rw [if_pos hc] at hF
      refine Ex_go 1 (pc' := 26) (L' := [some (.ref 1000), some (.long x1), none, some (.int x3)]) (st' := [.int x3]) (σ' := (S, M, O)) (rfl) ?_
      cases hF
      exact Ex_fin rfl
    · rw [if_neg hc] at hF
      refine Ex_go 6 (pc' := 35) (L' := [some (.ref 1000), some (.long x1), none, some (.int x3)]) (st' := [.int ((gi M 1017) + x3), .long x1, .ref 1000]) (σ' := (S, M, O)) (rfl) ?_
      obtain ⟨r1, M3, hx2, hF⟩ := b2_i hF
      refine Ex_call (kind := 2) (y := 118) (as := [.ref 1000, .long x1, .int ((gi M 1017) + x3)]) (rest := []) (L0 := [some (.ref 1000), some (.long x1), none, some (.int ((gi M 1017) + x3)), none, none, none, none]) (d' := 3) (v := some (.long r1)) (σ1 := (S, M3, O)) rfl rfl mt_118 rfl rfl (by omega) (X_m_spawned (Nat.le_refl _) _ _ _ _ _ hx2) (Ex_st (st2 := [.long r1]) rfl ?_)
      refine Ex_go 3 (pc' := 12) (L' := [some (.ref 1000), some (.long r1), none, some (.int (x3 + (1 : Int32)))]) (st' := []) (σ' := (S, M3, O)) (rfl) ?_
      exact Ex_mono (L := [some (.ref 1000), some (.long r1), none, some (.int (x3 + (1 : Int32)))]) (Le_s (Le_s (Le_n (Le_s (Le_0))))) (ih _ _ _ _ _ hF) (Nat.le_refl _) (by omega)
def F_m_ends (M : Sto) : Option (Int32 × Sto) := F_m_ends_12 FU (gl (si M 1001 (0 : Int32)) 1015) (0 : Int32) (si M 1001 (0 : Int32))
set_option maxRecDepth 100000 in
theorem X_m_ends {nL : Nat} {xs : Nat → Int32} {S : Sto} {O : Sto} {d : Nat} (hd : 4 ≤ d) : ∀ (M : Sto) (r : Int32) (M' : Sto), F_m_ends M = some (r, M') → EX nL xs 0 MI_253 d 0 [some (.ref 1000), none, none, none] [] (S, M, O) (.inl (some (.int r))) (S, M', O) := by
  intro M r M' hF
  unfold F_m_ends at hF
  refine Ex_go 8 (pc' := 12) (L' := [some (.ref 1000), some (.long (gl (si M 1001 (0 : Int32)) 1015)), none, some (.int (0 : Int32))]) (st' := []) (σ' := (S, (si M 1001 (0 : Int32)), O)) (rfl) ?_
  exact Ex_mono (L := [some (.ref 1000), some (.long (gl (si M 1001 (0 : Int32)) 1015)), none, some (.int (0 : Int32))]) (Le_s (Le_s (Le_n (Le_s (Le_0))))) (X_m_ends_12 hd FU _ _ _ _ _ hF) (Nat.le_refl _) (by omega)
def F_Po_goRound_110 (k20 : Int32 → Int32 → Sto → Option (Unit × Sto)) (k62 : Int32 → Int32 → Int32 → Sto → Option (Unit × Sto)) (x4 : Int32) (x5 : Int32) (x6 : Int32) (S : Sto) : Option (Unit × Sto) := k62 x4 x5 (x6 + (1 : Int32)) S
set_option maxRecDepth 100000 in
theorem X_Po_goRound_110 {nL : Nat} {xs : Nat → Int32} {M : Sto} {O : Sto} {d : Nat} (hd : 4 ≤ d) {k20 : Int32 → Int32 → Sto → Option (Unit × Sto)} {k62 : Int32 → Int32 → Int32 → Sto → Option (Unit × Sto)} (hk20 : ∀ (x4 : Int32) (x5 : Int32) (S : Sto) (r : Unit) (S' : Sto), k20 x4 x5 S = some (r, S') → EX nL xs 0 MI_247 d 20 [some (.ref 43), some (.ref 12), none, none, some (.int x4), some (.int x5), none] [] (S, M, O) (.inl none) (S', M, O)) (hk62 : ∀ (x4 : Int32) (x5 : Int32) (x6 : Int32) (S : Sto) (r : Unit) (S' : Sto), k62 x4 x5 x6 S = some (r, S') → EX nL xs 0 MI_247 d 62 [some (.ref 43), some (.ref 12), none, none, some (.int x4), some (.int x5), some (.int x6)] [] (S, M, O) (.inl none) (S', M, O)) : ∀ (x4 : Int32) (x5 : Int32) (x6 : Int32) (S : Sto) (r : Unit) (S' : Sto), F_Po_goRound_110 k20 k62 x4 x5 x6 S = some (r, S') → EX nL xs 0 MI_247 d 110 [some (.ref 43), some (.ref 12), none, none, some (.int x4), some (.int x5), some (.int x6)] [] (S, M, O) (.inl none) (S', M, O) := by
  intro x4 x5 x6 S r S' hF
  unfold F_Po_goRound_110 at hF
  refine Ex_go 2 (pc' := 62) (L' := [some (.ref 43), some (.ref 12), none, none, some (.int x4), some (.int x5), some (.int (x6 + (1 : Int32)))]) (st' := []) (σ' := (S, M, O)) (rfl) ?_
  exact Ex_mono (L := [some (.ref 43), some (.ref 12), none, none, some (.int x4), some (.int x5), some (.int (x6 + (1 : Int32)))]) (Le_s (Le_s (Le_n (Le_n (Le_s (Le_s (Le_s (Le_0)))))))) (hk62 _ _ _ _ _ _ hF) (Nat.le_refl _) (by omega)
def F_Po_goRound_116 (k20 : Int32 → Int32 → Sto → Option (Unit × Sto)) (x4 : Int32) (x5 : Int32) (S : Sto) : Option (Unit × Sto) := k20 x4 (x5 + (1 : Int32)) S
set_option maxRecDepth 100000 in
theorem X_Po_goRound_116 {nL : Nat} {xs : Nat → Int32} {M : Sto} {O : Sto} {d : Nat} (hd : 4 ≤ d) {k20 : Int32 → Int32 → Sto → Option (Unit × Sto)} (hk20 : ∀ (x4 : Int32) (x5 : Int32) (S : Sto) (r : Unit) (S' : Sto), k20 x4 x5 S = some (r, S') → EX nL xs 0 MI_247 d 20 [some (.ref 43), some (.ref 12), none, none, some (.int x4), some (.int x5), none] [] (S, M, O) (.inl none) (S', M, O)) : ∀ (x4 : Int32) (x5 : Int32) (S : Sto) (r : Unit) (S' : Sto), F_Po_goRound_116 k20 x4 x5 S = some (r, S') → EX nL xs 0 MI_247 d 116 [some (.ref 43), some (.ref 12), none, none, some (.int x4), some (.int x5), none] [] (S, M, O) (.inl none) (S', M, O) := by
  intro x4 x5 S r S' hF
  unfold F_Po_goRound_116 at hF
  refine Ex_go 2 (pc' := 20) (L' := [some (.ref 43), some (.ref 12), none, none, some (.int x4), some (.int (x5 + (1 : Int32))), none]) (st' := []) (σ' := (S, M, O)) (rfl) ?_
  exact Ex_mono (L := [some (.ref 43), some (.ref 12), none, none, some (.int x4), some (.int (x5 + (1 : Int32))), none]) (Le_s (Le_s (Le_n (Le_n (Le_s (Le_s (Le_n (Le_0)))))))) (hk20 _ _ _ _ _ hF) (Nat.le_refl _) (by omega)
def F_Po_goRound_62 (k20 : Int32 → Int32 → Sto → Option (Unit × Sto)) : Nat → Int32 → Int32 → Int32 → Sto → Option (Unit × Sto)
  | 0, _, _, _, _ => none
  | n + 1, x4, x5, x6, S => if x5 ≤ x6 then F_Po_goRound_116 k20 x4 x5 S else if (gi S 42) = (-1 : Int32) then ck (ib x6 301) (ck (ib x5 301) (if (al S 46 (Int32.toNatClampNeg x6)) = (al S 46 (Int32.toNatClampNeg x5)) then F_Po_goRound_110 k20 (F_Po_goRound_62 k20 n) x4 x5 x6 (si (si S 42 x6) 43 (x5 - x6)) else F_Po_goRound_110 k20 (F_Po_goRound_62 k20 n) x4 x5 x6 S)) else F_Po_goRound_116 k20 x4 x5 S
set_option maxRecDepth 100000 in
theorem X_Po_goRound_62 {nL : Nat} {xs : Nat → Int32} {M : Sto} {O : Sto} {d : Nat} (hd : 4 ≤ d) {k20 : Int32 → Int32 → Sto → Option (Unit × Sto)} (hk20 : ∀ (x4 : Int32) (x5 : Int32) (S : Sto) (r : Unit) (S' : Sto), k20 x4 x5 S = some (r, S') → EX nL xs 0 MI_247 d 20 [some (.ref 43), some (.ref 12), none, none, some (.int x4), some (.int x5), none] [] (S, M, O) (.inl none) (S', M, O)) : ∀ n : Nat, ∀ (x4 : Int32) (x5 : Int32) (x6 : Int32) (S : Sto) (r : Unit) (S' : Sto), F_Po_goRound_62 k20 n x4 x5 x6 S = some (r, S') → EX nL xs 0 MI_247 d 62 [some (.ref 43), some (.ref 12), none, none, some (.int x4), some (.int x5), some (.int x6)] [] (S, M, O) (.inl none) (S', M, O) := by
  intro n
  induction n with
  | zero => intro x4 x5 x6 S r S' hF; cases hF
  | succ n ih =>
  intro x4 x5 x6 S r S' hF
  unfold F_Po_goRound_62 at hF
  refine Ex_go 3 (pc' := if x5 ≤ x6 then 116 else 69) (L' := [some (.ref 43), some (.ref 12), none, none, some (.int x4), some (.int x5), some (.int x6)]) (st' := []) (σ' := (S, M, O)) (rfl) ?_
  refine Ex_br (fun hc => ?_) (fun hc => ?_)
  · rw [if_pos hc] at hF
    exact Ex_mono (L := [some (.ref 43), some (.ref 12), none, none, some (.int x4), some (.int x5), none]) (Le_s (Le_s (Le_n (Le_n (Le_s (Le_s (Le_n (Le_0)))))))) (X_Po_goRound_116 hd hk20 _ _ _ _ _ hF) (Nat.le_refl _) (by omega)
  · rw [if_neg hc] at hF
    refine Ex_go 4 (pc' := if ¬ (gi S 42) = (-1 : Int32) then 116 else 77) (L' := [some (.ref 43), some (.ref 12), none, none, some (.int x4), some (.int x5), some (.int x6)]) (st' := []) (σ' := (S, M, O)) (rfl) ?_
    refine Ex_brN (fun hc => ?_) (fun hc => ?_)
    · rw [if_pos hc] at hF
      refine Ex_go 3 (pc' := 83) (L' := [some (.ref 43), some (.ref 12), none, none, some (.int x4), some (.int x5), some (.int x6)]) (st' := [.int x6, .ref 46]) (σ' := (S, M, O)) (rfl) ?_
      obtain ⟨hc1, hF⟩ := ck_i hF
      refine Ex_chk (b := ib x6 301) (pc' := 84) (L' := [some (.ref 43), some (.ref 12), none, none, some (.int x4), some (.int x5), some (.int x6)]) (st' := [.long (al S 46 (Int32.toNatClampNeg x6))]) (σ' := (S, M, O)) rfl hc1 ?_
      refine Ex_go 3 (pc' := 90) (L' := [some (.ref 43), some (.ref 12), none, none, some (.int x4), some (.int x5), some (.int x6)]) (st' := [.int x5, .ref 46, .long (al S 46 (Int32.toNatClampNeg x6))]) (σ' := (S, M, O)) (rfl) ?_
      obtain ⟨hc2, hF⟩ := ck_i hF
      refine Ex_chk (b := ib x5 301) (pc' := 91) (L' := [some (.ref 43), some (.ref 12), none, none, some (.int x4), some (.int x5), some (.int x6)]) (st' := [.long (al S 46 (Int32.toNatClampNeg x5)), .long (al S 46 (Int32.toNatClampNeg x6))]) (σ' := (S, M, O)) rfl hc2 ?_
      refine Ex_go 2 (pc' := if ¬ (lg_cmp (al S 46 (Int32.toNatClampNeg x6)) (al S 46 (Int32.toNatClampNeg x5))) = 0 then 110 else 95) (L' := [some (.ref 43), some (.ref 12), none, none, some (.int x4), some (.int x5), some (.int x6)]) (st' := []) (σ' := (S, M, O)) (rfl) ?_
      refine Ex_brNI lc_ne (fun hc => ?_) (fun hc => ?_)
      · rw [if_pos hc] at hF
        refine Ex_go 8 (pc' := 110) (L' := [some (.ref 43), some (.ref 12), none, none, some (.int x4), some (.int x5), some (.int x6)]) (st' := []) (σ' := ((si (si S 42 x6) 43 (x5 - x6)), M, O)) (rfl) ?_
        exact Ex_mono (L := [some (.ref 43), some (.ref 12), none, none, some (.int x4), some (.int x5), some (.int x6)]) (Le_s (Le_s (Le_n (Le_n (Le_s (Le_s (Le_s (Le_0)))))))) (X_Po_goRound_110 hd hk20 ih _ _ _ _ _ _ hF) (Nat.le_refl _) (by omega)
      · rw [if_neg hc] at hF
        exact Ex_mono (L := [some (.ref 43), some (.ref 12), none, none, some (.int x4), some (.int x5), some (.int x6)]) (Le_s (Le_s (Le_n (Le_n (Le_s (Le_s (Le_s (Le_0)))))))) (X_Po_goRound_110 hd hk20 ih _ _ _ _ _ _ hF) (Nat.le_refl _) (by omega)
    · rw [if_neg hc] at hF
      exact Ex_mono (L := [some (.ref 43), some (.ref 12), none, none, some (.int x4), some (.int x5), none]) (Le_s (Le_s (Le_n (Le_n (Le_s (Le_s (Le_n (Le_0)))))))) (X_Po_goRound_116 hd hk20 _ _ _ _ _ hF) (Nat.le_refl _) (by omega)
def F_Po_goRound_20 : Nat → Int32 → Int32 → Sto → Option (Unit × Sto)
  | 0, _, _, _ => none
  | n + 1, x4, x5, S => if (300 : Int32) < x5 then some ((), S) else if (gi S 42) = (-1 : Int32) then ck (ib (x5 - (1 : Int32)) 301) (b2 (F_Po_behind (al S 46 (Int32.toNatClampNeg (x5 - (1 : Int32)))) x4 S) (fun r2 S4 => ck (ib x5 301) (F_Po_goRound_62 (F_Po_goRound_20 n) FU x4 x5 (0 : Int32) (ul S4 46 (vp_updL (al S4 46) (Int32.toNatClampNeg x5) r2))))) else some ((), S)
set_option maxRecDepth 100000 in
theorem X_Po_goRound_20 {nL : Nat} {xs : Nat → Int32} {M : Sto} {O : Sto} {d : Nat} (hd : 4 ≤ d) : ∀ n : Nat, ∀ (x4 : Int32) (x5 : Int32) (S : Sto) (r : Unit) (S' : Sto), F_Po_goRound_20 n x4 x5 S = some (r, S') → EX nL xs 0 MI_247 d 20 [some (.ref 43), some (.ref 12), none, none, some (.int x4), some (.int x5), none] [] (S, M, O) (.inl none) (S', M, O) := by
  intro n
  induction n with
  | zero => intro x4 x5 S r S' hF; cases hF
  | succ n ih =>
  intro x4 x5 S r S' hF
  unfold F_Po_goRound_20 at hF
  refine Ex_go 3 (pc' := if (300 : Int32) < x5 then 122 else 28) (L' := [some (.ref 43), some (.ref 12), none, none, some (.int x4), some (.int x5), none]) (st' := []) (σ' := (S, M, O)) (rfl) ?_
  refine Ex_br (fun hc => ?_) (fun hc => ?_)
  · rw [if_pos hc] at hF
    cases hF
    exact Ex_fin rfl
  · rw [if_neg hc] at hF
    refine Ex_go 4 (pc' := if ¬ (gi S 42) = (-1 : Int32) then 122 else 36) (L' := [some (.ref 43), some (.ref 12), none, none, some (.int x4), some (.int x5), none]) (st' := []) (σ' := (S, M, O)) (rfl) ?_
    refine Ex_brN (fun hc => ?_) (fun hc => ?_)
    · rw [if_pos hc] at hF
      refine Ex_go 10 (pc' := 52) (L' := [some (.ref 43), some (.ref 12), none, none, some (.int x4), some (.int x5), none]) (st' := [.int (x5 - (1 : Int32)), .ref 46, .ref 12, .ref 43, .int x5, .ref 46]) (σ' := (S, M, O)) (rfl) ?_
      obtain ⟨hc1, hF⟩ := ck_i hF
      refine Ex_chk (b := ib (x5 - (1 : Int32)) 301) (pc' := 53) (L' := [some (.ref 43), some (.ref 12), none, none, some (.int x4), some (.int x5), none]) (st' := [.long (al S 46 (Int32.toNatClampNeg (x5 - (1 : Int32)))), .ref 12, .ref 43, .int x5, .ref 46]) (σ' := (S, M, O)) rfl hc1 ?_
      refine Ex_go 1 (pc' := 55) (L' := [some (.ref 43), some (.ref 12), none, none, some (.int x4), some (.int x5), none]) (st' := [.int x4, .long (al S 46 (Int32.toNatClampNeg (x5 - (1 : Int32)))), .ref 12, .ref 43, .int x5, .ref 46]) (σ' := (S, M, O)) (rfl) ?_
      obtain ⟨r2, S4, hx3, hF⟩ := b2_i hF
      refine Ex_call (kind := 2) (y := 112) (as := [.ref 43, .ref 12, .long (al S 46 (Int32.toNatClampNeg (x5 - (1 : Int32)))), .int x4]) (rest := [.int x5, .ref 46]) (L0 := [some (.ref 43), some (.ref 12), some (.long (al S 46 (Int32.toNatClampNeg (x5 - (1 : Int32))))), none, some (.int x4), none, none, none, none, none]) (d' := 3) (v := some (.long r2)) (σ1 := (S4, M, O)) rfl rfl mt_112 rfl rfl (by omega) (X_Po_behind (Nat.le_refl _) _ _ _ _ _ hx3) (Ex_st (st2 := [.long r2, .int x5, .ref 46]) rfl ?_)
      obtain ⟨hc5, hF⟩ := ck_i hF
      refine Ex_chk (b := ib x5 301) (pc' := 59) (L' := [some (.ref 43), some (.ref 12), none, none, some (.int x4), some (.int x5), none]) (st' := []) (σ' := ((ul S4 46 (vp_updL (al S4 46) (Int32.toNatClampNeg x5) r2)), M, O)) rfl hc5 ?_
      refine Ex_go 2 (pc' := 62) (L' := [some (.ref 43), some (.ref 12), none, none, some (.int x4), some (.int x5), some (.int (0 : Int32))]) (st' := []) (σ' := ((ul S4 46 (vp_updL (al S4 46) (Int32.toNatClampNeg x5) r2)), M, O)) (rfl) ?_
      exact Ex_mono (L := [some (.ref 43), some (.ref 12), none, none, some (.int x4), some (.int x5), some (.int (0 : Int32))]) (Le_s (Le_s (Le_n (Le_n (Le_s (Le_s (Le_s (Le_0)))))))) (X_Po_goRound_62 hd ih FU _ _ _ _ _ _ hF) (Nat.le_refl _) (by omega)
    · rw [if_neg hc] at hF
      cases hF
      exact Ex_fin rfl
def F_Po_goRound (x2 : Int64) (x4 : Int32) (S : Sto) : Option (Unit × Sto) := F_Po_goRound_20 FU x4 (1 : Int32) (ul (si (si S 42 (-1 : Int32)) 43 (-1 : Int32)) 46 (vp_updL (al (si (si S 42 (-1 : Int32)) 43 (-1 : Int32)) 46) (Int32.toNatClampNeg (0 : Int32)) x2))
set_option maxRecDepth 100000 in
theorem X_Po_goRound {nL : Nat} {xs : Nat → Int32} {M : Sto} {O : Sto} {d : Nat} (hd : 4 ≤ d) : ∀ (x2 : Int64) (x4 : Int32) (S : Sto) (r : Unit) (S' : Sto), F_Po_goRound x2 x4 S = some (r, S') → EX nL xs 0 MI_247 d 0 [some (.ref 43), some (.ref 12), some (.long x2), none, some (.int x4), none, none] [] (S, M, O) (.inl none) (S', M, O) := by
  intro x2 x4 S r S' hF
  unfold F_Po_goRound at hF
  refine Ex_go 10 (pc' := 16) (L' := [some (.ref 43), some (.ref 12), some (.long x2), none, some (.int x4), none, none]) (st' := [.long x2, .int (0 : Int32), .ref 46]) (σ' := ((si (si S 42 (-1 : Int32)) 43 (-1 : Int32)), M, O)) (rfl) ?_
  refine Ex_chk (b := ib (0 : Int32) 301) (pc' := 17) (L' := [some (.ref 43), some (.ref 12), some (.long x2), none, some (.int x4), none, none]) (st' := []) (σ' := ((ul (si (si S 42 (-1 : Int32)) 43 (-1 : Int32)) 46 (vp_updL (al (si (si S 42 (-1 : Int32)) 43 (-1 : Int32)) 46) (Int32.toNatClampNeg (0 : Int32)) x2)), M, O)) rfl (by decide) ?_
  refine Ex_go 2 (pc' := 20) (L' := [some (.ref 43), some (.ref 12), some (.long x2), none, some (.int x4), some (.int (1 : Int32)), none]) (st' := []) (σ' := ((ul (si (si S 42 (-1 : Int32)) 43 (-1 : Int32)) 46 (vp_updL (al (si (si S 42 (-1 : Int32)) 43 (-1 : Int32)) 46) (Int32.toNatClampNeg (0 : Int32)) x2)), M, O)) (rfl) ?_
  exact Ex_mono (L := [some (.ref 43), some (.ref 12), none, none, some (.int x4), some (.int (1 : Int32)), none]) (Le_s (Le_s (Le_n (Le_n (Le_s (Le_s (Le_n (Le_0)))))))) (X_Po_goRound_20 hd FU _ _ _ _ _ hF) (Nat.le_refl _) (by omega)
def F_w_round_9 (S : Sto) : Option ((Int32 ⊕ Nat) × Sto) := some ((.inr 1), S)
set_option maxRecDepth 100000 in
theorem X_w_round_9 {nL : Nat} {xs : Nat → Int32} {M : Sto} {O : Sto} {d : Nat} (hd : 8 ≤ d) : ∀ (S : Sto) (r : Int32 ⊕ Nat) (S' : Sto), F_w_round_9 S = some (r, S') → EX nL xs 1 MI_248 d 9 [none, none] [] (S, M, O) (rsI r) (S', M, O) := by
  intro S r S' hF
  unfold F_w_round_9 at hF
  cases hF
  exact Ex_thr rfl (by omega) (Nat.le_refl _)
def F_w_round (x1 : Int32) (S : Sto) : Option ((Int32 ⊕ Nat) × Sto) := if x1 < 0 then F_w_round_9 S else if x1 ≤ (1 : Int32) then b2 (F_Po_goRound (gl S 29) (gi S 30) S) (fun r1 S3 => if x1 = 0 then some ((.inl (gi S3 42)), S3) else some ((.inl (gi S3 43)), S3)) else F_w_round_9 S
set_option maxRecDepth 100000 in
theorem X_w_round {nL : Nat} {xs : Nat → Int32} {M : Sto} {O : Sto} {d : Nat} (hd : 8 ≤ d) : ∀ (x1 : Int32) (S : Sto) (r : Int32 ⊕ Nat) (S' : Sto), F_w_round x1 S = some (r, S') → EX nL xs 1 MI_248 d 0 [some (.ref 0), some (.int x1)] [] (S, M, O) (rsI r) (S', M, O) := by
  intro x1 S r S' hF
  unfold F_w_round at hF
  refine Ex_go 2 (pc' := if x1 < 0 then 9 else 4) (L' := [some (.ref 0), some (.int x1)]) (st' := []) (σ' := (S, M, O)) (rfl) ?_
  refine Ex_br (fun hc => ?_) (fun hc => ?_)
  · rw [if_pos hc] at hF
    exact Ex_mono (L := [none, none]) (Le_n (Le_n (Le_0))) (X_w_round_9 hd _ _ _ hF) (Nat.le_refl _) (by omega)
  · rw [if_neg hc] at hF
    refine Ex_go 3 (pc' := if x1 ≤ (1 : Int32) then 17 else 9) (L' := [some (.ref 0), some (.int x1)]) (st' := []) (σ' := (S, M, O)) (rfl) ?_
    refine Ex_br (fun hc => ?_) (fun hc => ?_)
    · rw [if_pos hc] at hF
      refine Ex_go 10 (pc' := 39) (L' := [some (.ref 0), some (.int x1)]) (st' := [.int (gi S 30), .long (gl S 29), .ref 12, .ref 43]) (σ' := (S, M, O)) (rfl) ?_
      obtain ⟨r1, S3, hx2, hF⟩ := b2_i hF
      refine Ex_callK (K1 := 0) (K2 := 1) (kind := 2) (y := 247) (as := [.ref 43, .ref 12, .long (gl S 29), .int (gi S 30)]) (rest := []) (L0 := [some (.ref 43), some (.ref 12), some (.long (gl S 29)), none, some (.int (gi S 30)), none, none]) (d' := 4) (v := none) (σ1 := (S3, M, O)) rfl rfl mt_247 rfl rfl (by omega) (X_Po_goRound (Nat.le_refl _) _ _ _ _ _ hx2) (Ex_st (st2 := []) rfl ?_) (by omega)
      refine Ex_go 2 (pc' := if ¬ x1 = 0 then 56 else 46) (L' := [some (.ref 0), some (.int x1)]) (st' := []) (σ' := (S3, M, O)) (rfl) ?_
      refine Ex_brN (fun hc => ?_) (fun hc => ?_)
      · rw [if_pos hc] at hF
        refine Ex_go 4 (pc' := 63) (L' := [some (.ref 0), some (.int x1)]) (st' := [.int (gi S3 42)]) (σ' := (S3, M, O)) (rfl) ?_
        cases hF
        exact Ex_fin rfl
      · rw [if_neg hc] at hF
        refine Ex_go 3 (pc' := 63) (L' := [some (.ref 0), some (.int x1)]) (st' := [.int (gi S3 43)]) (σ' := (S3, M, O)) (rfl) ?_
        cases hF
        exact Ex_fin rfl
    · rw [if_neg hc] at hF
      exact Ex_mono (L := [none, none]) (Le_n (Le_n (Le_0))) (X_w_round_9 hd _ _ _ hF) (Nat.le_refl _) (by omega)
def F_l_round (x1 : Int32) (S : Sto) (O : Sto) : Option (Int32 × Sto × Sto) := b2 (F_w_round x1 S) (fun r1 S3 => su r1 (fun v4 => some ((0 : Int32), S3, (ul O 2000 (vp_updL (al O 2000) (Int32.toNatClampNeg (0 : Int32)) (Int32.toInt64 v4))))) (fun z5 => if z5 = 1 then some ((1 : Int32), S3, O) else (none)))
set_option maxRecDepth 100000 in
theorem X_l_round {nL : Nat} {xs : Nat → Int32} {M : Sto} {d : Nat} (hd : 9 ≤ d) : ∀ (x1 : Int32) (S : Sto) (O : Sto) (r : Int32) (S' : Sto) (O' : Sto), F_l_round x1 S O = some (r, S', O') → EX nL xs 1 MI_249 d 0 [some (.ref 0), some (.int x1), some (.ref 2000), none] [] (S, M, O) (.inl (some (.int r))) (S', M, O') := by
  intro x1 S O r S' O' hF
  unfold F_l_round at hF
  refine Ex_go 4 (pc' := 4) (L' := [some (.ref 0), some (.int x1), some (.ref 2000), none]) (st' := [.int x1, .ref 0, .int (0 : Int32), .ref 2000]) (σ' := (S, M, O)) (rfl) ?_
  obtain ⟨r1, S3, hx2, hF⟩ := b2_i hF
  cases r1 with
  | inl v4 =>
    rw [su_l] at hF
    refine Ex_callK (K1 := 1) (K2 := 0) (kind := 3) (y := 248) (as := [.ref 0, .int x1]) (rest := [.int (0 : Int32), .ref 2000]) (L0 := [some (.ref 0), some (.int x1)]) (d' := 8) (v := some (.int v4)) (σ1 := (S3, M, O)) rfl rfl mt_248 rfl rfl (by omega) (X_w_round (Nat.le_refl _) _ _ _ _ hx2) (Ex_st (st2 := [.int v4, .int (0 : Int32), .ref 2000]) rfl ?_) (by omega)
    refine Ex_go 1 (pc' := 8) (L' := [some (.ref 0), some (.int x1), some (.ref 2000), none]) (st' := [.long (Int32.toInt64 v4), .int (0 : Int32), .ref 2000]) (σ' := (S3, M, O)) (rfl) ?_
    refine Ex_chk (b := ib (0 : Int32) 1) (pc' := 9) (L' := [some (.ref 0), some (.int x1), some (.ref 2000), none]) (st' := []) (σ' := (S3, M, (ul O 2000 (vp_updL (al O 2000) (Int32.toNatClampNeg (0 : Int32)) (Int32.toInt64 v4))))) rfl (by decide) ?_
    refine Ex_go 2 (pc' := 16) (L' := [some (.ref 0), some (.int x1), some (.ref 2000), none]) (st' := [.int (0 : Int32)]) (σ' := (S3, M, (ul O 2000 (vp_updL (al O 2000) (Int32.toNatClampNeg (0 : Int32)) (Int32.toInt64 v4))))) (rfl) ?_
    cases hF
    exact Ex_fin rfl
  | inr z5 =>
    by_cases hz1 : z5 = 1
    · have hF : (if z5 = 1 then _ else _) = _ := hF
      rw [if_pos hz1] at hF
      subst hz1
      refine Ex_callX (K1 := 1) (K2 := 0) (y := 248) (as := [.ref 0, .int x1]) (rest := [.int (0 : Int32), .ref 2000]) (L0 := [some (.ref 0), some (.int x1)]) (d' := 8) (σ1 := (S3, M, O)) (x := 1) (pc' := 13) (i := 3) rfl rfl mt_248 rfl rfl (by omega) (X_w_round (Nat.le_refl _) _ _ _ _ hx2) rfl (Ex_L (L2 := [some (.ref 0), some (.int x1), some (.ref 2000), none]) rfl ?_) (by omega)
      refine Ex_go 1 (pc' := 14) (L' := [some (.ref 0), some (.int x1), some (.ref 2000), none]) (st' := [.int (1 : Int32)]) (σ' := (S3, M, O)) (rfl) ?_
      cases hF
      exact Ex_fin rfl
    have hF : (if z5 = 1 then _ else _) = _ := hF
    rw [if_neg hz1] at hF
    cases hF
def F_m_round_14 (M : Sto) : Option (Int32 × Sto) := b2 (F_m_fail (1 : Int32) M) (fun r1 M3 => some (r1, M3))
set_option maxRecDepth 100000 in
theorem X_m_round_14 {nL : Nat} {xs : Nat → Int32} {S : Sto} {O : Sto} {d : Nat} (hd : 4 ≤ d) : ∀ (M : Sto) (r : Int32) (M' : Sto), F_m_round_14 M = some (r, M') → EX nL xs 0 MI_250 d 14 [some (.ref 1000), none, none, none] [] (S, M, O) (.inl (some (.int r))) (S, M', O) := by
  intro M r M' hF
  unfold F_m_round_14 at hF
  refine Ex_go 2 (pc' := 16) (L' := [some (.ref 1000), none, none, none]) (st' := [.int (1 : Int32), .ref 1000]) (σ' := (S, M, O)) (rfl) ?_
  obtain ⟨r1, M3, hx2, hF⟩ := b2_i hF
  refine Ex_call (kind := 2) (y := 50) (as := [.ref 1000, .int (1 : Int32)]) (rest := []) (L0 := [some (.ref 1000), some (.int (1 : Int32))]) (d' := 1) (v := some (.int r1)) (σ1 := (S, M3, O)) rfl rfl mt_50 rfl rfl (by omega) (X_m_fail (Nat.le_refl _) _ _ _ _ hx2) (Ex_st (st2 := [.int r1]) rfl ?_)
  cases hF
  exact Ex_fin rfl
def F_m_round_80 (k69 : Int32 → Int32 → Sto → Option (Int32 × Sto)) : Nat → Int32 → Int32 → Int32 → Sto → Option (Int32 × Sto)
  | 0, _, _, _, _ => none
  | n + 1, x1, x2, x3, M => if (300 : Int32) < x3 then k69 x1 (x2 + (1 : Int32)) M else ck (ib x2 301) (ck (ib x3 301) (if (al M 1025 (Int32.toNatClampNeg x2)) = (al M 1025 (Int32.toNatClampNeg x3)) then if x1 = 0 then some (x2, M) else some ((x3 - x2), M) else F_m_round_80 k69 n x1 x2 (x3 + (1 : Int32)) M))
set_option maxRecDepth 100000 in
theorem X_m_round_80 {nL : Nat} {xs : Nat → Int32} {S : Sto} {O : Sto} {d : Nat} (hd : 4 ≤ d) {k69 : Int32 → Int32 → Sto → Option (Int32 × Sto)} (hk69 : ∀ (x1 : Int32) (x2 : Int32) (M : Sto) (r : Int32) (M' : Sto), k69 x1 x2 M = some (r, M') → EX nL xs 0 MI_250 d 69 [some (.ref 1000), some (.int x1), some (.int x2), none] [] (S, M, O) (.inl (some (.int r))) (S, M', O)) : ∀ n : Nat, ∀ (x1 : Int32) (x2 : Int32) (x3 : Int32) (M : Sto) (r : Int32) (M' : Sto), F_m_round_80 k69 n x1 x2 x3 M = some (r, M') → EX nL xs 0 MI_250 d 80 [some (.ref 1000), some (.int x1), some (.int x2), some (.int x3)] [] (S, M, O) (.inl (some (.int r))) (S, M', O) := by
  intro n
  induction n with
  | zero => intro x1 x2 x3 M r M' hF; cases hF
  | succ n ih =>
  intro x1 x2 x3 M r M' hF
  unfold F_m_round_80 at hF
  refine Ex_go 3 (pc' := if (300 : Int32) < x3 then 121 else 87) (L' := [some (.ref 1000), some (.int x1), some (.int x2), some (.int x3)]) (st' := []) (σ' := (S, M, O)) (rfl) ?_
  refine Ex_br (fun hc => ?_) (fun hc => ?_)
  · rw [if_pos hc] at hF
    refine Ex_go 2 (pc' := 69) (L' := [some (.ref 1000), some (.int x1), some (.int (x2 + (1 : Int32))), some (.int x3)]) (st' := []) (σ' := (S, M, O)) (rfl) ?_
    exact Ex_mono (L := [some (.ref 1000), some (.int x1), some (.int (x2 + (1 : Int32))), none]) (Le_s (Le_s (Le_s (Le_n (Le_0))))) (hk69 _ _ _ _ _ hF) (Nat.le_refl _) (by omega)
  · rw [if_neg hc] at hF
    refine Ex_go 3 (pc' := 92) (L' := [some (.ref 1000), some (.int x1), some (.int x2), some (.int x3)]) (st' := [.int x2, .ref 1025]) (σ' := (S, M, O)) (rfl) ?_
    obtain ⟨hc1, hF⟩ := ck_i hF
    refine Ex_chk (b := ib x2 301) (pc' := 93) (L' := [some (.ref 1000), some (.int x1), some (.int x2), some (.int x3)]) (st' := [.long (al M 1025 (Int32.toNatClampNeg x2))]) (σ' := (S, M, O)) rfl hc1 ?_
    refine Ex_go 3 (pc' := 98) (L' := [some (.ref 1000), some (.int x1), some (.int x2), some (.int x3)]) (st' := [.int x3, .ref 1025, .long (al M 1025 (Int32.toNatClampNeg x2))]) (σ' := (S, M, O)) (rfl) ?_
    obtain ⟨hc2, hF⟩ := ck_i hF
    refine Ex_chk (b := ib x3 301) (pc' := 99) (L' := [some (.ref 1000), some (.int x1), some (.int x2), some (.int x3)]) (st' := [.long (al M 1025 (Int32.toNatClampNeg x3)), .long (al M 1025 (Int32.toNatClampNeg x2))]) (σ' := (S, M, O)) rfl hc2 ?_
    refine Ex_go 2 (pc' := if ¬ (lg_cmp (al M 1025 (Int32.toNatClampNeg x2)) (al M 1025 (Int32.toNatClampNeg x3))) = 0 then 115 else 103) (L' := [some (.ref 1000), some (.int x1), some (.int x2), some (.int x3)]) (st' := []) (σ' := (S, M, O)) (rfl) ?_
    refine Ex_brNI lc_ne (fun hc => ?_) (fun hc => ?_)
    · rw [if_pos hc] at hF
      refine Ex_go 2 (pc' := if ¬ x1 = 0 then 111 else 107) (L' := [some (.ref 1000), some (.int x1), some (.int x2), some (.int x3)]) (st' := []) (σ' := (S, M, O)) (rfl) ?_
      refine Ex_brN (fun hc => ?_) (fun hc => ?_)
      · rw [if_pos hc] at hF
        refine Ex_go 2 (pc' := 114) (L' := [some (.ref 1000), some (.int x1), some (.int x2), some (.int x3)]) (st' := [.int x2]) (σ' := (S, M, O)) (rfl) ?_
        cases hF
        exact Ex_fin rfl
      · rw [if_neg hc] at hF
        refine Ex_go 3 (pc' := 114) (L' := [some (.ref 1000), some (.int x1), some (.int x2), some (.int x3)]) (st' := [.int (x3 - x2)]) (σ' := (S, M, O)) (rfl) ?_
        cases hF
        exact Ex_fin rfl
    · rw [if_neg hc] at hF
      refine Ex_go 2 (pc' := 80) (L' := [some (.ref 1000), some (.int x1), some (.int x2), some (.int (x3 + (1 : Int32)))]) (st' := []) (σ' := (S, M, O)) (rfl) ?_
      exact Ex_mono (L := [some (.ref 1000), some (.int x1), some (.int x2), some (.int (x3 + (1 : Int32)))]) (Le_s (Le_s (Le_s (Le_s (Le_0))))) (ih _ _ _ _ _ _ hF) (Nat.le_refl _) (by omega)
def F_m_round_69 : Nat → Int32 → Int32 → Sto → Option (Int32 × Sto)
  | 0, _, _, _ => none
  | n + 1, x1, x2, M => if (300 : Int32) ≤ x2 then some ((-1 : Int32), M) else F_m_round_80 (F_m_round_69 n) FU x1 x2 (x2 + (1 : Int32)) M
set_option maxRecDepth 100000 in
theorem X_m_round_69 {nL : Nat} {xs : Nat → Int32} {S : Sto} {O : Sto} {d : Nat} (hd : 4 ≤ d) : ∀ n : Nat, ∀ (x1 : Int32) (x2 : Int32) (M : Sto) (r : Int32) (M' : Sto), F_m_round_69 n x1 x2 M = some (r, M') → EX nL xs 0 MI_250 d 69 [some (.ref 1000), some (.int x1), some (.int x2), none] [] (S, M, O) (.inl (some (.int r))) (S, M', O) := by
  intro n
  induction n with
  | zero => intro x1 x2 M r M' hF; cases hF
  | succ n ih =>
  intro x1 x2 M r M' hF
  unfold F_m_round_69 at hF
  refine Ex_go 3 (pc' := if (300 : Int32) ≤ x2 then 127 else 76) (L' := [some (.ref 1000), some (.int x1), some (.int x2), none]) (st' := []) (σ' := (S, M, O)) (rfl) ?_
  refine Ex_br (fun hc => ?_) (fun hc => ?_)
  · rw [if_pos hc] at hF
    refine Ex_go 1 (pc' := 128) (L' := [some (.ref 1000), some (.int x1), some (.int x2), none]) (st' := [.int (-1 : Int32)]) (σ' := (S, M, O)) (rfl) ?_
    cases hF
    exact Ex_fin rfl
  · rw [if_neg hc] at hF
    refine Ex_go 4 (pc' := 80) (L' := [some (.ref 1000), some (.int x1), some (.int x2), some (.int (x2 + (1 : Int32)))]) (st' := []) (σ' := (S, M, O)) (rfl) ?_
    exact Ex_mono (L := [some (.ref 1000), some (.int x1), some (.int x2), some (.int (x2 + (1 : Int32)))]) (Le_s (Le_s (Le_s (Le_s (Le_0))))) (X_m_round_80 hd ih FU _ _ _ _ _ _ hF) (Nat.le_refl _) (by omega)
def F_m_round_32 : Nat → Int32 → Int32 → Sto → Option (Int32 × Sto)
  | 0, _, _, _ => none
  | n + 1, x1, x2, M => if (300 : Int32) < x2 then F_m_round_69 FU x1 (0 : Int32) M else ck (ib (x2 - (1 : Int32)) 301) (b2 (F_m_spawned (al M 1025 (Int32.toNatClampNeg (x2 - (1 : Int32)))) (gi M 1017) M) (fun r2 M4 => ck (ib x2 301) (F_m_round_32 n x1 (x2 + (1 : Int32)) (ul M4 1025 (vp_updL (al M4 1025) (Int32.toNatClampNeg x2) r2)))))
set_option maxRecDepth 100000 in
theorem X_m_round_32 {nL : Nat} {xs : Nat → Int32} {S : Sto} {O : Sto} {d : Nat} (hd : 4 ≤ d) : ∀ n : Nat, ∀ (x1 : Int32) (x2 : Int32) (M : Sto) (r : Int32) (M' : Sto), F_m_round_32 n x1 x2 M = some (r, M') → EX nL xs 0 MI_250 d 32 [some (.ref 1000), some (.int x1), some (.int x2), none] [] (S, M, O) (.inl (some (.int r))) (S, M', O) := by
  intro n
  induction n with
  | zero => intro x1 x2 M r M' hF; cases hF
  | succ n ih =>
  intro x1 x2 M r M' hF
  unfold F_m_round_32 at hF
  refine Ex_go 3 (pc' := if (300 : Int32) < x2 then 67 else 39) (L' := [some (.ref 1000), some (.int x1), some (.int x2), none]) (st' := []) (σ' := (S, M, O)) (rfl) ?_
  refine Ex_br (fun hc => ?_) (fun hc => ?_)
  · rw [if_pos hc] at hF
    refine Ex_go 2 (pc' := 69) (L' := [some (.ref 1000), some (.int x1), some (.int (0 : Int32)), none]) (st' := []) (σ' := (S, M, O)) (rfl) ?_
    exact Ex_mono (L := [some (.ref 1000), some (.int x1), some (.int (0 : Int32)), none]) (Le_s (Le_s (Le_s (Le_n (Le_0))))) (X_m_round_69 hd FU _ _ _ _ _ hF) (Nat.le_refl _) (by omega)
  · rw [if_neg hc] at hF
    refine Ex_go 9 (pc' := 52) (L' := [some (.ref 1000), some (.int x1), some (.int x2), none]) (st' := [.int (x2 - (1 : Int32)), .ref 1025, .ref 1000, .int x2, .ref 1025]) (σ' := (S, M, O)) (rfl) ?_
    obtain ⟨hc1, hF⟩ := ck_i hF
    refine Ex_chk (b := ib (x2 - (1 : Int32)) 301) (pc' := 53) (L' := [some (.ref 1000), some (.int x1), some (.int x2), none]) (st' := [.long (al M 1025 (Int32.toNatClampNeg (x2 - (1 : Int32)))), .ref 1000, .int x2, .ref 1025]) (σ' := (S, M, O)) rfl hc1 ?_
    refine Ex_go 2 (pc' := 57) (L' := [some (.ref 1000), some (.int x1), some (.int x2), none]) (st' := [.int (gi M 1017), .long (al M 1025 (Int32.toNatClampNeg (x2 - (1 : Int32)))), .ref 1000, .int x2, .ref 1025]) (σ' := (S, M, O)) (rfl) ?_
    obtain ⟨r2, M4, hx3, hF⟩ := b2_i hF
    refine Ex_call (kind := 2) (y := 118) (as := [.ref 1000, .long (al M 1025 (Int32.toNatClampNeg (x2 - (1 : Int32)))), .int (gi M 1017)]) (rest := [.int x2, .ref 1025]) (L0 := [some (.ref 1000), some (.long (al M 1025 (Int32.toNatClampNeg (x2 - (1 : Int32))))), none, some (.int (gi M 1017)), none, none, none, none]) (d' := 3) (v := some (.long r2)) (σ1 := (S, M4, O)) rfl rfl mt_118 rfl rfl (by omega) (X_m_spawned (Nat.le_refl _) _ _ _ _ _ hx3) (Ex_st (st2 := [.long r2, .int x2, .ref 1025]) rfl ?_)
    obtain ⟨hc5, hF⟩ := ck_i hF
    refine Ex_chk (b := ib x2 301) (pc' := 61) (L' := [some (.ref 1000), some (.int x1), some (.int x2), none]) (st' := []) (σ' := (S, (ul M4 1025 (vp_updL (al M4 1025) (Int32.toNatClampNeg x2) r2)), O)) rfl hc5 ?_
    refine Ex_go 2 (pc' := 32) (L' := [some (.ref 1000), some (.int x1), some (.int (x2 + (1 : Int32))), none]) (st' := []) (σ' := (S, (ul M4 1025 (vp_updL (al M4 1025) (Int32.toNatClampNeg x2) r2)), O)) (rfl) ?_
    exact Ex_mono (L := [some (.ref 1000), some (.int x1), some (.int (x2 + (1 : Int32))), none]) (Le_s (Le_s (Le_s (Le_n (Le_0))))) (ih _ _ _ _ _ hF) (Nat.le_refl _) (by omega)
def F_m_round (x1 : Int32) (M : Sto) : Option (Int32 × Sto) := if x1 < 0 then F_m_round_14 (si M 1001 (0 : Int32)) else if x1 ≤ (1 : Int32) then F_m_round_32 FU x1 (1 : Int32) (ul (si M 1001 (0 : Int32)) 1025 (vp_updL (al (si M 1001 (0 : Int32)) 1025) (Int32.toNatClampNeg (0 : Int32)) (gl (si M 1001 (0 : Int32)) 1015))) else F_m_round_14 (si M 1001 (0 : Int32))
set_option maxRecDepth 100000 in
theorem X_m_round {nL : Nat} {xs : Nat → Int32} {S : Sto} {O : Sto} {d : Nat} (hd : 4 ≤ d) : ∀ (x1 : Int32) (M : Sto) (r : Int32) (M' : Sto), F_m_round x1 M = some (r, M') → EX nL xs 0 MI_250 d 0 [some (.ref 1000), some (.int x1), none, none] [] (S, M, O) (.inl (some (.int r))) (S, M', O) := by
  intro x1 M r M' hF
  unfold F_m_round at hF
  refine Ex_go 5 (pc' := if x1 < 0 then 14 else 9) (L' := [some (.ref 1000), some (.int x1), none, none]) (st' := []) (σ' := (S, (si M 1001 (0 : Int32)), O)) (rfl) ?_
  refine Ex_br (fun hc => ?_) (fun hc => ?_)
  · rw [if_pos hc] at hF
    exact Ex_mono (L := [some (.ref 1000), none, none, none]) (Le_s (Le_n (Le_n (Le_n (Le_0))))) (X_m_round_14 hd _ _ _ hF) (Nat.le_refl _) (by omega)
  · rw [if_neg hc] at hF
    refine Ex_go 3 (pc' := if x1 ≤ (1 : Int32) then 20 else 14) (L' := [some (.ref 1000), some (.int x1), none, none]) (st' := []) (σ' := (S, (si M 1001 (0 : Int32)), O)) (rfl) ?_
    refine Ex_br (fun hc => ?_) (fun hc => ?_)
    · rw [if_pos hc] at hF
      refine Ex_go 5 (pc' := 29) (L' := [some (.ref 1000), some (.int x1), none, none]) (st' := [.long (gl (si M 1001 (0 : Int32)) 1015), .int (0 : Int32), .ref 1025]) (σ' := (S, (si M 1001 (0 : Int32)), O)) (rfl) ?_
      refine Ex_chk (b := ib (0 : Int32) 301) (pc' := 30) (L' := [some (.ref 1000), some (.int x1), none, none]) (st' := []) (σ' := (S, (ul (si M 1001 (0 : Int32)) 1025 (vp_updL (al (si M 1001 (0 : Int32)) 1025) (Int32.toNatClampNeg (0 : Int32)) (gl (si M 1001 (0 : Int32)) 1015))), O)) rfl (by decide) ?_
      refine Ex_go 2 (pc' := 32) (L' := [some (.ref 1000), some (.int x1), some (.int (1 : Int32)), none]) (st' := []) (σ' := (S, (ul (si M 1001 (0 : Int32)) 1025 (vp_updL (al (si M 1001 (0 : Int32)) 1025) (Int32.toNatClampNeg (0 : Int32)) (gl (si M 1001 (0 : Int32)) 1015))), O)) (rfl) ?_
      exact Ex_mono (L := [some (.ref 1000), some (.int x1), some (.int (1 : Int32)), none]) (Le_s (Le_s (Le_s (Le_n (Le_0))))) (X_m_round_32 hd FU _ _ _ _ _ hF) (Nat.le_refl _) (by omega)
    · rw [if_neg hc] at hF
      exact Ex_mono (L := [some (.ref 1000), none, none, none]) (Le_s (Le_n (Le_n (Le_n (Le_0))))) (X_m_round_14 hd _ _ _ hF) (Nat.le_refl _) (by omega)
def F_Li_beginning_51 (k7 : Int64 → Int32 → Int64 → Int64 → Option Int64) (x0 : Int64) (x2 : Int32) (x3 : Int64) (x5 : Int64) : Option Int64 := k7 x0 x2 x3 (x5 / (10 : Int64))
set_option maxRecDepth 100000 in
theorem X_Li_beginning_51 {nL : Nat} {xs : Nat → Int32} {S : Sto} {M : Sto} {O : Sto} {d : Nat} (hd : 6 ≤ d) {k7 : Int64 → Int32 → Int64 → Int64 → Option Int64} (hk7 : ∀ (x0 : Int64) (x2 : Int32) (x3 : Int64) (x5 : Int64) (r : Int64), k7 x0 x2 x3 x5 = some r → EX nL xs 0 MI_238 d 7 [some (.long x0), none, some (.int x2), some (.long x3), none, some (.long x5), none, none, none] [] (S, M, O) (.inl (some (.long r))) (S, M, O)) : ∀ (x0 : Int64) (x2 : Int32) (x3 : Int64) (x5 : Int64) (r : Int64), F_Li_beginning_51 k7 x0 x2 x3 x5 = some r → EX nL xs 0 MI_238 d 51 [some (.long x0), none, some (.int x2), some (.long x3), none, some (.long x5), none, none, none] [] (S, M, O) (.inl (some (.long r))) (S, M, O) := by
  intro x0 x2 x3 x5 r hF
  unfold F_Li_beginning_51 at hF
  refine Ex_go 2 (pc' := 56) (L' := [some (.long x0), none, some (.int x2), some (.long x3), none, some (.long x5), none, none, none]) (st' := [.long (10 : Int64), .long x5]) (σ' := (S, M, O)) (rfl) ?_
  refine Ex_chk (b := nzL (10 : Int64)) (pc' := 57) (L' := [some (.long x0), none, some (.int x2), some (.long x3), none, some (.long x5), none, none, none]) (st' := [.long (x5 / (10 : Int64))]) (σ' := (S, M, O)) rfl (by decide) ?_
  refine Ex_go 2 (pc' := 7) (L' := [some (.long x0), none, some (.int x2), some (.long x3), none, some (.long (x5 / (10 : Int64))), none, none, none]) (st' := []) (σ' := (S, M, O)) (rfl) ?_
  exact Ex_mono (L := [some (.long x0), none, some (.int x2), some (.long x3), none, some (.long (x5 / (10 : Int64))), none, none, none]) (Le_s (Le_n (Le_s (Le_s (Le_n (Le_s (Le_n (Le_n (Le_n (Le_0)))))))))) (hk7 _ _ _ _ _ hF) (Nat.le_refl _) (by omega)
def F_Li_beginning_7 : Nat → Int64 → Int32 → Int64 → Int64 → Option Int64
  | 0, _, _, _, _ => none
  | n + 1, x0, x2, x3, x5 => if x5 ≤ (0 : Int64) then some x3 else if x2 ≤ 0 then some x3 else if x0 < ((Int32.toInt64 x2) * x5) then F_Li_beginning_51 (F_Li_beginning_7 n) x0 x2 x3 x5 else nm (x3 + (((mnL x0 ((((Int32.toInt64 x2) * x5) + x5) - (1 : Int64))) - ((Int32.toInt64 x2) * x5)) + (1 : Int64))) (fun t1 => F_Li_beginning_51 (F_Li_beginning_7 n) x0 x2 t1 x5)
set_option maxRecDepth 100000 in
theorem X_Li_beginning_7 {nL : Nat} {xs : Nat → Int32} {S : Sto} {M : Sto} {O : Sto} {d : Nat} (hd : 6 ≤ d) : ∀ n : Nat, ∀ (x0 : Int64) (x2 : Int32) (x3 : Int64) (x5 : Int64) (r : Int64), F_Li_beginning_7 n x0 x2 x3 x5 = some r → EX nL xs 0 MI_238 d 7 [some (.long x0), none, some (.int x2), some (.long x3), none, some (.long x5), none, none, none] [] (S, M, O) (.inl (some (.long r))) (S, M, O) := by
  intro n
  induction n with
  | zero => intro x0 x2 x3 x5 r hF; cases hF
  | succ n ih =>
  intro x0 x2 x3 x5 r hF
  unfold F_Li_beginning_7 at hF
  refine Ex_go 4 (pc' := if (lg_cmp x5 (0 : Int64)) ≤ 0 then 62 else 14) (L' := [some (.long x0), none, some (.int x2), some (.long x3), none, some (.long x5), none, none, none]) (st' := []) (σ' := (S, M, O)) (rfl) ?_
  refine Ex_brI lc_le (fun hc => ?_) (fun hc => ?_)
  · rw [if_pos hc] at hF
    refine Ex_go 1 (pc' := 63) (L' := [some (.long x0), none, some (.int x2), some (.long x3), none, some (.long x5), none, none, none]) (st' := [.long x3]) (σ' := (S, M, O)) (rfl) ?_
    cases hF
    exact Ex_fin rfl
  · rw [if_neg hc] at hF
    refine Ex_go 2 (pc' := if x2 ≤ 0 then 62 else 18) (L' := [some (.long x0), none, some (.int x2), some (.long x3), none, some (.long x5), none, none, none]) (st' := []) (σ' := (S, M, O)) (rfl) ?_
    refine Ex_br (fun hc => ?_) (fun hc => ?_)
    · rw [if_pos hc] at hF
      refine Ex_go 1 (pc' := 63) (L' := [some (.long x0), none, some (.int x2), some (.long x3), none, some (.long x5), none, none, none]) (st' := [.long x3]) (σ' := (S, M, O)) (rfl) ?_
      cases hF
      exact Ex_fin rfl
    · rw [if_neg hc] at hF
      refine Ex_go 9 (pc' := if 0 < (lg_cmp ((Int32.toInt64 x2) * x5) x0) then 51 else 32) (L' := [some (.long x0), none, some (.int x2), some (.long x3), none, some (.long x5), none, some (.long ((Int32.toInt64 x2) * x5)), none]) (st' := []) (σ' := (S, M, O)) (rfl) ?_
      refine Ex_brI lc_gt (fun hc => ?_) (fun hc => ?_)
      · rw [if_pos hc] at hF
        exact Ex_mono (L := [some (.long x0), none, some (.int x2), some (.long x3), none, some (.long x5), none, none, none]) (Le_s (Le_n (Le_s (Le_s (Le_n (Le_s (Le_n (Le_n (Le_n (Le_0)))))))))) (X_Li_beginning_51 hd ih _ _ _ _ _ hF) (Nat.le_refl _) (by omega)
      · rw [if_neg hc] at hF
        refine Ex_go 7 (pc' := 41) (L' := [some (.long x0), none, some (.int x2), some (.long x3), none, some (.long x5), none, some (.long ((Int32.toInt64 x2) * x5)), none]) (st' := [.long ((((Int32.toInt64 x2) * x5) + x5) - (1 : Int64)), .long x0, .long x3]) (σ' := (S, M, O)) (rfl) ?_
        refine Ex_blt (kind := 12) (y := 0) (as := [.long x0, .long ((((Int32.toInt64 x2) * x5) + x5) - (1 : Int64))]) (rest := [.long x3]) (v := .long (mnL x0 ((((Int32.toInt64 x2) * x5) + x5) - (1 : Int64)))) rfl rfl (by omega) ?_
        obtain ⟨t1, ht2, hF⟩ := nm_i hF
        refine Ex_go 6 (pc' := 51) (L' := [some (.long x0), none, some (.int x2), some (.long t1), none, some (.long x5), none, some (.long ((Int32.toInt64 x2) * x5)), none]) (st' := []) (σ' := (S, M, O)) (by rw [ht2]; rfl) ?_
        exact Ex_mono (L := [some (.long x0), none, some (.int x2), some (.long t1), none, some (.long x5), none, none, none]) (Le_s (Le_n (Le_s (Le_s (Le_n (Le_s (Le_n (Le_n (Le_n (Le_0)))))))))) (X_Li_beginning_51 hd ih _ _ _ _ _ hF) (Nat.le_refl _) (by omega)
def F_Li_beginning (x0 : Int64) (x2 : Int32) : Option Int64 := F_Li_beginning_7 FU x0 x2 (0 : Int64) (1000000000000000 : Int64)
set_option maxRecDepth 100000 in
theorem X_Li_beginning {nL : Nat} {xs : Nat → Int32} {S : Sto} {M : Sto} {O : Sto} {d : Nat} (hd : 6 ≤ d) : ∀ (x0 : Int64) (x2 : Int32) (r : Int64), F_Li_beginning x0 x2 = some r → EX nL xs 0 MI_238 d 0 [some (.long x0), none, some (.int x2), none, none, none, none, none, none] [] (S, M, O) (.inl (some (.long r))) (S, M, O) := by
  intro x0 x2 r hF
  unfold F_Li_beginning at hF
  refine Ex_go 4 (pc' := 7) (L' := [some (.long x0), none, some (.int x2), some (.long (0 : Int64)), none, some (.long (1000000000000000 : Int64)), none, none, none]) (st' := []) (σ' := (S, M, O)) (rfl) ?_
  exact Ex_mono (L := [some (.long x0), none, some (.int x2), some (.long (0 : Int64)), none, some (.long (1000000000000000 : Int64)), none, none, none]) (Le_s (Le_n (Le_s (Le_s (Le_n (Le_s (Le_n (Le_n (Le_n (Le_0)))))))))) (X_Li_beginning_7 hd FU _ _ _ _ _ hF) (Nat.le_refl _) (by omega)
def F_w_split_11 (S : Sto) : Option (Int64 ⊕ Nat) := some (.inr 0)
set_option maxRecDepth 100000 in
theorem X_w_split_11 {nL : Nat} {xs : Nat → Int32} {M : Sto} {O : Sto} {d : Nat} (hd : 8 ≤ d) : ∀ (S : Sto) (r : Int64 ⊕ Nat), F_w_split_11 S = some r → EX nL xs 1 MI_244 d 11 [none, none, none, none, none, none] [] (S, M, O) (rsJ r) (S, M, O) := by
  intro S r hF
  unfold F_w_split_11 at hF
  cases hF
  exact Ex_thr rfl (by omega) (Nat.le_refl _)
def F_w_split_28 (S : Sto) : Option (Int64 ⊕ Nat) := some (.inr 1)
set_option maxRecDepth 100000 in
theorem X_w_split_28 {nL : Nat} {xs : Nat → Int32} {M : Sto} {O : Sto} {d : Nat} (hd : 8 ≤ d) : ∀ (S : Sto) (r : Int64 ⊕ Nat), F_w_split_28 S = some r → EX nL xs 1 MI_244 d 28 [none, none, none, none, none, none] [] (S, M, O) (rsJ r) (S, M, O) := by
  intro S r hF
  unfold F_w_split_28 at hF
  cases hF
  exact Ex_thr rfl (by omega) (Nat.le_refl _)
def F_w_split_88 (k41 : Int32 → Int32 → Int64 → Int32 → Sto → Option (Int64 ⊕ Nat)) (x1 : Int32) (x2 : Int32) (x3 : Int64) (x5 : Int32) (S : Sto) : Option (Int64 ⊕ Nat) := k41 x1 x2 x3 (x5 + (1 : Int32)) S
set_option maxRecDepth 100000 in
theorem X_w_split_88 {nL : Nat} {xs : Nat → Int32} {M : Sto} {O : Sto} {d : Nat} (hd : 8 ≤ d) {k41 : Int32 → Int32 → Int64 → Int32 → Sto → Option (Int64 ⊕ Nat)} (hk41 : ∀ (x1 : Int32) (x2 : Int32) (x3 : Int64) (x5 : Int32) (S : Sto) (r : Int64 ⊕ Nat), k41 x1 x2 x3 x5 S = some r → EX nL xs 1 MI_244 d 41 [some (.ref 0), some (.int x1), some (.int x2), some (.long x3), none, some (.int x5)] [] (S, M, O) (rsJ r) (S, M, O)) : ∀ (x1 : Int32) (x2 : Int32) (x3 : Int64) (x5 : Int32) (S : Sto) (r : Int64 ⊕ Nat), F_w_split_88 k41 x1 x2 x3 x5 S = some r → EX nL xs 1 MI_244 d 88 [some (.ref 0), some (.int x1), some (.int x2), some (.long x3), none, some (.int x5)] [] (S, M, O) (rsJ r) (S, M, O) := by
  intro x1 x2 x3 x5 S r hF
  unfold F_w_split_88 at hF
  refine Ex_go 2 (pc' := 41) (L' := [some (.ref 0), some (.int x1), some (.int x2), some (.long x3), none, some (.int (x5 + (1 : Int32)))]) (st' := []) (σ' := (S, M, O)) (rfl) ?_
  exact Ex_mono (L := [some (.ref 0), some (.int x1), some (.int x2), some (.long x3), none, some (.int (x5 + (1 : Int32)))]) (Le_s (Le_s (Le_s (Le_s (Le_n (Le_s (Le_0))))))) (hk41 _ _ _ _ _ _ hF) (Nat.le_refl _) (by omega)
def F_w_split_41 : Nat → Int32 → Int32 → Int64 → Int32 → Sto → Option (Int64 ⊕ Nat)
  | 0, _, _, _, _, _ => none
  | n + 1, x1, x2, x3, x5, S => if (9 : Int32) < x5 then some (.inl x3) else ck (nzI x1) (if ((x5 - (1 : Int32)) - (x5 - (1 : Int32)) / x1 * x1) = x2 then b1 (F_Li_beginning (gl S 27) x5) (fun r2 => b1 (F_Li_beginning ((gl S 26) - (1 : Int64)) x5) (fun r4 => F_w_split_88 (F_w_split_41 n) x1 x2 (x3 + (r2 - r4)) x5 S)) else F_w_split_88 (F_w_split_41 n) x1 x2 x3 x5 S)
set_option maxRecDepth 100000 in
theorem X_w_split_41 {nL : Nat} {xs : Nat → Int32} {M : Sto} {O : Sto} {d : Nat} (hd : 8 ≤ d) : ∀ n : Nat, ∀ (x1 : Int32) (x2 : Int32) (x3 : Int64) (x5 : Int32) (S : Sto) (r : Int64 ⊕ Nat), F_w_split_41 n x1 x2 x3 x5 S = some r → EX nL xs 1 MI_244 d 41 [some (.ref 0), some (.int x1), some (.int x2), some (.long x3), none, some (.int x5)] [] (S, M, O) (rsJ r) (S, M, O) := by
  intro n
  induction n with
  | zero => intro x1 x2 x3 x5 S r hF; cases hF
  | succ n ih =>
  intro x1 x2 x3 x5 S r hF
  unfold F_w_split_41 at hF
  refine Ex_go 3 (pc' := if (9 : Int32) < x5 then 94 else 48) (L' := [some (.ref 0), some (.int x1), some (.int x2), some (.long x3), none, some (.int x5)]) (st' := []) (σ' := (S, M, O)) (rfl) ?_
  refine Ex_br (fun hc => ?_) (fun hc => ?_)
  · rw [if_pos hc] at hF
    refine Ex_go 1 (pc' := 95) (L' := [some (.ref 0), some (.int x1), some (.int x2), some (.long x3), none, some (.int x5)]) (st' := [.long x3]) (σ' := (S, M, O)) (rfl) ?_
    cases hF
    exact Ex_fin rfl
  · rw [if_neg hc] at hF
    refine Ex_go 4 (pc' := 53) (L' := [some (.ref 0), some (.int x1), some (.int x2), some (.long x3), none, some (.int x5)]) (st' := [.int x1, .int (x5 - (1 : Int32))]) (σ' := (S, M, O)) (rfl) ?_
    obtain ⟨hc1, hF⟩ := ck_i hF
    refine Ex_chk (b := nzI x1) (pc' := 54) (L' := [some (.ref 0), some (.int x1), some (.int x2), some (.long x3), none, some (.int x5)]) (st' := [.int ((x5 - (1 : Int32)) - (x5 - (1 : Int32)) / x1 * x1)]) (σ' := (S, M, O)) rfl hc1 ?_
    refine Ex_go 2 (pc' := if ¬ ((x5 - (1 : Int32)) - (x5 - (1 : Int32)) / x1 * x1) = x2 then 88 else 58) (L' := [some (.ref 0), some (.int x1), some (.int x2), some (.long x3), none, some (.int x5)]) (st' := []) (σ' := (S, M, O)) (rfl) ?_
    refine Ex_brN (fun hc => ?_) (fun hc => ?_)
    · rw [if_pos hc] at hF
      refine Ex_go 5 (pc' := 68) (L' := [some (.ref 0), some (.int x1), some (.int x2), some (.long x3), none, some (.int x5)]) (st' := [.int x5, .long (gl S 27), .long x3]) (σ' := (S, M, O)) (rfl) ?_
      obtain ⟨r2, hx3, hF⟩ := b1_i hF
      refine Ex_callK (K1 := 0) (K2 := 1) (kind := 0) (y := 238) (as := [.long (gl S 27), .int x5]) (rest := [.long x3]) (L0 := [some (.long (gl S 27)), none, some (.int x5), none, none, none, none, none, none]) (d' := 6) (v := some (.long r2)) (σ1 := (S, M, O)) rfl rfl mt_238 rfl rfl (by omega) (X_Li_beginning (Nat.le_refl _) _ _ _ hx3) (Ex_st (st2 := [.long r2, .long x3]) rfl ?_) (by omega)
      refine Ex_go 6 (pc' := 82) (L' := [some (.ref 0), some (.int x1), some (.int x2), some (.long x3), none, some (.int x5)]) (st' := [.int x5, .long ((gl S 26) - (1 : Int64)), .long r2, .long x3]) (σ' := (S, M, O)) (rfl) ?_
      obtain ⟨r4, hx5, hF⟩ := b1_i hF
      refine Ex_callK (K1 := 0) (K2 := 1) (kind := 0) (y := 238) (as := [.long ((gl S 26) - (1 : Int64)), .int x5]) (rest := [.long r2, .long x3]) (L0 := [some (.long ((gl S 26) - (1 : Int64))), none, some (.int x5), none, none, none, none, none, none]) (d' := 6) (v := some (.long r4)) (σ1 := (S, M, O)) rfl rfl mt_238 rfl rfl (by omega) (X_Li_beginning (Nat.le_refl _) _ _ _ hx5) (Ex_st (st2 := [.long r4, .long r2, .long x3]) rfl ?_) (by omega)
      refine Ex_go 3 (pc' := 88) (L' := [some (.ref 0), some (.int x1), some (.int x2), some (.long (x3 + (r2 - r4))), none, some (.int x5)]) (st' := []) (σ' := (S, M, O)) (rfl) ?_
      exact Ex_mono (L := [some (.ref 0), some (.int x1), some (.int x2), some (.long (x3 + (r2 - r4))), none, some (.int x5)]) (Le_s (Le_s (Le_s (Le_s (Le_n (Le_s (Le_0))))))) (X_w_split_88 hd ih _ _ _ _ _ _ hF) (Nat.le_refl _) (by omega)
    · rw [if_neg hc] at hF
      exact Ex_mono (L := [some (.ref 0), some (.int x1), some (.int x2), some (.long x3), none, some (.int x5)]) (Le_s (Le_s (Le_s (Le_s (Le_n (Le_s (Le_0))))))) (X_w_split_88 hd ih _ _ _ _ _ _ hF) (Nat.le_refl _) (by omega)
def F_w_split (x1 : Int32) (x2 : Int32) (S : Sto) : Option (Int64 ⊕ Nat) := if x1 < (1 : Int32) then F_w_split_11 S else if x1 ≤ (9 : Int32) then if x2 < 0 then F_w_split_28 S else if x2 < x1 then F_w_split_41 FU x1 x2 (0 : Int64) (1 : Int32) S else F_w_split_28 S else F_w_split_11 S
set_option maxRecDepth 100000 in
theorem X_w_split {nL : Nat} {xs : Nat → Int32} {M : Sto} {O : Sto} {d : Nat} (hd : 8 ≤ d) : ∀ (x1 : Int32) (x2 : Int32) (S : Sto) (r : Int64 ⊕ Nat), F_w_split x1 x2 S = some r → EX nL xs 1 MI_244 d 0 [some (.ref 0), some (.int x1), some (.int x2), none, none, none] [] (S, M, O) (rsJ r) (S, M, O) := by
  intro x1 x2 S r hF
  unfold F_w_split at hF
  refine Ex_go 3 (pc' := if x1 < (1 : Int32) then 11 else 5) (L' := [some (.ref 0), some (.int x1), some (.int x2), none, none, none]) (st' := []) (σ' := (S, M, O)) (rfl) ?_
  refine Ex_br (fun hc => ?_) (fun hc => ?_)
  · rw [if_pos hc] at hF
    exact Ex_mono (L := [none, none, none, none, none, none]) (Le_n (Le_n (Le_n (Le_n (Le_n (Le_n (Le_0))))))) (X_w_split_11 hd _ _ hF) (Nat.le_refl _) (by omega)
  · rw [if_neg hc] at hF
    refine Ex_go 3 (pc' := if x1 ≤ (9 : Int32) then 19 else 11) (L' := [some (.ref 0), some (.int x1), some (.int x2), none, none, none]) (st' := []) (σ' := (S, M, O)) (rfl) ?_
    refine Ex_br (fun hc => ?_) (fun hc => ?_)
    · rw [if_pos hc] at hF
      refine Ex_go 2 (pc' := if x2 < 0 then 28 else 23) (L' := [some (.ref 0), some (.int x1), some (.int x2), none, none, none]) (st' := []) (σ' := (S, M, O)) (rfl) ?_
      refine Ex_br (fun hc => ?_) (fun hc => ?_)
      · rw [if_pos hc] at hF
        exact Ex_mono (L := [none, none, none, none, none, none]) (Le_n (Le_n (Le_n (Le_n (Le_n (Le_n (Le_0))))))) (X_w_split_28 hd _ _ hF) (Nat.le_refl _) (by omega)
      · rw [if_neg hc] at hF
        refine Ex_go 3 (pc' := if x2 < x1 then 36 else 28) (L' := [some (.ref 0), some (.int x1), some (.int x2), none, none, none]) (st' := []) (σ' := (S, M, O)) (rfl) ?_
        refine Ex_br (fun hc => ?_) (fun hc => ?_)
        · rw [if_pos hc] at hF
          refine Ex_go 4 (pc' := 41) (L' := [some (.ref 0), some (.int x1), some (.int x2), some (.long (0 : Int64)), none, some (.int (1 : Int32))]) (st' := []) (σ' := (S, M, O)) (rfl) ?_
          exact Ex_mono (L := [some (.ref 0), some (.int x1), some (.int x2), some (.long (0 : Int64)), none, some (.int (1 : Int32))]) (Le_s (Le_s (Le_s (Le_s (Le_n (Le_s (Le_0))))))) (X_w_split_41 hd FU _ _ _ _ _ _ hF) (Nat.le_refl _) (by omega)
        · rw [if_neg hc] at hF
          exact Ex_mono (L := [none, none, none, none, none, none]) (Le_n (Le_n (Le_n (Le_n (Le_n (Le_n (Le_0))))))) (X_w_split_28 hd _ _ hF) (Nat.le_refl _) (by omega)
    · rw [if_neg hc] at hF
      exact Ex_mono (L := [none, none, none, none, none, none]) (Le_n (Le_n (Le_n (Le_n (Le_n (Le_n (Le_0))))))) (X_w_split_11 hd _ _ hF) (Nat.le_refl _) (by omega)
def F_l_split (x1 : Int32) (x2 : Int32) (S : Sto) (O : Sto) : Option (Int32 × Sto) := b1 (F_w_split x1 x2 S) (fun r1 => su r1 (fun v3 => some ((0 : Int32), (ul O 2000 (vp_updL (al O 2000) (Int32.toNatClampNeg (0 : Int32)) v3)))) (fun z4 => if z4 = 0 then some ((2 : Int32), O) else (if z4 = 1 then some ((1 : Int32), O) else (none))))
set_option maxRecDepth 100000 in
theorem X_l_split {nL : Nat} {xs : Nat → Int32} {M : Sto} {d : Nat} (hd : 9 ≤ d) : ∀ (x1 : Int32) (x2 : Int32) (S : Sto) (O : Sto) (r : Int32) (O' : Sto), F_l_split x1 x2 S O = some (r, O') → EX nL xs 1 MI_245 d 0 [some (.ref 0), some (.int x1), some (.int x2), some (.ref 2000), none] [] (S, M, O) (.inl (some (.int r))) (S, M, O') := by
  intro x1 x2 S O r O' hF
  unfold F_l_split at hF
  refine Ex_go 5 (pc' := 5) (L' := [some (.ref 0), some (.int x1), some (.int x2), some (.ref 2000), none]) (st' := [.int x2, .int x1, .ref 0, .int (0 : Int32), .ref 2000]) (σ' := (S, M, O)) (rfl) ?_
  obtain ⟨r1, hx2, hF⟩ := b1_i hF
  cases r1 with
  | inl v3 =>
    rw [su_l] at hF
    refine Ex_callK (K1 := 1) (K2 := 0) (kind := 3) (y := 244) (as := [.ref 0, .int x1, .int x2]) (rest := [.int (0 : Int32), .ref 2000]) (L0 := [some (.ref 0), some (.int x1), some (.int x2), none, none, none]) (d' := 8) (v := some (.long v3)) (σ1 := (S, M, O)) rfl rfl mt_244 rfl rfl (by omega) (X_w_split (Nat.le_refl _) _ _ _ _ hx2) (Ex_st (st2 := [.long v3, .int (0 : Int32), .ref 2000]) rfl ?_) (by omega)
    refine Ex_chk (b := ib (0 : Int32) 1) (pc' := 9) (L' := [some (.ref 0), some (.int x1), some (.int x2), some (.ref 2000), none]) (st' := []) (σ' := (S, M, (ul O 2000 (vp_updL (al O 2000) (Int32.toNatClampNeg (0 : Int32)) v3)))) rfl (by decide) ?_
    refine Ex_go 2 (pc' := 21) (L' := [some (.ref 0), some (.int x1), some (.int x2), some (.ref 2000), none]) (st' := [.int (0 : Int32)]) (σ' := (S, M, (ul O 2000 (vp_updL (al O 2000) (Int32.toNatClampNeg (0 : Int32)) v3)))) (rfl) ?_
    cases hF
    exact Ex_fin rfl
  | inr z4 =>
    by_cases hz0 : z4 = 0
    · have hF : (if z4 = 0 then _ else _) = _ := hF
      rw [if_pos hz0] at hF
      subst hz0
      refine Ex_callX (K1 := 1) (K2 := 0) (y := 244) (as := [.ref 0, .int x1, .int x2]) (rest := [.int (0 : Int32), .ref 2000]) (L0 := [some (.ref 0), some (.int x1), some (.int x2), none, none, none]) (d' := 8) (σ1 := (S, M, O)) (x := 0) (pc' := 18) (i := 4) rfl rfl mt_244 rfl rfl (by omega) (X_w_split (Nat.le_refl _) _ _ _ _ hx2) rfl (Ex_L (L2 := [some (.ref 0), some (.int x1), some (.int x2), some (.ref 2000), none]) rfl ?_) (by omega)
      refine Ex_go 1 (pc' := 19) (L' := [some (.ref 0), some (.int x1), some (.int x2), some (.ref 2000), none]) (st' := [.int (2 : Int32)]) (σ' := (S, M, O)) (rfl) ?_
      cases hF
      exact Ex_fin rfl
    have hF : (if z4 = 0 then _ else _) = _ := hF
    rw [if_neg hz0] at hF
    by_cases hz1 : z4 = 1
    · have hF : (if z4 = 1 then _ else _) = _ := hF
      rw [if_pos hz1] at hF
      subst hz1
      refine Ex_callX (K1 := 1) (K2 := 0) (y := 244) (as := [.ref 0, .int x1, .int x2]) (rest := [.int (0 : Int32), .ref 2000]) (L0 := [some (.ref 0), some (.int x1), some (.int x2), none, none, none]) (d' := 8) (σ1 := (S, M, O)) (x := 1) (pc' := 14) (i := 4) rfl rfl mt_244 rfl rfl (by omega) (X_w_split (Nat.le_refl _) _ _ _ _ hx2) rfl (Ex_L (L2 := [some (.ref 0), some (.int x1), some (.int x2), some (.ref 2000), none]) rfl ?_) (by omega)
      refine Ex_go 1 (pc' := 15) (L' := [some (.ref 0), some (.int x1), some (.int x2), some (.ref 2000), none]) (st' := [.int (1 : Int32)]) (σ' := (S, M, O)) (rfl) ?_
      cases hF
      exact Ex_fin rfl
    have hF : (if z4 = 1 then _ else _) = _ := hF
    rw [if_neg hz1] at hF
    cases hF
def F_m_firstBy_5 : Nat → Int64 → Int32 → Int64 → Int64 → Option Int64
  | 0, _, _, _, _ => none
  | n + 1, x0, x2, x3, x5 => if x0 < x5 then some x3 else nm (x3 + (mxL (0 : Int64) (((mnL x0 (((Int32.toInt64 (x2 + (1 : Int32))) * x5) - (1 : Int64))) - ((Int32.toInt64 x2) * x5)) + (1 : Int64)))) (fun t1 => F_m_firstBy_5 n x0 x2 t1 (x5 * (10 : Int64)))
set_option maxRecDepth 100000 in
theorem X_m_firstBy_5 {nL : Nat} {xs : Nat → Int32} {S : Sto} {M : Sto} {O : Sto} {d : Nat} (hd : 6 ≤ d) : ∀ n : Nat, ∀ (x0 : Int64) (x2 : Int32) (x3 : Int64) (x5 : Int64) (r : Int64), F_m_firstBy_5 n x0 x2 x3 x5 = some r → EX nL xs 0 MI_242 d 5 [some (.long x0), none, some (.int x2), some (.long x3), none, some (.long x5), none] [] (S, M, O) (.inl (some (.long r))) (S, M, O) := by
  intro n
  induction n with
  | zero => intro x0 x2 x3 x5 r hF; cases hF
  | succ n ih =>
  intro x0 x2 x3 x5 r hF
  unfold F_m_firstBy_5 at hF
  refine Ex_go 4 (pc' := if 0 < (lg_cmp x5 x0) then 51 else 12) (L' := [some (.long x0), none, some (.int x2), some (.long x3), none, some (.long x5), none]) (st' := []) (σ' := (S, M, O)) (rfl) ?_
  refine Ex_brI lc_gt (fun hc => ?_) (fun hc => ?_)
  · rw [if_pos hc] at hF
    refine Ex_go 1 (pc' := 52) (L' := [some (.long x0), none, some (.int x2), some (.long x3), none, some (.long x5), none]) (st' := [.long x3]) (σ' := (S, M, O)) (rfl) ?_
    cases hF
    exact Ex_fin rfl
  · rw [if_neg hc] at hF
    refine Ex_go 10 (pc' := 23) (L' := [some (.long x0), none, some (.int x2), some (.long x3), none, some (.long x5), none]) (st' := [.long (1 : Int64), .long ((Int32.toInt64 (x2 + (1 : Int32))) * x5), .long x0, .long (0 : Int64), .long x3]) (σ' := (S, M, O)) (rfl) ?_
    refine Ex_go 1 (pc' := 24) (L' := [some (.long x0), none, some (.int x2), some (.long x3), none, some (.long x5), none]) (st' := [.long (((Int32.toInt64 (x2 + (1 : Int32))) * x5) - (1 : Int64)), .long x0, .long (0 : Int64), .long x3]) (σ' := (S, M, O)) (rfl) ?_
    refine Ex_blt (kind := 12) (y := 0) (as := [.long x0, .long (((Int32.toInt64 (x2 + (1 : Int32))) * x5) - (1 : Int64))]) (rest := [.long (0 : Int64), .long x3]) (v := .long (mnL x0 (((Int32.toInt64 (x2 + (1 : Int32))) * x5) - (1 : Int64)))) rfl rfl (by omega) ?_
    refine Ex_go 7 (pc' := 35) (L' := [some (.long x0), none, some (.int x2), some (.long x3), none, some (.long x5), none]) (st' := [.long (((mnL x0 (((Int32.toInt64 (x2 + (1 : Int32))) * x5) - (1 : Int64))) - ((Int32.toInt64 x2) * x5)) + (1 : Int64)), .long (0 : Int64), .long x3]) (σ' := (S, M, O)) (rfl) ?_
    refine Ex_blt (kind := 11) (y := 0) (as := [.long (0 : Int64), .long (((mnL x0 (((Int32.toInt64 (x2 + (1 : Int32))) * x5) - (1 : Int64))) - ((Int32.toInt64 x2) * x5)) + (1 : Int64))]) (rest := [.long x3]) (v := .long (mxL (0 : Int64) (((mnL x0 (((Int32.toInt64 (x2 + (1 : Int32))) * x5) - (1 : Int64))) - ((Int32.toInt64 x2) * x5)) + (1 : Int64)))) rfl rfl (by omega) ?_
    obtain ⟨t1, ht2, hF⟩ := nm_i hF
    refine Ex_go 2 (pc' := 40) (L' := [some (.long x0), none, some (.int x2), some (.long t1), none, some (.long x5), none]) (st' := []) (σ' := (S, M, O)) (by rw [ht2]; rfl) ?_
    refine Ex_go 5 (pc' := 5) (L' := [some (.long x0), none, some (.int x2), some (.long t1), none, some (.long (x5 * (10 : Int64))), none]) (st' := []) (σ' := (S, M, O)) (rfl) ?_
    exact Ex_mono (L := [some (.long x0), none, some (.int x2), some (.long t1), none, some (.long (x5 * (10 : Int64))), none]) (Le_s (Le_n (Le_s (Le_s (Le_n (Le_s (Le_n (Le_0)))))))) (ih _ _ _ _ _ hF) (Nat.le_refl _) (by omega)
def F_m_firstBy (x0 : Int64) (x2 : Int32) : Option Int64 := F_m_firstBy_5 FU x0 x2 (0 : Int64) (1 : Int64)
set_option maxRecDepth 100000 in
theorem X_m_firstBy {nL : Nat} {xs : Nat → Int32} {S : Sto} {M : Sto} {O : Sto} {d : Nat} (hd : 6 ≤ d) : ∀ (x0 : Int64) (x2 : Int32) (r : Int64), F_m_firstBy x0 x2 = some r → EX nL xs 0 MI_242 d 0 [some (.long x0), none, some (.int x2), none, none, none, none] [] (S, M, O) (.inl (some (.long r))) (S, M, O) := by
  intro x0 x2 r hF
  unfold F_m_firstBy at hF
  refine Ex_go 4 (pc' := 5) (L' := [some (.long x0), none, some (.int x2), some (.long (0 : Int64)), none, some (.long (1 : Int64)), none]) (st' := []) (σ' := (S, M, O)) (rfl) ?_
  exact Ex_mono (L := [some (.long x0), none, some (.int x2), some (.long (0 : Int64)), none, some (.long (1 : Int64)), none]) (Le_s (Le_n (Le_s (Le_s (Le_n (Le_s (Le_n (Le_0)))))))) (X_m_firstBy_5 hd FU _ _ _ _ _ hF) (Nat.le_refl _) (by omega)
def F_m_split_90 (k49 : Int32 → Int32 → Int64 → Int32 → Sto → Option (Int64 × Sto)) (x1 : Int32) (x2 : Int32) (x3 : Int64) (x5 : Int32) (M : Sto) : Option (Int64 × Sto) := k49 x1 x2 x3 (x5 + (1 : Int32)) M
set_option maxRecDepth 100000 in
theorem X_m_split_90 {nL : Nat} {xs : Nat → Int32} {S : Sto} {O : Sto} {d : Nat} (hd : 7 ≤ d) {k49 : Int32 → Int32 → Int64 → Int32 → Sto → Option (Int64 × Sto)} (hk49 : ∀ (x1 : Int32) (x2 : Int32) (x3 : Int64) (x5 : Int32) (M : Sto) (r : Int64) (M' : Sto), k49 x1 x2 x3 x5 M = some (r, M') → EX nL xs 0 MI_246 d 49 [some (.ref 1000), some (.int x1), some (.int x2), some (.long x3), none, some (.int x5)] [] (S, M, O) (.inl (some (.long r))) (S, M', O)) : ∀ (x1 : Int32) (x2 : Int32) (x3 : Int64) (x5 : Int32) (M : Sto) (r : Int64) (M' : Sto), F_m_split_90 k49 x1 x2 x3 x5 M = some (r, M') → EX nL xs 0 MI_246 d 90 [some (.ref 1000), some (.int x1), some (.int x2), some (.long x3), none, some (.int x5)] [] (S, M, O) (.inl (some (.long r))) (S, M', O) := by
  intro x1 x2 x3 x5 M r M' hF
  unfold F_m_split_90 at hF
  refine Ex_go 2 (pc' := 49) (L' := [some (.ref 1000), some (.int x1), some (.int x2), some (.long x3), none, some (.int (x5 + (1 : Int32)))]) (st' := []) (σ' := (S, M, O)) (rfl) ?_
  exact Ex_mono (L := [some (.ref 1000), some (.int x1), some (.int x2), some (.long x3), none, some (.int (x5 + (1 : Int32)))]) (Le_s (Le_s (Le_s (Le_s (Le_n (Le_s (Le_0))))))) (hk49 _ _ _ _ _ _ _ hF) (Nat.le_refl _) (by omega)
def F_m_split_49 : Nat → Int32 → Int32 → Int64 → Int32 → Sto → Option (Int64 × Sto)
  | 0, _, _, _, _, _ => none
  | n + 1, x1, x2, x3, x5, M => if (10 : Int32) ≤ x5 then some (x3, M) else ck (nzI x1) (if ((x5 - (1 : Int32)) - (x5 - (1 : Int32)) / x1 * x1) = x2 then b1 (F_m_firstBy (gl M 1014) x5) (fun r2 => b1 (F_m_firstBy ((gl M 1013) - (1 : Int64)) x5) (fun r4 => F_m_split_90 (F_m_split_49 n) x1 x2 (x3 + (r2 - r4)) x5 M)) else F_m_split_90 (F_m_split_49 n) x1 x2 x3 x5 M)
set_option maxRecDepth 100000 in
theorem X_m_split_49 {nL : Nat} {xs : Nat → Int32} {S : Sto} {O : Sto} {d : Nat} (hd : 7 ≤ d) : ∀ n : Nat, ∀ (x1 : Int32) (x2 : Int32) (x3 : Int64) (x5 : Int32) (M : Sto) (r : Int64) (M' : Sto), F_m_split_49 n x1 x2 x3 x5 M = some (r, M') → EX nL xs 0 MI_246 d 49 [some (.ref 1000), some (.int x1), some (.int x2), some (.long x3), none, some (.int x5)] [] (S, M, O) (.inl (some (.long r))) (S, M', O) := by
  intro n
  induction n with
  | zero => intro x1 x2 x3 x5 M r M' hF; cases hF
  | succ n ih =>
  intro x1 x2 x3 x5 M r M' hF
  unfold F_m_split_49 at hF
  refine Ex_go 3 (pc' := if (10 : Int32) ≤ x5 then 96 else 56) (L' := [some (.ref 1000), some (.int x1), some (.int x2), some (.long x3), none, some (.int x5)]) (st' := []) (σ' := (S, M, O)) (rfl) ?_
  refine Ex_br (fun hc => ?_) (fun hc => ?_)
  · rw [if_pos hc] at hF
    refine Ex_go 1 (pc' := 97) (L' := [some (.ref 1000), some (.int x1), some (.int x2), some (.long x3), none, some (.int x5)]) (st' := [.long x3]) (σ' := (S, M, O)) (rfl) ?_
    cases hF
    exact Ex_fin rfl
  · rw [if_neg hc] at hF
    refine Ex_go 4 (pc' := 61) (L' := [some (.ref 1000), some (.int x1), some (.int x2), some (.long x3), none, some (.int x5)]) (st' := [.int x1, .int (x5 - (1 : Int32))]) (σ' := (S, M, O)) (rfl) ?_
    obtain ⟨hc1, hF⟩ := ck_i hF
    refine Ex_chk (b := nzI x1) (pc' := 62) (L' := [some (.ref 1000), some (.int x1), some (.int x2), some (.long x3), none, some (.int x5)]) (st' := [.int ((x5 - (1 : Int32)) - (x5 - (1 : Int32)) / x1 * x1)]) (σ' := (S, M, O)) rfl hc1 ?_
    refine Ex_go 2 (pc' := if ¬ ((x5 - (1 : Int32)) - (x5 - (1 : Int32)) / x1 * x1) = x2 then 90 else 66) (L' := [some (.ref 1000), some (.int x1), some (.int x2), some (.long x3), none, some (.int x5)]) (st' := []) (σ' := (S, M, O)) (rfl) ?_
    refine Ex_brN (fun hc => ?_) (fun hc => ?_)
    · rw [if_pos hc] at hF
      refine Ex_go 4 (pc' := 73) (L' := [some (.ref 1000), some (.int x1), some (.int x2), some (.long x3), none, some (.int x5)]) (st' := [.int x5, .long (gl M 1014), .long x3]) (σ' := (S, M, O)) (rfl) ?_
      obtain ⟨r2, hx3, hF⟩ := b1_i hF
      refine Ex_call (kind := 0) (y := 242) (as := [.long (gl M 1014), .int x5]) (rest := [.long x3]) (L0 := [some (.long (gl M 1014)), none, some (.int x5), none, none, none, none]) (d' := 6) (v := some (.long r2)) (σ1 := (S, M, O)) rfl rfl mt_242 rfl rfl (by omega) (X_m_firstBy (Nat.le_refl _) _ _ _ hx3) (Ex_st (st2 := [.long r2, .long x3]) rfl ?_)
      refine Ex_go 5 (pc' := 84) (L' := [some (.ref 1000), some (.int x1), some (.int x2), some (.long x3), none, some (.int x5)]) (st' := [.int x5, .long ((gl M 1013) - (1 : Int64)), .long r2, .long x3]) (σ' := (S, M, O)) (rfl) ?_
      obtain ⟨r4, hx5, hF⟩ := b1_i hF
      refine Ex_call (kind := 0) (y := 242) (as := [.long ((gl M 1013) - (1 : Int64)), .int x5]) (rest := [.long r2, .long x3]) (L0 := [some (.long ((gl M 1013) - (1 : Int64))), none, some (.int x5), none, none, none, none]) (d' := 6) (v := some (.long r4)) (σ1 := (S, M, O)) rfl rfl mt_242 rfl rfl (by omega) (X_m_firstBy (Nat.le_refl _) _ _ _ hx5) (Ex_st (st2 := [.long r4, .long r2, .long x3]) rfl ?_)
      refine Ex_go 3 (pc' := 90) (L' := [some (.ref 1000), some (.int x1), some (.int x2), some (.long (x3 + (r2 - r4))), none, some (.int x5)]) (st' := []) (σ' := (S, M, O)) (rfl) ?_
      exact Ex_mono (L := [some (.ref 1000), some (.int x1), some (.int x2), some (.long (x3 + (r2 - r4))), none, some (.int x5)]) (Le_s (Le_s (Le_s (Le_s (Le_n (Le_s (Le_0))))))) (X_m_split_90 hd ih _ _ _ _ _ _ _ hF) (Nat.le_refl _) (by omega)
    · rw [if_neg hc] at hF
      exact Ex_mono (L := [some (.ref 1000), some (.int x1), some (.int x2), some (.long x3), none, some (.int x5)]) (Le_s (Le_s (Le_s (Le_s (Le_n (Le_s (Le_0))))))) (X_m_split_90 hd ih _ _ _ _ _ _ _ hF) (Nat.le_refl _) (by omega)
def F_m_split (x1 : Int32) (x2 : Int32) (M : Sto) : Option (Int64 × Sto) := b1 (F_m_isIn (Int32.toInt64 x1) (1 : Int64) (9 : Int64)) (fun r1 => if r1 = 0 then b2 (F_m_fail (2 : Int32) (si M 1001 (0 : Int32))) (fun r8 M10 => some ((Int32.toInt64 r8), M10)) else b1 (F_m_isIn (Int32.toInt64 x2) (0 : Int64) (Int32.toInt64 (x1 - (1 : Int32)))) (fun r3 => if r3 = 0 then b2 (F_m_fail (1 : Int32) (si M 1001 (0 : Int32))) (fun r5 M7 => some ((Int32.toInt64 r5), M7)) else F_m_split_49 FU x1 x2 (0 : Int64) (1 : Int32) (si M 1001 (0 : Int32))))
set_option maxRecDepth 100000 in
theorem X_m_split {nL : Nat} {xs : Nat → Int32} {S : Sto} {O : Sto} {d : Nat} (hd : 7 ≤ d) : ∀ (x1 : Int32) (x2 : Int32) (M : Sto) (r : Int64) (M' : Sto), F_m_split x1 x2 M = some (r, M') → EX nL xs 0 MI_246 d 0 [some (.ref 1000), some (.int x1), some (.int x2), none, none, none] [] (S, M, O) (.inl (some (.long r))) (S, M', O) := by
  intro x1 x2 M r M' hF
  unfold F_m_split at hF
  refine Ex_go 7 (pc' := 11) (L' := [some (.ref 1000), some (.int x1), some (.int x2), none, none, none]) (st' := [.long (9 : Int64), .long (1 : Int64), .long (Int32.toInt64 x1)]) (σ' := (S, (si M 1001 (0 : Int32)), O)) (rfl) ?_
  obtain ⟨r1, hx2, hF⟩ := b1_i hF
  refine Ex_call (kind := 0) (y := 91) (as := [.long (Int32.toInt64 x1), .long (1 : Int64), .long (9 : Int64)]) (rest := []) (L0 := [some (.long (Int32.toInt64 x1)), none, some (.long (1 : Int64)), none, some (.long (9 : Int64)), none]) (d' := 1) (v := some (.int r1)) (σ1 := (S, (si M 1001 (0 : Int32)), O)) rfl rfl mt_91 rfl rfl (by omega) (X_m_isIn (Nat.le_refl _) _ _ _ _ hx2) (Ex_st (st2 := [.int r1]) rfl ?_)
  refine Ex_go 1 (pc' := if ¬ r1 = 0 then 24 else 17) (L' := [some (.ref 1000), some (.int x1), some (.int x2), none, none, none]) (st' := []) (σ' := (S, (si M 1001 (0 : Int32)), O)) (rfl) ?_
  refine Ex_brN (fun hc => ?_) (fun hc => ?_)
  · rw [if_pos hc] at hF
    refine Ex_go 2 (pc' := 19) (L' := [some (.ref 1000), some (.int x1), some (.int x2), none, none, none]) (st' := [.int (2 : Int32), .ref 1000]) (σ' := (S, (si M 1001 (0 : Int32)), O)) (rfl) ?_
    obtain ⟨r8, M10, hx9, hF⟩ := b2_i hF
    refine Ex_call (kind := 2) (y := 50) (as := [.ref 1000, .int (2 : Int32)]) (rest := []) (L0 := [some (.ref 1000), some (.int (2 : Int32))]) (d' := 1) (v := some (.int r8)) (σ1 := (S, M10, O)) rfl rfl mt_50 rfl rfl (by omega) (X_m_fail (Nat.le_refl _) _ _ _ _ hx9) (Ex_st (st2 := [.int r8]) rfl ?_)
    refine Ex_go 1 (pc' := 23) (L' := [some (.ref 1000), some (.int x1), some (.int x2), none, none, none]) (st' := [.long (Int32.toInt64 r8)]) (σ' := (S, M10, O)) (rfl) ?_
    cases hF
    exact Ex_fin rfl
  · rw [if_neg hc] at hF
    refine Ex_go 7 (pc' := 31) (L' := [some (.ref 1000), some (.int x1), some (.int x2), none, none, none]) (st' := [.long (Int32.toInt64 (x1 - (1 : Int32))), .long (0 : Int64), .long (Int32.toInt64 x2)]) (σ' := (S, (si M 1001 (0 : Int32)), O)) (rfl) ?_
    obtain ⟨r3, hx4, hF⟩ := b1_i hF
    refine Ex_call (kind := 0) (y := 91) (as := [.long (Int32.toInt64 x2), .long (0 : Int64), .long (Int32.toInt64 (x1 - (1 : Int32)))]) (rest := []) (L0 := [some (.long (Int32.toInt64 x2)), none, some (.long (0 : Int64)), none, some (.long (Int32.toInt64 (x1 - (1 : Int32)))), none]) (d' := 1) (v := some (.int r3)) (σ1 := (S, (si M 1001 (0 : Int32)), O)) rfl rfl mt_91 rfl rfl (by omega) (X_m_isIn (Nat.le_refl _) _ _ _ _ hx4) (Ex_st (st2 := [.int r3]) rfl ?_)
    refine Ex_go 1 (pc' := if ¬ r3 = 0 then 44 else 37) (L' := [some (.ref 1000), some (.int x1), some (.int x2), none, none, none]) (st' := []) (σ' := (S, (si M 1001 (0 : Int32)), O)) (rfl) ?_
    refine Ex_brN (fun hc => ?_) (fun hc => ?_)
    · rw [if_pos hc] at hF
      refine Ex_go 2 (pc' := 39) (L' := [some (.ref 1000), some (.int x1), some (.int x2), none, none, none]) (st' := [.int (1 : Int32), .ref 1000]) (σ' := (S, (si M 1001 (0 : Int32)), O)) (rfl) ?_
      obtain ⟨r5, M7, hx6, hF⟩ := b2_i hF
      refine Ex_call (kind := 2) (y := 50) (as := [.ref 1000, .int (1 : Int32)]) (rest := []) (L0 := [some (.ref 1000), some (.int (1 : Int32))]) (d' := 1) (v := some (.int r5)) (σ1 := (S, M7, O)) rfl rfl mt_50 rfl rfl (by omega) (X_m_fail (Nat.le_refl _) _ _ _ _ hx6) (Ex_st (st2 := [.int r5]) rfl ?_)
      refine Ex_go 1 (pc' := 43) (L' := [some (.ref 1000), some (.int x1), some (.int x2), none, none, none]) (st' := [.long (Int32.toInt64 r5)]) (σ' := (S, M7, O)) (rfl) ?_
      cases hF
      exact Ex_fin rfl
    · rw [if_neg hc] at hF
      refine Ex_go 4 (pc' := 49) (L' := [some (.ref 1000), some (.int x1), some (.int x2), some (.long (0 : Int64)), none, some (.int (1 : Int32))]) (st' := []) (σ' := (S, (si M 1001 (0 : Int32)), O)) (rfl) ?_
      exact Ex_mono (L := [some (.ref 1000), some (.int x1), some (.int x2), some (.long (0 : Int64)), none, some (.int (1 : Int32))]) (Le_s (Le_s (Le_s (Le_s (Le_n (Le_s (Le_0))))))) (X_m_split_49 hd FU _ _ _ _ _ _ _ hF) (Nat.le_refl _) (by omega)
def F_w_isLicence (x0 : Int64) : Option Int32 := if x0 < (0 : Int64) then some (0 : Int32) else if (1000000000000000 : Int64) < x0 then some (0 : Int32) else some (1 : Int32)
set_option maxRecDepth 100000 in
theorem X_w_isLicence {nL : Nat} {xs : Nat → Int32} {S : Sto} {M : Sto} {O : Sto} {d : Nat} (hd : 1 ≤ d) : ∀ (x0 : Int64) (r : Int32), F_w_isLicence x0 = some r → EX nL xs 0 MI_227 d 0 [some (.long x0), none] [] (S, M, O) (.inl (some (.int r))) (S, M, O) := by
  intro x0 r hF
  unfold F_w_isLicence at hF
  refine Ex_go 4 (pc' := if (lg_cmp x0 (0 : Int64)) < 0 then 18 else 6) (L' := [some (.long x0), none]) (st' := []) (σ' := (S, M, O)) (rfl) ?_
  refine Ex_brI lc_lt (fun hc => ?_) (fun hc => ?_)
  · rw [if_pos hc] at hF
    refine Ex_go 1 (pc' := 19) (L' := [some (.long x0), none]) (st' := [.int (0 : Int32)]) (σ' := (S, M, O)) (rfl) ?_
    cases hF
    exact Ex_fin rfl
  · rw [if_neg hc] at hF
    refine Ex_go 4 (pc' := if 0 < (lg_cmp x0 (1000000000000000 : Int64)) then 18 else 14) (L' := [some (.long x0), none]) (st' := []) (σ' := (S, M, O)) (rfl) ?_
    refine Ex_brI lc_gt (fun hc => ?_) (fun hc => ?_)
    · rw [if_pos hc] at hF
      refine Ex_go 1 (pc' := 19) (L' := [some (.long x0), none]) (st' := [.int (0 : Int32)]) (σ' := (S, M, O)) (rfl) ?_
      cases hF
      exact Ex_fin rfl
    · rw [if_neg hc] at hF
      refine Ex_go 2 (pc' := 19) (L' := [some (.long x0), none]) (st' := [.int (1 : Int32)]) (σ' := (S, M, O)) (rfl) ?_
      cases hF
      exact Ex_fin rfl
def F_Li_without_155 (k13 : Int64 → Int32 → Int64 → Int32 → Int32 → Int64 → Option Int64) (x0 : Int64) (x2 : Int32) (x3 : Int64) (x5 : Int32) (x7 : Int64) (s0 : Int32) : Option Int64 := k13 x0 x2 x3 x5 s0 (x7 / (10 : Int64))
set_option maxRecDepth 100000 in
theorem X_Li_without_155 {nL : Nat} {xs : Nat → Int32} {S : Sto} {M : Sto} {O : Sto} {d : Nat} (hd : 1 ≤ d) {k13 : Int64 → Int32 → Int64 → Int32 → Int32 → Int64 → Option Int64} (hk13 : ∀ (x0 : Int64) (x2 : Int32) (x3 : Int64) (x5 : Int32) (x6 : Int32) (x7 : Int64) (r : Int64), k13 x0 x2 x3 x5 x6 x7 = some r → EX nL xs 0 MI_237 d 13 [some (.long x0), none, some (.int x2), some (.long x3), none, some (.int x5), some (.int x6), some (.long x7), none, none] [] (S, M, O) (.inl (some (.long r))) (S, M, O)) : ∀ (x0 : Int64) (x2 : Int32) (x3 : Int64) (x5 : Int32) (x7 : Int64) (s0 : Int32) (r : Int64), F_Li_without_155 k13 x0 x2 x3 x5 x7 s0 = some r → EX nL xs 0 MI_237 d 155 [some (.long x0), none, some (.int x2), some (.long x3), none, some (.int x5), none, some (.long x7), none, none] [.int s0] (S, M, O) (.inl (some (.long r))) (S, M, O) := by
  intro x0 x2 x3 x5 x7 s0 r hF
  unfold F_Li_without_155 at hF
  refine Ex_go 3 (pc' := 162) (L' := [some (.long x0), none, some (.int x2), some (.long x3), none, some (.int x5), some (.int s0), some (.long x7), none, none]) (st' := [.long (10 : Int64), .long x7]) (σ' := (S, M, O)) (rfl) ?_
  refine Ex_chk (b := nzL (10 : Int64)) (pc' := 163) (L' := [some (.long x0), none, some (.int x2), some (.long x3), none, some (.int x5), some (.int s0), some (.long x7), none, none]) (st' := [.long (x7 / (10 : Int64))]) (σ' := (S, M, O)) rfl (by decide) ?_
  refine Ex_go 2 (pc' := 13) (L' := [some (.long x0), none, some (.int x2), some (.long x3), none, some (.int x5), some (.int s0), some (.long (x7 / (10 : Int64))), none, none]) (st' := []) (σ' := (S, M, O)) (rfl) ?_
  exact Ex_mono (L := [some (.long x0), none, some (.int x2), some (.long x3), none, some (.int x5), some (.int s0), some (.long (x7 / (10 : Int64))), none, none]) (Le_s (Le_n (Le_s (Le_s (Le_n (Le_s (Le_s (Le_s (Le_n (Le_n (Le_0))))))))))) (hk13 _ _ _ _ _ _ _ hF) (Nat.le_refl _) (by omega)
def F_Li_without_150 (k13 : Int64 → Int32 → Int64 → Int32 → Int32 → Int64 → Option Int64) (x0 : Int64) (x2 : Int32) (x3 : Int64) (x5 : Int32) (x7 : Int64) : Option Int64 := F_Li_without_155 k13 x0 x2 x3 x5 x7 (1 : Int32)
set_option maxRecDepth 100000 in
theorem X_Li_without_150 {nL : Nat} {xs : Nat → Int32} {S : Sto} {M : Sto} {O : Sto} {d : Nat} (hd : 1 ≤ d) {k13 : Int64 → Int32 → Int64 → Int32 → Int32 → Int64 → Option Int64} (hk13 : ∀ (x0 : Int64) (x2 : Int32) (x3 : Int64) (x5 : Int32) (x6 : Int32) (x7 : Int64) (r : Int64), k13 x0 x2 x3 x5 x6 x7 = some r → EX nL xs 0 MI_237 d 13 [some (.long x0), none, some (.int x2), some (.long x3), none, some (.int x5), some (.int x6), some (.long x7), none, none] [] (S, M, O) (.inl (some (.long r))) (S, M, O)) : ∀ (x0 : Int64) (x2 : Int32) (x3 : Int64) (x5 : Int32) (x7 : Int64) (r : Int64), F_Li_without_150 k13 x0 x2 x3 x5 x7 = some r → EX nL xs 0 MI_237 d 150 [some (.long x0), none, some (.int x2), some (.long x3), none, some (.int x5), none, some (.long x7), none, none] [] (S, M, O) (.inl (some (.long r))) (S, M, O) := by
  intro x0 x2 x3 x5 x7 r hF
  unfold F_Li_without_150 at hF
  refine Ex_go 2 (pc' := 155) (L' := [some (.long x0), none, some (.int x2), some (.long x3), none, some (.int x5), none, some (.long x7), none, none]) (st' := [.int (1 : Int32)]) (σ' := (S, M, O)) (rfl) ?_
  exact Ex_mono (L := [some (.long x0), none, some (.int x2), some (.long x3), none, some (.int x5), none, some (.long x7), none, none]) (Le_s (Le_n (Le_s (Le_s (Le_n (Le_s (Le_n (Le_s (Le_n (Le_n (Le_0))))))))))) (X_Li_without_155 hd hk13 _ _ _ _ _ _ _ hF) (Nat.le_refl _) (by omega)
def F_Li_without_154 (k13 : Int64 → Int32 → Int64 → Int32 → Int32 → Int64 → Option Int64) (x0 : Int64) (x2 : Int32) (x3 : Int64) (x5 : Int32) (x7 : Int64) : Option Int64 := F_Li_without_155 k13 x0 x2 x3 x5 x7 (0 : Int32)
set_option maxRecDepth 100000 in
theorem X_Li_without_154 {nL : Nat} {xs : Nat → Int32} {S : Sto} {M : Sto} {O : Sto} {d : Nat} (hd : 1 ≤ d) {k13 : Int64 → Int32 → Int64 → Int32 → Int32 → Int64 → Option Int64} (hk13 : ∀ (x0 : Int64) (x2 : Int32) (x3 : Int64) (x5 : Int32) (x6 : Int32) (x7 : Int64) (r : Int64), k13 x0 x2 x3 x5 x6 x7 = some r → EX nL xs 0 MI_237 d 13 [some (.long x0), none, some (.int x2), some (.long x3), none, some (.int x5), some (.int x6), some (.long x7), none, none] [] (S, M, O) (.inl (some (.long r))) (S, M, O)) : ∀ (x0 : Int64) (x2 : Int32) (x3 : Int64) (x5 : Int32) (x7 : Int64) (r : Int64), F_Li_without_154 k13 x0 x2 x3 x5 x7 = some r → EX nL xs 0 MI_237 d 154 [some (.long x0), none, some (.int x2), some (.long x3), none, some (.int x5), none, some (.long x7), none, none] [] (S, M, O) (.inl (some (.long r))) (S, M, O) := by
  intro x0 x2 x3 x5 x7 r hF
  unfold F_Li_without_154 at hF
  refine Ex_go 1 (pc' := 155) (L' := [some (.long x0), none, some (.int x2), some (.long x3), none, some (.int x5), none, some (.long x7), none, none]) (st' := [.int (0 : Int32)]) (σ' := (S, M, O)) (rfl) ?_
  exact Ex_mono (L := [some (.long x0), none, some (.int x2), some (.long x3), none, some (.int x5), none, some (.long x7), none, none]) (Le_s (Le_n (Le_s (Le_s (Le_n (Le_s (Le_n (Le_s (Le_n (Le_n (Le_0))))))))))) (X_Li_without_155 hd hk13 _ _ _ _ _ _ _ hF) (Nat.le_refl _) (by omega)
def F_Li_without_132 (k13 : Int64 → Int32 → Int64 → Int32 → Int32 → Int64 → Option Int64) (x0 : Int64) (x2 : Int32) (x3 : Int64) (x6 : Int32) (x7 : Int64) (x9 : Int32) (s0 : Int32) : Option Int64 := if x6 = 0 then F_Li_without_154 k13 x0 x2 x3 s0 x7 else if s0 = 0 then F_Li_without_150 k13 x0 x2 x3 s0 x7 else if x9 = x2 then F_Li_without_154 k13 x0 x2 x3 s0 x7 else F_Li_without_150 k13 x0 x2 x3 s0 x7
set_option maxRecDepth 100000 in
theorem X_Li_without_132 {nL : Nat} {xs : Nat → Int32} {S : Sto} {M : Sto} {O : Sto} {d : Nat} (hd : 1 ≤ d) {k13 : Int64 → Int32 → Int64 → Int32 → Int32 → Int64 → Option Int64} (hk13 : ∀ (x0 : Int64) (x2 : Int32) (x3 : Int64) (x5 : Int32) (x6 : Int32) (x7 : Int64) (r : Int64), k13 x0 x2 x3 x5 x6 x7 = some r → EX nL xs 0 MI_237 d 13 [some (.long x0), none, some (.int x2), some (.long x3), none, some (.int x5), some (.int x6), some (.long x7), none, none] [] (S, M, O) (.inl (some (.long r))) (S, M, O)) : ∀ (x0 : Int64) (x2 : Int32) (x3 : Int64) (x6 : Int32) (x7 : Int64) (x9 : Int32) (s0 : Int32) (r : Int64), F_Li_without_132 k13 x0 x2 x3 x6 x7 x9 s0 = some r → EX nL xs 0 MI_237 d 132 [some (.long x0), none, some (.int x2), some (.long x3), none, none, some (.int x6), some (.long x7), none, some (.int x9)] [.int s0] (S, M, O) (.inl (some (.long r))) (S, M, O) := by
  intro x0 x2 x3 x6 x7 x9 s0 r hF
  unfold F_Li_without_132 at hF
  refine Ex_go 3 (pc' := if x6 = 0 then 154 else 139) (L' := [some (.long x0), none, some (.int x2), some (.long x3), none, some (.int s0), some (.int x6), some (.long x7), none, some (.int x9)]) (st' := []) (σ' := (S, M, O)) (rfl) ?_
  refine Ex_br (fun hc => ?_) (fun hc => ?_)
  · rw [if_pos hc] at hF
    exact Ex_mono (L := [some (.long x0), none, some (.int x2), some (.long x3), none, some (.int s0), none, some (.long x7), none, none]) (Le_s (Le_n (Le_s (Le_s (Le_n (Le_s (Le_n (Le_s (Le_n (Le_n (Le_0))))))))))) (X_Li_without_154 hd hk13 _ _ _ _ _ _ hF) (Nat.le_refl _) (by omega)
  · rw [if_neg hc] at hF
    refine Ex_go 2 (pc' := if s0 = 0 then 150 else 144) (L' := [some (.long x0), none, some (.int x2), some (.long x3), none, some (.int s0), some (.int x6), some (.long x7), none, some (.int x9)]) (st' := []) (σ' := (S, M, O)) (rfl) ?_
    refine Ex_br (fun hc => ?_) (fun hc => ?_)
    · rw [if_pos hc] at hF
      exact Ex_mono (L := [some (.long x0), none, some (.int x2), some (.long x3), none, some (.int s0), none, some (.long x7), none, none]) (Le_s (Le_n (Le_s (Le_s (Le_n (Le_s (Le_n (Le_s (Le_n (Le_n (Le_0))))))))))) (X_Li_without_150 hd hk13 _ _ _ _ _ _ hF) (Nat.le_refl _) (by omega)
    · rw [if_neg hc] at hF
      refine Ex_go 3 (pc' := if x9 = x2 then 154 else 150) (L' := [some (.long x0), none, some (.int x2), some (.long x3), none, some (.int s0), some (.int x6), some (.long x7), none, some (.int x9)]) (st' := []) (σ' := (S, M, O)) (rfl) ?_
      refine Ex_br (fun hc => ?_) (fun hc => ?_)
      · rw [if_pos hc] at hF
        exact Ex_mono (L := [some (.long x0), none, some (.int x2), some (.long x3), none, some (.int s0), none, some (.long x7), none, none]) (Le_s (Le_n (Le_s (Le_s (Le_n (Le_s (Le_n (Le_s (Le_n (Le_n (Le_0))))))))))) (X_Li_without_154 hd hk13 _ _ _ _ _ _ hF) (Nat.le_refl _) (by omega)
      · rw [if_neg hc] at hF
        exact Ex_mono (L := [some (.long x0), none, some (.int x2), some (.long x3), none, some (.int s0), none, some (.long x7), none, none]) (Le_s (Le_n (Le_s (Le_s (Le_n (Le_s (Le_n (Le_s (Le_n (Le_n (Le_0))))))))))) (X_Li_without_150 hd hk13 _ _ _ _ _ _ hF) (Nat.le_refl _) (by omega)
def F_Li_without_127 (k13 : Int64 → Int32 → Int64 → Int32 → Int32 → Int64 → Option Int64) (x0 : Int64) (x2 : Int32) (x3 : Int64) (x6 : Int32) (x7 : Int64) (x9 : Int32) : Option Int64 := F_Li_without_132 k13 x0 x2 x3 x6 x7 x9 (1 : Int32)
set_option maxRecDepth 100000 in
theorem X_Li_without_127 {nL : Nat} {xs : Nat → Int32} {S : Sto} {M : Sto} {O : Sto} {d : Nat} (hd : 1 ≤ d) {k13 : Int64 → Int32 → Int64 → Int32 → Int32 → Int64 → Option Int64} (hk13 : ∀ (x0 : Int64) (x2 : Int32) (x3 : Int64) (x5 : Int32) (x6 : Int32) (x7 : Int64) (r : Int64), k13 x0 x2 x3 x5 x6 x7 = some r → EX nL xs 0 MI_237 d 13 [some (.long x0), none, some (.int x2), some (.long x3), none, some (.int x5), some (.int x6), some (.long x7), none, none] [] (S, M, O) (.inl (some (.long r))) (S, M, O)) : ∀ (x0 : Int64) (x2 : Int32) (x3 : Int64) (x6 : Int32) (x7 : Int64) (x9 : Int32) (r : Int64), F_Li_without_127 k13 x0 x2 x3 x6 x7 x9 = some r → EX nL xs 0 MI_237 d 127 [some (.long x0), none, some (.int x2), some (.long x3), none, none, some (.int x6), some (.long x7), none, some (.int x9)] [] (S, M, O) (.inl (some (.long r))) (S, M, O) := by
  intro x0 x2 x3 x6 x7 x9 r hF
  unfold F_Li_without_127 at hF
  refine Ex_go 2 (pc' := 132) (L' := [some (.long x0), none, some (.int x2), some (.long x3), none, none, some (.int x6), some (.long x7), none, some (.int x9)]) (st' := [.int (1 : Int32)]) (σ' := (S, M, O)) (rfl) ?_
  exact Ex_mono (L := [some (.long x0), none, some (.int x2), some (.long x3), none, none, some (.int x6), some (.long x7), none, some (.int x9)]) (Le_s (Le_n (Le_s (Le_s (Le_n (Le_n (Le_s (Le_s (Le_n (Le_s (Le_0))))))))))) (X_Li_without_132 hd hk13 _ _ _ _ _ _ _ _ hF) (Nat.le_refl _) (by omega)
def F_Li_without_117 (k13 : Int64 → Int32 → Int64 → Int32 → Int32 → Int64 → Option Int64) (x0 : Int64) (x2 : Int32) (x3 : Int64) (x5 : Int32) (x6 : Int32) (x7 : Int64) (x9 : Int32) : Option Int64 := if x5 = 0 then if x9 ≤ 0 then F_Li_without_132 k13 x0 x2 x3 x6 x7 x9 (0 : Int32) else F_Li_without_127 k13 x0 x2 x3 x6 x7 x9 else F_Li_without_127 k13 x0 x2 x3 x6 x7 x9
set_option maxRecDepth 100000 in
theorem X_Li_without_117 {nL : Nat} {xs : Nat → Int32} {S : Sto} {M : Sto} {O : Sto} {d : Nat} (hd : 1 ≤ d) {k13 : Int64 → Int32 → Int64 → Int32 → Int32 → Int64 → Option Int64} (hk13 : ∀ (x0 : Int64) (x2 : Int32) (x3 : Int64) (x5 : Int32) (x6 : Int32) (x7 : Int64) (r : Int64), k13 x0 x2 x3 x5 x6 x7 = some r → EX nL xs 0 MI_237 d 13 [some (.long x0), none, some (.int x2), some (.long x3), none, some (.int x5), some (.int x6), some (.long x7), none, none] [] (S, M, O) (.inl (some (.long r))) (S, M, O)) : ∀ (x0 : Int64) (x2 : Int32) (x3 : Int64) (x5 : Int32) (x6 : Int32) (x7 : Int64) (x9 : Int32) (r : Int64), F_Li_without_117 k13 x0 x2 x3 x5 x6 x7 x9 = some r → EX nL xs 0 MI_237 d 117 [some (.long x0), none, some (.int x2), some (.long x3), none, some (.int x5), some (.int x6), some (.long x7), none, some (.int x9)] [] (S, M, O) (.inl (some (.long r))) (S, M, O) := by
  intro x0 x2 x3 x5 x6 x7 x9 r hF
  unfold F_Li_without_117 at hF
  refine Ex_go 2 (pc' := if ¬ x5 = 0 then 127 else 122) (L' := [some (.long x0), none, some (.int x2), some (.long x3), none, some (.int x5), some (.int x6), some (.long x7), none, some (.int x9)]) (st' := []) (σ' := (S, M, O)) (rfl) ?_
  refine Ex_brN (fun hc => ?_) (fun hc => ?_)
  · rw [if_pos hc] at hF
    refine Ex_go 2 (pc' := if x9 ≤ 0 then 131 else 127) (L' := [some (.long x0), none, some (.int x2), some (.long x3), none, some (.int x5), some (.int x6), some (.long x7), none, some (.int x9)]) (st' := []) (σ' := (S, M, O)) (rfl) ?_
    refine Ex_br (fun hc => ?_) (fun hc => ?_)
    · rw [if_pos hc] at hF
      refine Ex_go 1 (pc' := 132) (L' := [some (.long x0), none, some (.int x2), some (.long x3), none, some (.int x5), some (.int x6), some (.long x7), none, some (.int x9)]) (st' := [.int (0 : Int32)]) (σ' := (S, M, O)) (rfl) ?_
      exact Ex_mono (L := [some (.long x0), none, some (.int x2), some (.long x3), none, none, some (.int x6), some (.long x7), none, some (.int x9)]) (Le_s (Le_n (Le_s (Le_s (Le_n (Le_n (Le_s (Le_s (Le_n (Le_s (Le_0))))))))))) (X_Li_without_132 hd hk13 _ _ _ _ _ _ _ _ hF) (Nat.le_refl _) (by omega)
    · rw [if_neg hc] at hF
      exact Ex_mono (L := [some (.long x0), none, some (.int x2), some (.long x3), none, none, some (.int x6), some (.long x7), none, some (.int x9)]) (Le_s (Le_n (Le_s (Le_s (Le_n (Le_n (Le_s (Le_s (Le_n (Le_s (Le_0))))))))))) (X_Li_without_127 hd hk13 _ _ _ _ _ _ _ hF) (Nat.le_refl _) (by omega)
  · rw [if_neg hc] at hF
    exact Ex_mono (L := [some (.long x0), none, some (.int x2), some (.long x3), none, none, some (.int x6), some (.long x7), none, some (.int x9)]) (Le_s (Le_n (Le_s (Le_s (Le_n (Le_n (Le_s (Le_s (Le_n (Le_s (Le_0))))))))))) (X_Li_without_127 hd hk13 _ _ _ _ _ _ _ hF) (Nat.le_refl _) (by omega)
def F_Li_without_83 (k13 : Int64 → Int32 → Int64 → Int32 → Int32 → Int64 → Option Int64) (x0 : Int64) (x2 : Int32) (x5 : Int32) (x6 : Int32) (x7 : Int64) (x9 : Int32) (s0 : Int64) (s1 : Int64) : Option Int64 := F_Li_without_117 k13 x0 x2 (s0 + s1) x5 x6 x7 x9
set_option maxRecDepth 100000 in
theorem X_Li_without_83 {nL : Nat} {xs : Nat → Int32} {S : Sto} {M : Sto} {O : Sto} {d : Nat} (hd : 1 ≤ d) {k13 : Int64 → Int32 → Int64 → Int32 → Int32 → Int64 → Option Int64} (hk13 : ∀ (x0 : Int64) (x2 : Int32) (x3 : Int64) (x5 : Int32) (x6 : Int32) (x7 : Int64) (r : Int64), k13 x0 x2 x3 x5 x6 x7 = some r → EX nL xs 0 MI_237 d 13 [some (.long x0), none, some (.int x2), some (.long x3), none, some (.int x5), some (.int x6), some (.long x7), none, none] [] (S, M, O) (.inl (some (.long r))) (S, M, O)) : ∀ (x0 : Int64) (x2 : Int32) (x5 : Int32) (x6 : Int32) (x7 : Int64) (x9 : Int32) (s0 : Int64) (s1 : Int64) (r : Int64), F_Li_without_83 k13 x0 x2 x5 x6 x7 x9 s0 s1 = some r → EX nL xs 0 MI_237 d 83 [some (.long x0), none, some (.int x2), none, none, some (.int x5), some (.int x6), some (.long x7), none, some (.int x9)] [.long s1, .long s0] (S, M, O) (.inl (some (.long r))) (S, M, O) := by
  intro x0 x2 x5 x6 x7 x9 s0 s1 r hF
  unfold F_Li_without_83 at hF
  refine Ex_go 3 (pc' := 117) (L' := [some (.long x0), none, some (.int x2), some (.long (s0 + s1)), none, some (.int x5), some (.int x6), some (.long x7), none, some (.int x9)]) (st' := []) (σ' := (S, M, O)) (rfl) ?_
  exact Ex_mono (L := [some (.long x0), none, some (.int x2), some (.long (s0 + s1)), none, some (.int x5), some (.int x6), some (.long x7), none, some (.int x9)]) (Le_s (Le_n (Le_s (Le_s (Le_n (Le_s (Le_s (Le_s (Le_n (Le_s (Le_0))))))))))) (X_Li_without_117 hd hk13 _ _ _ _ _ _ _ _ hF) (Nat.le_refl _) (by omega)
def F_Li_without_77 (k13 : Int64 → Int32 → Int64 → Int32 → Int32 → Int64 → Option Int64) (x0 : Int64) (x2 : Int32) (x5 : Int32) (x6 : Int32) (x7 : Int64) (x9 : Int32) (s0 : Int64) (s1 : Int32) (s2 : Int32) : Option Int64 := F_Li_without_83 k13 x0 x2 x5 x6 x7 x9 s0 (Int32.toInt64 (s1 - s2))
set_option maxRecDepth 100000 in
theorem X_Li_without_77 {nL : Nat} {xs : Nat → Int32} {S : Sto} {M : Sto} {O : Sto} {d : Nat} (hd : 1 ≤ d) {k13 : Int64 → Int32 → Int64 → Int32 → Int32 → Int64 → Option Int64} (hk13 : ∀ (x0 : Int64) (x2 : Int32) (x3 : Int64) (x5 : Int32) (x6 : Int32) (x7 : Int64) (r : Int64), k13 x0 x2 x3 x5 x6 x7 = some r → EX nL xs 0 MI_237 d 13 [some (.long x0), none, some (.int x2), some (.long x3), none, some (.int x5), some (.int x6), some (.long x7), none, none] [] (S, M, O) (.inl (some (.long r))) (S, M, O)) : ∀ (x0 : Int64) (x2 : Int32) (x5 : Int32) (x6 : Int32) (x7 : Int64) (x9 : Int32) (s0 : Int64) (s1 : Int32) (s2 : Int32) (r : Int64), F_Li_without_77 k13 x0 x2 x5 x6 x7 x9 s0 s1 s2 = some r → EX nL xs 0 MI_237 d 77 [some (.long x0), none, some (.int x2), none, none, some (.int x5), some (.int x6), some (.long x7), none, some (.int x9)] [.int s2, .int s1, .long s0] (S, M, O) (.inl (some (.long r))) (S, M, O) := by
  intro x0 x2 x5 x6 x7 x9 s0 s1 s2 r hF
  unfold F_Li_without_77 at hF
  refine Ex_go 3 (pc' := 83) (L' := [some (.long x0), none, some (.int x2), none, none, some (.int x5), some (.int x6), some (.long x7), none, some (.int x9)]) (st' := [.long (Int32.toInt64 (s1 - s2)), .long s0]) (σ' := (S, M, O)) (rfl) ?_
  exact Ex_mono (L := [some (.long x0), none, some (.int x2), none, none, some (.int x5), some (.int x6), some (.long x7), none, some (.int x9)]) (Le_s (Le_n (Le_s (Le_n (Le_n (Le_s (Le_s (Le_s (Le_n (Le_s (Le_0))))))))))) (X_Li_without_83 hd hk13 _ _ _ _ _ _ _ _ _ hF) (Nat.le_refl _) (by omega)
def F_Li_without_56 (k13 : Int64 → Int32 → Int64 → Int32 → Int32 → Int64 → Option Int64) (x0 : Int64) (x2 : Int32) (x5 : Int32) (x6 : Int32) (x7 : Int64) (x9 : Int32) (s0 : Int64) (s1 : Int64) : Option Int64 := if x6 = 0 then F_Li_without_83 k13 x0 x2 x5 x6 x7 x9 (s0 + s1) (0 : Int64) else if x9 ≤ x2 then F_Li_without_77 k13 x0 x2 x5 x6 x7 x9 (s0 + s1) x9 (0 : Int32) else F_Li_without_77 k13 x0 x2 x5 x6 x7 x9 (s0 + s1) x9 (1 : Int32)
set_option maxRecDepth 100000 in
theorem X_Li_without_56 {nL : Nat} {xs : Nat → Int32} {S : Sto} {M : Sto} {O : Sto} {d : Nat} (hd : 1 ≤ d) {k13 : Int64 → Int32 → Int64 → Int32 → Int32 → Int64 → Option Int64} (hk13 : ∀ (x0 : Int64) (x2 : Int32) (x3 : Int64) (x5 : Int32) (x6 : Int32) (x7 : Int64) (r : Int64), k13 x0 x2 x3 x5 x6 x7 = some r → EX nL xs 0 MI_237 d 13 [some (.long x0), none, some (.int x2), some (.long x3), none, some (.int x5), some (.int x6), some (.long x7), none, none] [] (S, M, O) (.inl (some (.long r))) (S, M, O)) : ∀ (x0 : Int64) (x2 : Int32) (x5 : Int32) (x6 : Int32) (x7 : Int64) (x9 : Int32) (s0 : Int64) (s1 : Int64) (r : Int64), F_Li_without_56 k13 x0 x2 x5 x6 x7 x9 s0 s1 = some r → EX nL xs 0 MI_237 d 56 [some (.long x0), none, some (.int x2), none, none, some (.int x5), some (.int x6), some (.long x7), none, some (.int x9)] [.long s1, .long s0] (S, M, O) (.inl (some (.long r))) (S, M, O) := by
  intro x0 x2 x5 x6 x7 x9 s0 s1 r hF
  unfold F_Li_without_56 at hF
  refine Ex_go 5 (pc' := if x6 = 0 then 82 else 64) (L' := [some (.long x0), none, some (.int x2), some (.long (s0 + s1)), none, some (.int x5), some (.int x6), some (.long x7), none, some (.int x9)]) (st' := [.long (s0 + s1)]) (σ' := (S, M, O)) (rfl) ?_
  refine Ex_br (fun hc => ?_) (fun hc => ?_)
  · rw [if_pos hc] at hF
    refine Ex_go 1 (pc' := 83) (L' := [some (.long x0), none, some (.int x2), some (.long (s0 + s1)), none, some (.int x5), some (.int x6), some (.long x7), none, some (.int x9)]) (st' := [.long (0 : Int64), .long (s0 + s1)]) (σ' := (S, M, O)) (rfl) ?_
    exact Ex_mono (L := [some (.long x0), none, some (.int x2), none, none, some (.int x5), some (.int x6), some (.long x7), none, some (.int x9)]) (Le_s (Le_n (Le_s (Le_n (Le_n (Le_s (Le_s (Le_s (Le_n (Le_s (Le_0))))))))))) (X_Li_without_83 hd hk13 _ _ _ _ _ _ _ _ _ hF) (Nat.le_refl _) (by omega)
  · rw [if_neg hc] at hF
    refine Ex_go 4 (pc' := if x9 ≤ x2 then 76 else 72) (L' := [some (.long x0), none, some (.int x2), some (.long (s0 + s1)), none, some (.int x5), some (.int x6), some (.long x7), none, some (.int x9)]) (st' := [.int x9, .long (s0 + s1)]) (σ' := (S, M, O)) (rfl) ?_
    refine Ex_br (fun hc => ?_) (fun hc => ?_)
    · rw [if_pos hc] at hF
      refine Ex_go 1 (pc' := 77) (L' := [some (.long x0), none, some (.int x2), some (.long (s0 + s1)), none, some (.int x5), some (.int x6), some (.long x7), none, some (.int x9)]) (st' := [.int (0 : Int32), .int x9, .long (s0 + s1)]) (σ' := (S, M, O)) (rfl) ?_
      exact Ex_mono (L := [some (.long x0), none, some (.int x2), none, none, some (.int x5), some (.int x6), some (.long x7), none, some (.int x9)]) (Le_s (Le_n (Le_s (Le_n (Le_n (Le_s (Le_s (Le_s (Le_n (Le_s (Le_0))))))))))) (X_Li_without_77 hd hk13 _ _ _ _ _ _ _ _ _ _ hF) (Nat.le_refl _) (by omega)
    · rw [if_neg hc] at hF
      refine Ex_go 2 (pc' := 77) (L' := [some (.long x0), none, some (.int x2), some (.long (s0 + s1)), none, some (.int x5), some (.int x6), some (.long x7), none, some (.int x9)]) (st' := [.int (1 : Int32), .int x9, .long (s0 + s1)]) (σ' := (S, M, O)) (rfl) ?_
      exact Ex_mono (L := [some (.long x0), none, some (.int x2), none, none, some (.int x5), some (.int x6), some (.long x7), none, some (.int x9)]) (Le_s (Le_n (Le_s (Le_n (Le_n (Le_s (Le_s (Le_s (Le_n (Le_s (Le_0))))))))))) (X_Li_without_77 hd hk13 _ _ _ _ _ _ _ _ _ _ hF) (Nat.le_refl _) (by omega)
def F_Li_without_113 (k13 : Int64 → Int32 → Int64 → Int32 → Int32 → Int64 → Option Int64) (x0 : Int64) (x2 : Int32) (x5 : Int32) (x6 : Int32) (x7 : Int64) (x9 : Int32) (s0 : Int64) (s1 : Int32) (s2 : Int32) : Option Int64 := F_Li_without_117 k13 x0 x2 (s0 + (Int32.toInt64 (s1 - s2))) x5 x6 x7 x9
set_option maxRecDepth 100000 in
theorem X_Li_without_113 {nL : Nat} {xs : Nat → Int32} {S : Sto} {M : Sto} {O : Sto} {d : Nat} (hd : 1 ≤ d) {k13 : Int64 → Int32 → Int64 → Int32 → Int32 → Int64 → Option Int64} (hk13 : ∀ (x0 : Int64) (x2 : Int32) (x3 : Int64) (x5 : Int32) (x6 : Int32) (x7 : Int64) (r : Int64), k13 x0 x2 x3 x5 x6 x7 = some r → EX nL xs 0 MI_237 d 13 [some (.long x0), none, some (.int x2), some (.long x3), none, some (.int x5), some (.int x6), some (.long x7), none, none] [] (S, M, O) (.inl (some (.long r))) (S, M, O)) : ∀ (x0 : Int64) (x2 : Int32) (x5 : Int32) (x6 : Int32) (x7 : Int64) (x9 : Int32) (s0 : Int64) (s1 : Int32) (s2 : Int32) (r : Int64), F_Li_without_113 k13 x0 x2 x5 x6 x7 x9 s0 s1 s2 = some r → EX nL xs 0 MI_237 d 113 [some (.long x0), none, some (.int x2), none, none, some (.int x5), some (.int x6), some (.long x7), none, some (.int x9)] [.int s2, .int s1, .long s0] (S, M, O) (.inl (some (.long r))) (S, M, O) := by
  intro x0 x2 x5 x6 x7 x9 s0 s1 s2 r hF
  unfold F_Li_without_113 at hF
  refine Ex_go 4 (pc' := 117) (L' := [some (.long x0), none, some (.int x2), some (.long (s0 + (Int32.toInt64 (s1 - s2)))), none, some (.int x5), some (.int x6), some (.long x7), none, some (.int x9)]) (st' := []) (σ' := (S, M, O)) (rfl) ?_
  exact Ex_mono (L := [some (.long x0), none, some (.int x2), some (.long (s0 + (Int32.toInt64 (s1 - s2)))), none, some (.int x5), some (.int x6), some (.long x7), none, some (.int x9)]) (Le_s (Le_n (Le_s (Le_s (Le_n (Le_s (Le_s (Le_s (Le_n (Le_s (Le_0))))))))))) (X_Li_without_117 hd hk13 _ _ _ _ _ _ _ _ hF) (Nat.le_refl _) (by omega)
def F_Li_without_112 (k13 : Int64 → Int32 → Int64 → Int32 → Int32 → Int64 → Option Int64) (x0 : Int64) (x2 : Int32) (x5 : Int32) (x6 : Int32) (x7 : Int64) (x9 : Int32) (s0 : Int64) (s1 : Int32) : Option Int64 := F_Li_without_113 k13 x0 x2 x5 x6 x7 x9 s0 s1 (0 : Int32)
set_option maxRecDepth 100000 in
theorem X_Li_without_112 {nL : Nat} {xs : Nat → Int32} {S : Sto} {M : Sto} {O : Sto} {d : Nat} (hd : 1 ≤ d) {k13 : Int64 → Int32 → Int64 → Int32 → Int32 → Int64 → Option Int64} (hk13 : ∀ (x0 : Int64) (x2 : Int32) (x3 : Int64) (x5 : Int32) (x6 : Int32) (x7 : Int64) (r : Int64), k13 x0 x2 x3 x5 x6 x7 = some r → EX nL xs 0 MI_237 d 13 [some (.long x0), none, some (.int x2), some (.long x3), none, some (.int x5), some (.int x6), some (.long x7), none, none] [] (S, M, O) (.inl (some (.long r))) (S, M, O)) : ∀ (x0 : Int64) (x2 : Int32) (x5 : Int32) (x6 : Int32) (x7 : Int64) (x9 : Int32) (s0 : Int64) (s1 : Int32) (r : Int64), F_Li_without_112 k13 x0 x2 x5 x6 x7 x9 s0 s1 = some r → EX nL xs 0 MI_237 d 112 [some (.long x0), none, some (.int x2), none, none, some (.int x5), some (.int x6), some (.long x7), none, some (.int x9)] [.int s1, .long s0] (S, M, O) (.inl (some (.long r))) (S, M, O) := by
  intro x0 x2 x5 x6 x7 x9 s0 s1 r hF
  unfold F_Li_without_112 at hF
  refine Ex_go 1 (pc' := 113) (L' := [some (.long x0), none, some (.int x2), none, none, some (.int x5), some (.int x6), some (.long x7), none, some (.int x9)]) (st' := [.int (0 : Int32), .int s1, .long s0]) (σ' := (S, M, O)) (rfl) ?_
  exact Ex_mono (L := [some (.long x0), none, some (.int x2), none, none, some (.int x5), some (.int x6), some (.long x7), none, some (.int x9)]) (Le_s (Le_n (Le_s (Le_n (Le_n (Le_s (Le_s (Le_s (Le_n (Le_s (Le_0))))))))))) (X_Li_without_113 hd hk13 _ _ _ _ _ _ _ _ _ _ hF) (Nat.le_refl _) (by omega)
def F_Li_without_13 : Nat → Int64 → Int32 → Int64 → Int32 → Int32 → Int64 → Option Int64
  | 0, _, _, _, _, _, _ => none
  | n + 1, x0, x2, x3, x5, x6, x7 => if x7 ≤ (0 : Int64) then if x5 = 0 then some x3 else if x6 = 0 then some x3 else some (x3 + (1 : Int64)) else ck (nzL x7) (if x5 = 0 then if (Int64.toInt32 ((x0 / x7) - (x0 / x7) / (10 : Int64) * (10 : Int64))) ≤ 0 then F_Li_without_117 (F_Li_without_13 n) x0 x2 (x3 * (9 : Int64)) x5 x6 x7 (Int64.toInt32 ((x0 / x7) - (x0 / x7) / (10 : Int64) * (10 : Int64))) else if x2 ≤ 0 then F_Li_without_112 (F_Li_without_13 n) x0 x2 x5 x6 x7 (Int64.toInt32 ((x0 / x7) - (x0 / x7) / (10 : Int64) * (10 : Int64))) (x3 * (9 : Int64)) ((Int64.toInt32 ((x0 / x7) - (x0 / x7) / (10 : Int64) * (10 : Int64))) - (1 : Int32)) else if (Int64.toInt32 ((x0 / x7) - (x0 / x7) / (10 : Int64) * (10 : Int64))) ≤ x2 then F_Li_without_112 (F_Li_without_13 n) x0 x2 x5 x6 x7 (Int64.toInt32 ((x0 / x7) - (x0 / x7) / (10 : Int64) * (10 : Int64))) (x3 * (9 : Int64)) ((Int64.toInt32 ((x0 / x7) - (x0 / x7) / (10 : Int64) * (10 : Int64))) - (1 : Int32)) else F_Li_without_113 (F_Li_without_13 n) x0 x2 x5 x6 x7 (Int64.toInt32 ((x0 / x7) - (x0 / x7) / (10 : Int64) * (10 : Int64))) (x3 * (9 : Int64)) ((Int64.toInt32 ((x0 / x7) - (x0 / x7) / (10 : Int64) * (10 : Int64))) - (1 : Int32)) (1 : Int32) else if x2 = 0 then F_Li_without_56 (F_Li_without_13 n) x0 x2 x5 x6 x7 (Int64.toInt32 ((x0 / x7) - (x0 / x7) / (10 : Int64) * (10 : Int64))) (x3 * (9 : Int64)) (9 : Int64) else F_Li_without_56 (F_Li_without_13 n) x0 x2 x5 x6 x7 (Int64.toInt32 ((x0 / x7) - (x0 / x7) / (10 : Int64) * (10 : Int64))) (x3 * (9 : Int64)) (8 : Int64))
set_option maxRecDepth 100000 in
theorem X_Li_without_13 {nL : Nat} {xs : Nat → Int32} {S : Sto} {M : Sto} {O : Sto} {d : Nat} (hd : 1 ≤ d) : ∀ n : Nat, ∀ (x0 : Int64) (x2 : Int32) (x3 : Int64) (x5 : Int32) (x6 : Int32) (x7 : Int64) (r : Int64), F_Li_without_13 n x0 x2 x3 x5 x6 x7 = some r → EX nL xs 0 MI_237 d 13 [some (.long x0), none, some (.int x2), some (.long x3), none, some (.int x5), some (.int x6), some (.long x7), none, none] [] (S, M, O) (.inl (some (.long r))) (S, M, O) := by
  intro n
  induction n with
  | zero => intro x0 x2 x3 x5 x6 x7 r hF; cases hF
  | succ n ih =>
  intro x0 x2 x3 x5 x6 x7 r hF
  unfold F_Li_without_13 at hF
  refine Ex_go 4 (pc' := if (lg_cmp x7 (0 : Int64)) ≤ 0 then 168 else 20) (L' := [some (.long x0), none, some (.int x2), some (.long x3), none, some (.int x5), some (.int x6), some (.long x7), none, none]) (st' := []) (σ' := (S, M, O)) (rfl) ?_
  refine Ex_brI lc_le (fun hc => ?_) (fun hc => ?_)
  · rw [if_pos hc] at hF
    refine Ex_go 2 (pc' := if x5 = 0 then 184 else 173) (L' := [some (.long x0), none, some (.int x2), some (.long x3), none, some (.int x5), some (.int x6), some (.long x7), none, none]) (st' := []) (σ' := (S, M, O)) (rfl) ?_
    refine Ex_br (fun hc => ?_) (fun hc => ?_)
    · rw [if_pos hc] at hF
      refine Ex_go 1 (pc' := 185) (L' := [some (.long x0), none, some (.int x2), some (.long x3), none, some (.int x5), some (.int x6), some (.long x7), none, none]) (st' := [.long x3]) (σ' := (S, M, O)) (rfl) ?_
      cases hF
      exact Ex_fin rfl
    · rw [if_neg hc] at hF
      refine Ex_go 2 (pc' := if x6 = 0 then 184 else 178) (L' := [some (.long x0), none, some (.int x2), some (.long x3), none, some (.int x5), some (.int x6), some (.long x7), none, none]) (st' := []) (σ' := (S, M, O)) (rfl) ?_
      refine Ex_br (fun hc => ?_) (fun hc => ?_)
      · rw [if_pos hc] at hF
        refine Ex_go 1 (pc' := 185) (L' := [some (.long x0), none, some (.int x2), some (.long x3), none, some (.int x5), some (.int x6), some (.long x7), none, none]) (st' := [.long x3]) (σ' := (S, M, O)) (rfl) ?_
        cases hF
        exact Ex_fin rfl
      · rw [if_neg hc] at hF
        refine Ex_go 4 (pc' := 185) (L' := [some (.long x0), none, some (.int x2), some (.long x3), none, some (.int x5), some (.int x6), some (.long x7), none, none]) (st' := [.long (x3 + (1 : Int64))]) (σ' := (S, M, O)) (rfl) ?_
        cases hF
        exact Ex_fin rfl
  · rw [if_neg hc] at hF
    refine Ex_go 2 (pc' := 23) (L' := [some (.long x0), none, some (.int x2), some (.long x3), none, some (.int x5), some (.int x6), some (.long x7), none, none]) (st' := [.long x7, .long x0]) (σ' := (S, M, O)) (rfl) ?_
    obtain ⟨hc1, hF⟩ := ck_i hF
    refine Ex_chk (b := nzL x7) (pc' := 24) (L' := [some (.long x0), none, some (.int x2), some (.long x3), none, some (.int x5), some (.int x6), some (.long x7), none, none]) (st' := [.long (x0 / x7)]) (σ' := (S, M, O)) rfl hc1 ?_
    refine Ex_go 1 (pc' := 27) (L' := [some (.long x0), none, some (.int x2), some (.long x3), none, some (.int x5), some (.int x6), some (.long x7), none, none]) (st' := [.long (10 : Int64), .long (x0 / x7)]) (σ' := (S, M, O)) (rfl) ?_
    refine Ex_chk (b := nzL (10 : Int64)) (pc' := 28) (L' := [some (.long x0), none, some (.int x2), some (.long x3), none, some (.int x5), some (.int x6), some (.long x7), none, none]) (st' := [.long ((x0 / x7) - (x0 / x7) / (10 : Int64) * (10 : Int64))]) (σ' := (S, M, O)) rfl (by decide) ?_
    refine Ex_go 8 (pc' := if x5 = 0 then 88 else 42) (L' := [some (.long x0), none, some (.int x2), some (.long (x3 * (9 : Int64))), none, some (.int x5), some (.int x6), some (.long x7), none, some (.int (Int64.toInt32 ((x0 / x7) - (x0 / x7) / (10 : Int64) * (10 : Int64))))]) (st' := []) (σ' := (S, M, O)) (rfl) ?_
    refine Ex_br (fun hc => ?_) (fun hc => ?_)
    · rw [if_pos hc] at hF
      refine Ex_go 2 (pc' := if (Int64.toInt32 ((x0 / x7) - (x0 / x7) / (10 : Int64) * (10 : Int64))) ≤ 0 then 117 else 93) (L' := [some (.long x0), none, some (.int x2), some (.long (x3 * (9 : Int64))), none, some (.int x5), some (.int x6), some (.long x7), none, some (.int (Int64.toInt32 ((x0 / x7) - (x0 / x7) / (10 : Int64) * (10 : Int64))))]) (st' := []) (σ' := (S, M, O)) (rfl) ?_
      refine Ex_br (fun hc => ?_) (fun hc => ?_)
      · rw [if_pos hc] at hF
        exact Ex_mono (L := [some (.long x0), none, some (.int x2), some (.long (x3 * (9 : Int64))), none, some (.int x5), some (.int x6), some (.long x7), none, some (.int (Int64.toInt32 ((x0 / x7) - (x0 / x7) / (10 : Int64) * (10 : Int64))))]) (Le_s (Le_n (Le_s (Le_s (Le_n (Le_s (Le_s (Le_s (Le_n (Le_s (Le_0))))))))))) (X_Li_without_117 hd ih _ _ _ _ _ _ _ _ hF) (Nat.le_refl _) (by omega)
      · rw [if_neg hc] at hF
        refine Ex_go 6 (pc' := if x2 ≤ 0 then 112 else 102) (L' := [some (.long x0), none, some (.int x2), some (.long (x3 * (9 : Int64))), none, some (.int x5), some (.int x6), some (.long x7), none, some (.int (Int64.toInt32 ((x0 / x7) - (x0 / x7) / (10 : Int64) * (10 : Int64))))]) (st' := [.int ((Int64.toInt32 ((x0 / x7) - (x0 / x7) / (10 : Int64) * (10 : Int64))) - (1 : Int32)), .long (x3 * (9 : Int64))]) (σ' := (S, M, O)) (rfl) ?_
        refine Ex_br (fun hc => ?_) (fun hc => ?_)
        · rw [if_pos hc] at hF
          exact Ex_mono (L := [some (.long x0), none, some (.int x2), none, none, some (.int x5), some (.int x6), some (.long x7), none, some (.int (Int64.toInt32 ((x0 / x7) - (x0 / x7) / (10 : Int64) * (10 : Int64))))]) (Le_s (Le_n (Le_s (Le_n (Le_n (Le_s (Le_s (Le_s (Le_n (Le_s (Le_0))))))))))) (X_Li_without_112 hd ih _ _ _ _ _ _ _ _ _ hF) (Nat.le_refl _) (by omega)
        · rw [if_neg hc] at hF
          refine Ex_go 3 (pc' := if (Int64.toInt32 ((x0 / x7) - (x0 / x7) / (10 : Int64) * (10 : Int64))) ≤ x2 then 112 else 108) (L' := [some (.long x0), none, some (.int x2), some (.long (x3 * (9 : Int64))), none, some (.int x5), some (.int x6), some (.long x7), none, some (.int (Int64.toInt32 ((x0 / x7) - (x0 / x7) / (10 : Int64) * (10 : Int64))))]) (st' := [.int ((Int64.toInt32 ((x0 / x7) - (x0 / x7) / (10 : Int64) * (10 : Int64))) - (1 : Int32)), .long (x3 * (9 : Int64))]) (σ' := (S, M, O)) (rfl) ?_
          refine Ex_br (fun hc => ?_) (fun hc => ?_)
          · rw [if_pos hc] at hF
            exact Ex_mono (L := [some (.long x0), none, some (.int x2), none, none, some (.int x5), some (.int x6), some (.long x7), none, some (.int (Int64.toInt32 ((x0 / x7) - (x0 / x7) / (10 : Int64) * (10 : Int64))))]) (Le_s (Le_n (Le_s (Le_n (Le_n (Le_s (Le_s (Le_s (Le_n (Le_s (Le_0))))))))))) (X_Li_without_112 hd ih _ _ _ _ _ _ _ _ _ hF) (Nat.le_refl _) (by omega)
          · rw [if_neg hc] at hF
            refine Ex_go 2 (pc' := 113) (L' := [some (.long x0), none, some (.int x2), some (.long (x3 * (9 : Int64))), none, some (.int x5), some (.int x6), some (.long x7), none, some (.int (Int64.toInt32 ((x0 / x7) - (x0 / x7) / (10 : Int64) * (10 : Int64))))]) (st' := [.int (1 : Int32), .int ((Int64.toInt32 ((x0 / x7) - (x0 / x7) / (10 : Int64) * (10 : Int64))) - (1 : Int32)), .long (x3 * (9 : Int64))]) (σ' := (S, M, O)) (rfl) ?_
            exact Ex_mono (L := [some (.long x0), none, some (.int x2), none, none, some (.int x5), some (.int x6), some (.long x7), none, some (.int (Int64.toInt32 ((x0 / x7) - (x0 / x7) / (10 : Int64) * (10 : Int64))))]) (Le_s (Le_n (Le_s (Le_n (Le_n (Le_s (Le_s (Le_s (Le_n (Le_s (Le_0))))))))))) (X_Li_without_113 hd ih _ _ _ _ _ _ _ _ _ _ hF) (Nat.le_refl _) (by omega)
    · rw [if_neg hc] at hF
      refine Ex_go 3 (pc' := if ¬ x2 = 0 then 53 else 47) (L' := [some (.long x0), none, some (.int x2), some (.long (x3 * (9 : Int64))), none, some (.int x5), some (.int x6), some (.long x7), none, some (.int (Int64.toInt32 ((x0 / x7) - (x0 / x7) / (10 : Int64) * (10 : Int64))))]) (st' := [.long (x3 * (9 : Int64))]) (σ' := (S, M, O)) (rfl) ?_
      refine Ex_brN (fun hc => ?_) (fun hc => ?_)
      · rw [if_pos hc] at hF
        refine Ex_go 2 (pc' := 56) (L' := [some (.long x0), none, some (.int x2), some (.long (x3 * (9 : Int64))), none, some (.int x5), some (.int x6), some (.long x7), none, some (.int (Int64.toInt32 ((x0 / x7) - (x0 / x7) / (10 : Int64) * (10 : Int64))))]) (st' := [.long (9 : Int64), .long (x3 * (9 : Int64))]) (σ' := (S, M, O)) (rfl) ?_
        exact Ex_mono (L := [some (.long x0), none, some (.int x2), none, none, some (.int x5), some (.int x6), some (.long x7), none, some (.int (Int64.toInt32 ((x0 / x7) - (x0 / x7) / (10 : Int64) * (10 : Int64))))]) (Le_s (Le_n (Le_s (Le_n (Le_n (Le_s (Le_s (Le_s (Le_n (Le_s (Le_0))))))))))) (X_Li_without_56 hd ih _ _ _ _ _ _ _ _ _ hF) (Nat.le_refl _) (by omega)
      · rw [if_neg hc] at hF
        refine Ex_go 1 (pc' := 56) (L' := [some (.long x0), none, some (.int x2), some (.long (x3 * (9 : Int64))), none, some (.int x5), some (.int x6), some (.long x7), none, some (.int (Int64.toInt32 ((x0 / x7) - (x0 / x7) / (10 : Int64) * (10 : Int64))))]) (st' := [.long (8 : Int64), .long (x3 * (9 : Int64))]) (σ' := (S, M, O)) (rfl) ?_
        exact Ex_mono (L := [some (.long x0), none, some (.int x2), none, none, some (.int x5), some (.int x6), some (.long x7), none, some (.int (Int64.toInt32 ((x0 / x7) - (x0 / x7) / (10 : Int64) * (10 : Int64))))]) (Le_s (Le_n (Le_s (Le_n (Le_n (Le_s (Le_s (Le_s (Le_n (Le_s (Le_0))))))))))) (X_Li_without_56 hd ih _ _ _ _ _ _ _ _ _ hF) (Nat.le_refl _) (by omega)
def F_Li_without (x0 : Int64) (x2 : Int32) : Option Int64 := F_Li_without_13 FU x0 x2 (0 : Int64) (0 : Int32) (1 : Int32) (1000000000000000 : Int64)
set_option maxRecDepth 100000 in
theorem X_Li_without {nL : Nat} {xs : Nat → Int32} {S : Sto} {M : Sto} {O : Sto} {d : Nat} (hd : 1 ≤ d) : ∀ (x0 : Int64) (x2 : Int32) (r : Int64), F_Li_without x0 x2 = some r → EX nL xs 0 MI_237 d 0 [some (.long x0), none, some (.int x2), none, none, none, none, none, none, none] [] (S, M, O) (.inl (some (.long r))) (S, M, O) := by
  intro x0 x2 r hF
  unfold F_Li_without at hF
  refine Ex_go 8 (pc' := 13) (L' := [some (.long x0), none, some (.int x2), some (.long (0 : Int64)), none, some (.int (0 : Int32)), some (.int (1 : Int32)), some (.long (1000000000000000 : Int64)), none, none]) (st' := []) (σ' := (S, M, O)) (rfl) ?_
  exact Ex_mono (L := [some (.long x0), none, some (.int x2), some (.long (0 : Int64)), none, some (.int (0 : Int32)), some (.int (1 : Int32)), some (.long (1000000000000000 : Int64)), none, none]) (Le_s (Le_n (Le_s (Le_s (Le_n (Le_s (Le_s (Le_s (Le_n (Le_n (Le_0))))))))))) (X_Li_without_13 hd FU _ _ _ _ _ _ _ hF) (Nat.le_refl _) (by omega)
