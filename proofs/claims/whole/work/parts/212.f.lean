/-! ===== what the methods do, as functions, and that the small machine does it (printed by wip/whole/gen4.py) ===== -/
def F_m_readPond_78 (k24 : Sto → Option (Unit × Sto)) (x1 : Int32) (M : Sto) : Option (Unit × Sto) := if (gi M 1010) = 0 then b2 (F_m_stepOn (sl M 1002 ((gl M 1002) ||| ((1 : Int64) <<< (Int32.toInt64 x1 &&& 63))))) (fun r1 M3 => k24 M3) else some ((), M)
set_option maxRecDepth 100000 in
theorem X_m_readPond_78 {nL : Nat} {xs : Nat → Int32} {S : Sto} {O : Sto} {d : Nat} (hd : 7 ≤ d) {k24 : Sto → Option (Unit × Sto)} (hk24 : ∀ (M : Sto) (r : Unit) (M' : Sto), k24 M = some (r, M') → EX nL xs 0 MI_63 d 24 [some (.ref 1000), none] [] (S, M, O) (.inl none) (S, M', O)) : ∀ (x1 : Int32) (M : Sto) (r : Unit) (M' : Sto), F_m_readPond_78 k24 x1 M = some (r, M') → EX nL xs 0 MI_63 d 78 [some (.ref 1000), some (.int x1)] [] (S, M, O) (.inl none) (S, M', O) := by
  intro x1 M r M' hF
  unfold F_m_readPond_78 at hF
  refine Ex_go 3 (pc' := if (gi M 1010) = 0 then 86 else 85) (L' := [some (.ref 1000), some (.int x1)]) (st' := []) (σ' := (S, M, O)) (rfl) ?_
  refine Ex_br (fun hc => ?_) (fun hc => ?_)
  · rw [if_pos hc] at hF
    refine Ex_go 9 (pc' := 99) (L' := [some (.ref 1000), some (.int x1)]) (st' := [.ref 1000]) (σ' := (S, (sl M 1002 ((gl M 1002) ||| ((1 : Int64) <<< (Int32.toInt64 x1 &&& 63)))), O)) (rfl) ?_
    obtain ⟨r1, M3, hx2, hF⟩ := b2_i hF
    refine Ex_call (kind := 2) (y := 55) (as := [.ref 1000]) (rest := []) (L0 := [some (.ref 1000), none]) (d' := 6) (v := none) (σ1 := (S, M3, O)) rfl rfl mt_55 rfl rfl (by omega) (X_m_stepOn (Nat.le_refl _) _ _ _ hx2) (Ex_st (st2 := []) rfl ?_)
    refine Ex_go 1 (pc' := 24) (L' := [some (.ref 1000), some (.int x1)]) (st' := []) (σ' := (S, M3, O)) (rfl) ?_
    exact Ex_mono (L := [some (.ref 1000), none]) (Le_s (Le_n (Le_0))) (hk24 _ _ _ hF) (Nat.le_refl _) (by omega)
  · rw [if_neg hc] at hF
    cases hF
    exact Ex_fin rfl
def F_m_readPond_24 : Nat → Sto → Option (Unit × Sto)
  | 0, _ => none
  | n + 1, M => if (gi M 1010) = 0 then if (gi M 1006) = (2 : Int32) then b2 (F_m_numberNow (0 : Int32) ((ai M 1003 (Int32.toNatClampNeg (4 : Int32))) - (1 : Int32)) M) (fun r1 M3 => if (gi M3 1010) = 0 then if (((gl M3 1002) >>> (Int32.toInt64 r1 &&& 63)) &&& (1 : Int64)) = (1 : Int64) then b2 (F_m_wrong (4 : Int32) M3) (fun r4 M6 => F_m_readPond_78 (F_m_readPond_24 n) r1 M6) else F_m_readPond_78 (F_m_readPond_24 n) r1 M3 else F_m_readPond_78 (F_m_readPond_24 n) r1 M3) else some ((), M) else some ((), M)
set_option maxRecDepth 100000 in
theorem X_m_readPond_24 {nL : Nat} {xs : Nat → Int32} {S : Sto} {O : Sto} {d : Nat} (hd : 7 ≤ d) : ∀ n : Nat, ∀ (M : Sto) (r : Unit) (M' : Sto), F_m_readPond_24 n M = some (r, M') → EX nL xs 0 MI_63 d 24 [some (.ref 1000), none] [] (S, M, O) (.inl none) (S, M', O) := by
  intro n
  induction n with
  | zero => intro M r M' hF; cases hF
  | succ n ih =>
  intro M r M' hF
  unfold F_m_readPond_24 at hF
  refine Ex_go 3 (pc' := if ¬ (gi M 1010) = 0 then 105 else 31) (L' := [some (.ref 1000), none]) (st' := []) (σ' := (S, M, O)) (rfl) ?_
  refine Ex_brN (fun hc => ?_) (fun hc => ?_)
  · rw [if_pos hc] at hF
    refine Ex_go 4 (pc' := if ¬ (gi M 1006) = (2 : Int32) then 105 else 39) (L' := [some (.ref 1000), none]) (st' := []) (σ' := (S, M, O)) (rfl) ?_
    refine Ex_brN (fun hc => ?_) (fun hc => ?_)
    · rw [if_pos hc] at hF
      refine Ex_go 5 (pc' := 46) (L' := [some (.ref 1000), none]) (st' := [.int (4 : Int32), .ref 1003, .int (0 : Int32), .ref 1000]) (σ' := (S, M, O)) (rfl) ?_
      refine Ex_chk (b := ib (4 : Int32) 6) (pc' := 47) (L' := [some (.ref 1000), none]) (st' := [.int (ai M 1003 (Int32.toNatClampNeg (4 : Int32))), .int (0 : Int32), .ref 1000]) (σ' := (S, M, O)) rfl (by decide) ?_
      refine Ex_go 2 (pc' := 49) (L' := [some (.ref 1000), none]) (st' := [.int ((ai M 1003 (Int32.toNatClampNeg (4 : Int32))) - (1 : Int32)), .int (0 : Int32), .ref 1000]) (σ' := (S, M, O)) (rfl) ?_
      obtain ⟨r1, M3, hx2, hF⟩ := b2_i hF
      refine Ex_call (kind := 2) (y := 59) (as := [.ref 1000, .int (0 : Int32), .int ((ai M 1003 (Int32.toNatClampNeg (4 : Int32))) - (1 : Int32))]) (rest := []) (L0 := [some (.ref 1000), some (.int (0 : Int32)), some (.int ((ai M 1003 (Int32.toNatClampNeg (4 : Int32))) - (1 : Int32)))]) (d' := 2) (v := some (.int r1)) (σ1 := (S, M3, O)) rfl rfl mt_59 rfl rfl (by omega) (X_m_numberNow (Nat.le_refl _) _ _ _ _ _ hx2) (Ex_st (st2 := [.int r1]) rfl ?_)
      refine Ex_go 4 (pc' := if ¬ (gi M3 1010) = 0 then 78 else 60) (L' := [some (.ref 1000), some (.int r1)]) (st' := []) (σ' := (S, M3, O)) (rfl) ?_
      refine Ex_brN (fun hc => ?_) (fun hc => ?_)
      · rw [if_pos hc] at hF
        refine Ex_go 9 (pc' := if ¬ (lg_cmp (((gl M3 1002) >>> (Int32.toInt64 r1 &&& 63)) &&& (1 : Int64)) (1 : Int64)) = 0 then 78 else 73) (L' := [some (.ref 1000), some (.int r1)]) (st' := []) (σ' := (S, M3, O)) (rfl) ?_
        refine Ex_brNI lc_ne (fun hc => ?_) (fun hc => ?_)
        · rw [if_pos hc] at hF
          refine Ex_go 2 (pc' := 75) (L' := [some (.ref 1000), some (.int r1)]) (st' := [.int (4 : Int32), .ref 1000]) (σ' := (S, M3, O)) (rfl) ?_
          obtain ⟨r4, M6, hx5, hF⟩ := b2_i hF
          refine Ex_call (kind := 2) (y := 58) (as := [.ref 1000, .int (4 : Int32)]) (rest := []) (L0 := [some (.ref 1000), some (.int (4 : Int32))]) (d' := 1) (v := none) (σ1 := (S, M6, O)) rfl rfl mt_58 rfl rfl (by omega) (X_m_wrong (Nat.le_refl _) _ _ _ _ hx5) (Ex_st (st2 := []) rfl ?_)
          exact Ex_mono (L := [some (.ref 1000), some (.int r1)]) (Le_s (Le_s (Le_0))) (X_m_readPond_78 hd ih _ _ _ _ hF) (Nat.le_refl _) (by omega)
        · rw [if_neg hc] at hF
          exact Ex_mono (L := [some (.ref 1000), some (.int r1)]) (Le_s (Le_s (Le_0))) (X_m_readPond_78 hd ih _ _ _ _ hF) (Nat.le_refl _) (by omega)
      · rw [if_neg hc] at hF
        exact Ex_mono (L := [some (.ref 1000), some (.int r1)]) (Le_s (Le_s (Le_0))) (X_m_readPond_78 hd ih _ _ _ _ hF) (Nat.le_refl _) (by omega)
    · rw [if_neg hc] at hF
      cases hF
      exact Ex_fin rfl
  · rw [if_neg hc] at hF
    cases hF
    exact Ex_fin rfl
def F_m_readPond (M : Sto) : Option (Unit × Sto) := b2 (F_m_stepOn M) (fun r1 M3 => if (gi M3 1010) = 0 then if (gi M3 1006) = (2 : Int32) then F_m_readPond_24 FU M3 else b2 (F_m_wrong (1 : Int32) M3) (fun r4 M6 => F_m_readPond_24 FU M6) else F_m_readPond_24 FU M3)
set_option maxRecDepth 100000 in
theorem X_m_readPond {nL : Nat} {xs : Nat → Int32} {S : Sto} {O : Sto} {d : Nat} (hd : 7 ≤ d) : ∀ (M : Sto) (r : Unit) (M' : Sto), F_m_readPond M = some (r, M') → EX nL xs 0 MI_63 d 0 [some (.ref 1000), none] [] (S, M, O) (.inl none) (S, M', O) := by
  intro M r M' hF
  unfold F_m_readPond at hF
  refine Ex_go 1 (pc' := 1) (L' := [some (.ref 1000), none]) (st' := [.ref 1000]) (σ' := (S, M, O)) (rfl) ?_
  obtain ⟨r1, M3, hx2, hF⟩ := b2_i hF
  refine Ex_call (kind := 2) (y := 55) (as := [.ref 1000]) (rest := []) (L0 := [some (.ref 1000), none]) (d' := 6) (v := none) (σ1 := (S, M3, O)) rfl rfl mt_55 rfl rfl (by omega) (X_m_stepOn (Nat.le_refl _) _ _ _ hx2) (Ex_st (st2 := []) rfl ?_)
  refine Ex_go 3 (pc' := if ¬ (gi M3 1010) = 0 then 24 else 11) (L' := [some (.ref 1000), none]) (st' := []) (σ' := (S, M3, O)) (rfl) ?_
  refine Ex_brN (fun hc => ?_) (fun hc => ?_)
  · rw [if_pos hc] at hF
    refine Ex_go 4 (pc' := if (gi M3 1006) = (2 : Int32) then 24 else 19) (L' := [some (.ref 1000), none]) (st' := []) (σ' := (S, M3, O)) (rfl) ?_
    refine Ex_br (fun hc => ?_) (fun hc => ?_)
    · rw [if_pos hc] at hF
      exact Ex_mono (L := [some (.ref 1000), none]) (Le_s (Le_n (Le_0))) (X_m_readPond_24 hd FU _ _ _ hF) (Nat.le_refl _) (by omega)
    · rw [if_neg hc] at hF
      refine Ex_go 2 (pc' := 21) (L' := [some (.ref 1000), none]) (st' := [.int (1 : Int32), .ref 1000]) (σ' := (S, M3, O)) (rfl) ?_
      obtain ⟨r4, M6, hx5, hF⟩ := b2_i hF
      refine Ex_call (kind := 2) (y := 58) (as := [.ref 1000, .int (1 : Int32)]) (rest := []) (L0 := [some (.ref 1000), some (.int (1 : Int32))]) (d' := 1) (v := none) (σ1 := (S, M6, O)) rfl rfl mt_58 rfl rfl (by omega) (X_m_wrong (Nat.le_refl _) _ _ _ _ hx5) (Ex_st (st2 := []) rfl ?_)
      exact Ex_mono (L := [some (.ref 1000), none]) (Le_s (Le_n (Le_0))) (X_m_readPond_24 hd FU _ _ _ hF) (Nat.le_refl _) (by omega)
  · rw [if_neg hc] at hF
    exact Ex_mono (L := [some (.ref 1000), none]) (Le_s (Le_n (Le_0))) (X_m_readPond_24 hd FU _ _ _ hF) (Nat.le_refl _) (by omega)
def F_m_tens_4 : Nat → Int32 → Int32 → Int32 → Option Int32
  | 0, _, _, _ => none
  | n + 1, x0, x1, x2 => if x0 ≤ x2 then some x1 else F_m_tens_4 n x0 (x1 * (10 : Int32)) (x2 + (1 : Int32))
set_option maxRecDepth 100000 in
theorem X_m_tens_4 {nL : Nat} {xs : Nat → Int32} {S : Sto} {M : Sto} {O : Sto} {d : Nat} (hd : 1 ≤ d) : ∀ n : Nat, ∀ (x0 : Int32) (x1 : Int32) (x2 : Int32) (r : Int32), F_m_tens_4 n x0 x1 x2 = some r → EX nL xs 0 MI_61 d 4 [some (.int x0), some (.int x1), some (.int x2)] [] (S, M, O) (.inl (some (.int r))) (S, M, O) := by
  intro n
  induction n with
  | zero => intro x0 x1 x2 r hF; cases hF
  | succ n ih =>
  intro x0 x1 x2 r hF
  unfold F_m_tens_4 at hF
  refine Ex_go 3 (pc' := if x0 ≤ x2 then 20 else 9) (L' := [some (.int x0), some (.int x1), some (.int x2)]) (st' := []) (σ' := (S, M, O)) (rfl) ?_
  refine Ex_br (fun hc => ?_) (fun hc => ?_)
  · rw [if_pos hc] at hF
    refine Ex_go 1 (pc' := 21) (L' := [some (.int x0), some (.int x1), some (.int x2)]) (st' := [.int x1]) (σ' := (S, M, O)) (rfl) ?_
    cases hF
    exact Ex_fin rfl
  · rw [if_neg hc] at hF
    refine Ex_go 6 (pc' := 4) (L' := [some (.int x0), some (.int (x1 * (10 : Int32))), some (.int (x2 + (1 : Int32)))]) (st' := []) (σ' := (S, M, O)) (rfl) ?_
    exact Ex_mono (L := [some (.int x0), some (.int (x1 * (10 : Int32))), some (.int (x2 + (1 : Int32)))]) (Le_s (Le_s (Le_s (Le_0)))) (ih _ _ _ _ hF) (Nat.le_refl _) (by omega)
def F_m_tens (x0 : Int32) : Option Int32 := F_m_tens_4 FU x0 (1 : Int32) (0 : Int32)
set_option maxRecDepth 100000 in
theorem X_m_tens {nL : Nat} {xs : Nat → Int32} {S : Sto} {M : Sto} {O : Sto} {d : Nat} (hd : 1 ≤ d) : ∀ (x0 : Int32) (r : Int32), F_m_tens x0 = some r → EX nL xs 0 MI_61 d 0 [some (.int x0), none, none] [] (S, M, O) (.inl (some (.int r))) (S, M, O) := by
  intro x0 r hF
  unfold F_m_tens at hF
  refine Ex_go 4 (pc' := 4) (L' := [some (.int x0), some (.int (1 : Int32)), some (.int (0 : Int32))]) (st' := []) (σ' := (S, M, O)) (rfl) ?_
  exact Ex_mono (L := [some (.int x0), some (.int (1 : Int32)), some (.int (0 : Int32))]) (Le_s (Le_s (Le_s (Le_0)))) (X_m_tens_4 hd FU _ _ _ _ hF) (Nat.le_refl _) (by omega)
def F_m_readNet_316 (M : Sto) : Option (Unit × Sto) := some ((), (ui M 1003 (upd (ai M 1003) (Int32.toNatClampNeg (3 : Int32)) ((ai M 1003 (Int32.toNatClampNeg (3 : Int32))) + (1 : Int32)))))
set_option maxRecDepth 100000 in
theorem X_m_readNet_316 {nL : Nat} {xs : Nat → Int32} {S : Sto} {O : Sto} {d : Nat} (hd : 8 ≤ d) : ∀ (M : Sto) (r : Unit) (M' : Sto), F_m_readNet_316 M = some (r, M') → EX nL xs 0 MI_62 d 316 [some (.ref 1000), none, none, none] [] (S, M, O) (.inl none) (S, M', O) := by
  intro M r M' hF
  unfold F_m_readNet_316 at hF
  refine Ex_go 4 (pc' := 322) (L' := [some (.ref 1000), none, none, none]) (st' := [.int (3 : Int32), .ref 1003, .int (3 : Int32), .ref 1003]) (σ' := (S, M, O)) (rfl) ?_
  refine Ex_chk (b := ib (3 : Int32) 6) (pc' := 323) (L' := [some (.ref 1000), none, none, none]) (st' := [.int (ai M 1003 (Int32.toNatClampNeg (3 : Int32))), .int (3 : Int32), .ref 1003]) (σ' := (S, M, O)) rfl (by decide) ?_
  refine Ex_go 2 (pc' := 325) (L' := [some (.ref 1000), none, none, none]) (st' := [.int ((ai M 1003 (Int32.toNatClampNeg (3 : Int32))) + (1 : Int32)), .int (3 : Int32), .ref 1003]) (σ' := (S, M, O)) (rfl) ?_
  refine Ex_chk (b := ib (3 : Int32) 6) (pc' := 326) (L' := [some (.ref 1000), none, none, none]) (st' := []) (σ' := (S, (ui M 1003 (upd (ai M 1003) (Int32.toNatClampNeg (3 : Int32)) ((ai M 1003 (Int32.toNatClampNeg (3 : Int32))) + (1 : Int32)))), O)) rfl (by decide) ?_
  cases hF
  exact Ex_fin rfl
def F_m_readNet_297 (x2 : Int32) (M : Sto) : Option (Unit × Sto) := ck (ib x2 16) (b2 (F_m_readNumber (ai M 1005 (Int32.toNatClampNeg x2)) (9999 : Int32) M) (fun r2 M4 => ck (ib x2 16) (F_m_readNet_316 (ui M4 1006 (upd (ai M4 1006) (Int32.toNatClampNeg x2) r2)))))
set_option maxRecDepth 100000 in
theorem X_m_readNet_297 {nL : Nat} {xs : Nat → Int32} {S : Sto} {O : Sto} {d : Nat} (hd : 8 ≤ d) : ∀ (x2 : Int32) (M : Sto) (r : Unit) (M' : Sto), F_m_readNet_297 x2 M = some (r, M') → EX nL xs 0 MI_62 d 297 [some (.ref 1000), none, some (.int x2), none] [] (S, M, O) (.inl none) (S, M', O) := by
  intro x2 M r M' hF
  unfold F_m_readNet_297 at hF
  refine Ex_go 7 (pc' := 308) (L' := [some (.ref 1000), none, some (.int x2), none]) (st' := [.int x2, .ref 1005, .ref 1000, .int x2, .ref 1006]) (σ' := (S, M, O)) (rfl) ?_
  obtain ⟨hc1, hF⟩ := ck_i hF
  refine Ex_chk (b := ib x2 16) (pc' := 309) (L' := [some (.ref 1000), none, some (.int x2), none]) (st' := [.int (ai M 1005 (Int32.toNatClampNeg x2)), .ref 1000, .int x2, .ref 1006]) (σ' := (S, M, O)) rfl hc1 ?_
  refine Ex_go 1 (pc' := 312) (L' := [some (.ref 1000), none, some (.int x2), none]) (st' := [.int (9999 : Int32), .int (ai M 1005 (Int32.toNatClampNeg x2)), .ref 1000, .int x2, .ref 1006]) (σ' := (S, M, O)) (rfl) ?_
  obtain ⟨r2, M4, hx3, hF⟩ := b2_i hF
  refine Ex_call (kind := 2) (y := 60) (as := [.ref 1000, .int (ai M 1005 (Int32.toNatClampNeg x2)), .int (9999 : Int32)]) (rest := [.int x2, .ref 1006]) (L0 := [some (.ref 1000), some (.int (ai M 1005 (Int32.toNatClampNeg x2))), some (.int (9999 : Int32)), none]) (d' := 7) (v := some (.int r2)) (σ1 := (S, M4, O)) rfl rfl mt_60 rfl rfl (by omega) (X_m_readNumber (Nat.le_refl _) _ _ _ _ _ hx3) (Ex_st (st2 := [.int r2, .int x2, .ref 1006]) rfl ?_)
  obtain ⟨hc5, hF⟩ := ck_i hF
  refine Ex_chk (b := ib x2 16) (pc' := 316) (L' := [some (.ref 1000), none, some (.int x2), none]) (st' := []) (σ' := (S, (ui M4 1006 (upd (ai M4 1006) (Int32.toNatClampNeg x2) r2)), O)) rfl hc5 ?_
  exact Ex_mono (L := [some (.ref 1000), none, none, none]) (Le_s (Le_n (Le_n (Le_n (Le_0))))) (X_m_readNet_316 hd _ _ _ hF) (Nat.le_refl _) (by omega)
def F_m_readNet_286 (x2 : Int32) (M : Sto) : Option (Unit × Sto) := if (gi M 1010) = 0 then b2 (F_m_stepOn M) (fun r1 M3 => F_m_readNet_297 x2 M3) else F_m_readNet_297 x2 M
set_option maxRecDepth 100000 in
theorem X_m_readNet_286 {nL : Nat} {xs : Nat → Int32} {S : Sto} {O : Sto} {d : Nat} (hd : 8 ≤ d) : ∀ (x2 : Int32) (M : Sto) (r : Unit) (M' : Sto), F_m_readNet_286 x2 M = some (r, M') → EX nL xs 0 MI_62 d 286 [some (.ref 1000), none, some (.int x2), none] [] (S, M, O) (.inl none) (S, M', O) := by
  intro x2 M r M' hF
  unfold F_m_readNet_286 at hF
  refine Ex_go 3 (pc' := if ¬ (gi M 1010) = 0 then 297 else 293) (L' := [some (.ref 1000), none, some (.int x2), none]) (st' := []) (σ' := (S, M, O)) (rfl) ?_
  refine Ex_brN (fun hc => ?_) (fun hc => ?_)
  · rw [if_pos hc] at hF
    refine Ex_go 1 (pc' := 294) (L' := [some (.ref 1000), none, some (.int x2), none]) (st' := [.ref 1000]) (σ' := (S, M, O)) (rfl) ?_
    obtain ⟨r1, M3, hx2, hF⟩ := b2_i hF
    refine Ex_call (kind := 2) (y := 55) (as := [.ref 1000]) (rest := []) (L0 := [some (.ref 1000), none]) (d' := 6) (v := none) (σ1 := (S, M3, O)) rfl rfl mt_55 rfl rfl (by omega) (X_m_stepOn (Nat.le_refl _) _ _ _ hx2) (Ex_st (st2 := []) rfl ?_)
    exact Ex_mono (L := [some (.ref 1000), none, some (.int x2), none]) (Le_s (Le_n (Le_s (Le_n (Le_0))))) (X_m_readNet_297 hd _ _ _ _ hF) (Nat.le_refl _) (by omega)
  · rw [if_neg hc] at hF
    exact Ex_mono (L := [some (.ref 1000), none, some (.int x2), none]) (Le_s (Le_n (Le_s (Le_n (Le_0))))) (X_m_readNet_297 hd _ _ _ _ hF) (Nat.le_refl _) (by omega)
def F_m_readNet_222 (x2 : Int32) (M : Sto) : Option (Unit × Sto) := ck (ib x2 16) (ck (ib x2 16) (b1 (F_m_is 3015 (ui (ui M 1005 (upd (ai M 1005) (Int32.toNatClampNeg x2) (0 : Int32))) 1006 (upd (ai (ui M 1005 (upd (ai M 1005) (Int32.toNatClampNeg x2) (0 : Int32))) 1006) (Int32.toNatClampNeg x2) (0 : Int32)))) (fun r3 => if r3 = 0 then F_m_readNet_316 (ui (ui M 1005 (upd (ai M 1005) (Int32.toNatClampNeg x2) (0 : Int32))) 1006 (upd (ai (ui M 1005 (upd (ai M 1005) (Int32.toNatClampNeg x2) (0 : Int32))) 1006) (Int32.toNatClampNeg x2) (0 : Int32))) else b2 (F_m_stepOn (ui (ui M 1005 (upd (ai M 1005) (Int32.toNatClampNeg x2) (0 : Int32))) 1006 (upd (ai (ui M 1005 (upd (ai M 1005) (Int32.toNatClampNeg x2) (0 : Int32))) 1006) (Int32.toNatClampNeg x2) (0 : Int32)))) (fun r5 M7 => b2 (F_m_readNumber (1 : Int32) (9999 : Int32) M7) (fun r8 M10 => ck (ib x2 16) (if (gi (ui M10 1005 (upd (ai M10 1005) (Int32.toNatClampNeg x2) r8)) 1010) = 0 then b1 (F_m_is 3016 (ui M10 1005 (upd (ai M10 1005) (Int32.toNatClampNeg x2) r8))) (fun r12 => if r12 = 0 then b2 (F_m_wrong (1 : Int32) (ui M10 1005 (upd (ai M10 1005) (Int32.toNatClampNeg x2) r8))) (fun r14 M16 => F_m_readNet_286 x2 M16) else F_m_readNet_286 x2 (ui M10 1005 (upd (ai M10 1005) (Int32.toNatClampNeg x2) r8))) else F_m_readNet_286 x2 (ui M10 1005 (upd (ai M10 1005) (Int32.toNatClampNeg x2) r8))))))))
set_option maxRecDepth 100000 in
theorem X_m_readNet_222 {nL : Nat} {xs : Nat → Int32} {S : Sto} {O : Sto} {d : Nat} (hd : 8 ≤ d) : ∀ (x2 : Int32) (M : Sto) (r : Unit) (M' : Sto), F_m_readNet_222 x2 M = some (r, M') → EX nL xs 0 MI_62 d 222 [some (.ref 1000), none, some (.int x2), none] [] (S, M, O) (.inl none) (S, M', O) := by
  intro x2 M r M' hF
  unfold F_m_readNet_222 at hF
  refine Ex_go 4 (pc' := 228) (L' := [some (.ref 1000), none, some (.int x2), none]) (st' := [.int (0 : Int32), .int x2, .ref 1005]) (σ' := (S, M, O)) (rfl) ?_
  obtain ⟨hc1, hF⟩ := ck_i hF
  refine Ex_chk (b := ib x2 16) (pc' := 229) (L' := [some (.ref 1000), none, some (.int x2), none]) (st' := []) (σ' := (S, (ui M 1005 (upd (ai M 1005) (Int32.toNatClampNeg x2) (0 : Int32))), O)) rfl hc1 ?_
  refine Ex_go 4 (pc' := 235) (L' := [some (.ref 1000), none, some (.int x2), none]) (st' := [.int (0 : Int32), .int x2, .ref 1006]) (σ' := (S, (ui M 1005 (upd (ai M 1005) (Int32.toNatClampNeg x2) (0 : Int32))), O)) (rfl) ?_
  obtain ⟨hc2, hF⟩ := ck_i hF
  refine Ex_chk (b := ib x2 16) (pc' := 236) (L' := [some (.ref 1000), none, some (.int x2), none]) (st' := []) (σ' := (S, (ui (ui M 1005 (upd (ai M 1005) (Int32.toNatClampNeg x2) (0 : Int32))) 1006 (upd (ai (ui M 1005 (upd (ai M 1005) (Int32.toNatClampNeg x2) (0 : Int32))) 1006) (Int32.toNatClampNeg x2) (0 : Int32))), O)) rfl hc2 ?_
  refine Ex_go 2 (pc' := 240) (L' := [some (.ref 1000), none, some (.int x2), none]) (st' := [.ref 3015, .ref 1000]) (σ' := (S, (ui (ui M 1005 (upd (ai M 1005) (Int32.toNatClampNeg x2) (0 : Int32))) 1006 (upd (ai (ui M 1005 (upd (ai M 1005) (Int32.toNatClampNeg x2) (0 : Int32))) 1006) (Int32.toNatClampNeg x2) (0 : Int32))), O)) (rfl) ?_
  obtain ⟨r3, hx4, hF⟩ := b1_i hF
  refine Ex_call (kind := 2) (y := 56) (as := [.ref 1000, .ref 3015]) (rest := []) (L0 := [some (.ref 1000), some (.ref 3015), none, none]) (d' := 6) (v := some (.int r3)) (σ1 := (S, (ui (ui M 1005 (upd (ai M 1005) (Int32.toNatClampNeg x2) (0 : Int32))) 1006 (upd (ai (ui M 1005 (upd (ai M 1005) (Int32.toNatClampNeg x2) (0 : Int32))) 1006) (Int32.toNatClampNeg x2) (0 : Int32))), O)) rfl rfl mt_56 rfl rfl (by omega) (X_m_is (Nat.le_refl _) _ _ _ (by decide) hx4) (Ex_st (st2 := [.int r3]) rfl ?_)
  refine Ex_go 1 (pc' := if r3 = 0 then 316 else 246) (L' := [some (.ref 1000), none, some (.int x2), none]) (st' := []) (σ' := (S, (ui (ui M 1005 (upd (ai M 1005) (Int32.toNatClampNeg x2) (0 : Int32))) 1006 (upd (ai (ui M 1005 (upd (ai M 1005) (Int32.toNatClampNeg x2) (0 : Int32))) 1006) (Int32.toNatClampNeg x2) (0 : Int32))), O)) (rfl) ?_
  refine Ex_br (fun hc => ?_) (fun hc => ?_)
  · rw [if_pos hc] at hF
    exact Ex_mono (L := [some (.ref 1000), none, none, none]) (Le_s (Le_n (Le_n (Le_n (Le_0))))) (X_m_readNet_316 hd _ _ _ hF) (Nat.le_refl _) (by omega)
  · rw [if_neg hc] at hF
    refine Ex_go 1 (pc' := 247) (L' := [some (.ref 1000), none, some (.int x2), none]) (st' := [.ref 1000]) (σ' := (S, (ui (ui M 1005 (upd (ai M 1005) (Int32.toNatClampNeg x2) (0 : Int32))) 1006 (upd (ai (ui M 1005 (upd (ai M 1005) (Int32.toNatClampNeg x2) (0 : Int32))) 1006) (Int32.toNatClampNeg x2) (0 : Int32))), O)) (rfl) ?_
    obtain ⟨r5, M7, hx6, hF⟩ := b2_i hF
    refine Ex_call (kind := 2) (y := 55) (as := [.ref 1000]) (rest := []) (L0 := [some (.ref 1000), none]) (d' := 6) (v := none) (σ1 := (S, M7, O)) rfl rfl mt_55 rfl rfl (by omega) (X_m_stepOn (Nat.le_refl _) _ _ _ hx6) (Ex_st (st2 := []) rfl ?_)
    refine Ex_go 6 (pc' := 260) (L' := [some (.ref 1000), none, some (.int x2), none]) (st' := [.int (9999 : Int32), .int (1 : Int32), .ref 1000, .int x2, .ref 1005]) (σ' := (S, M7, O)) (rfl) ?_
    obtain ⟨r8, M10, hx9, hF⟩ := b2_i hF
    refine Ex_call (kind := 2) (y := 60) (as := [.ref 1000, .int (1 : Int32), .int (9999 : Int32)]) (rest := [.int x2, .ref 1005]) (L0 := [some (.ref 1000), some (.int (1 : Int32)), some (.int (9999 : Int32)), none]) (d' := 7) (v := some (.int r8)) (σ1 := (S, M10, O)) rfl rfl mt_60 rfl rfl (by omega) (X_m_readNumber (Nat.le_refl _) _ _ _ _ _ hx9) (Ex_st (st2 := [.int r8, .int x2, .ref 1005]) rfl ?_)
    obtain ⟨hc11, hF⟩ := ck_i hF
    refine Ex_chk (b := ib x2 16) (pc' := 264) (L' := [some (.ref 1000), none, some (.int x2), none]) (st' := []) (σ' := (S, (ui M10 1005 (upd (ai M10 1005) (Int32.toNatClampNeg x2) r8)), O)) rfl hc11 ?_
    refine Ex_go 3 (pc' := if ¬ (gi (ui M10 1005 (upd (ai M10 1005) (Int32.toNatClampNeg x2) r8)) 1010) = 0 then 286 else 271) (L' := [some (.ref 1000), none, some (.int x2), none]) (st' := []) (σ' := (S, (ui M10 1005 (upd (ai M10 1005) (Int32.toNatClampNeg x2) r8)), O)) (rfl) ?_
    refine Ex_brN (fun hc => ?_) (fun hc => ?_)
    · rw [if_pos hc] at hF
      refine Ex_go 2 (pc' := 275) (L' := [some (.ref 1000), none, some (.int x2), none]) (st' := [.ref 3016, .ref 1000]) (σ' := (S, (ui M10 1005 (upd (ai M10 1005) (Int32.toNatClampNeg x2) r8)), O)) (rfl) ?_
      obtain ⟨r12, hx13, hF⟩ := b1_i hF
      refine Ex_call (kind := 2) (y := 56) (as := [.ref 1000, .ref 3016]) (rest := []) (L0 := [some (.ref 1000), some (.ref 3016), none, none]) (d' := 6) (v := some (.int r12)) (σ1 := (S, (ui M10 1005 (upd (ai M10 1005) (Int32.toNatClampNeg x2) r8)), O)) rfl rfl mt_56 rfl rfl (by omega) (X_m_is (Nat.le_refl _) _ _ _ (by decide) hx13) (Ex_st (st2 := [.int r12]) rfl ?_)
      refine Ex_go 1 (pc' := if ¬ r12 = 0 then 286 else 281) (L' := [some (.ref 1000), none, some (.int x2), none]) (st' := []) (σ' := (S, (ui M10 1005 (upd (ai M10 1005) (Int32.toNatClampNeg x2) r8)), O)) (rfl) ?_
      refine Ex_brN (fun hc => ?_) (fun hc => ?_)
      · rw [if_pos hc] at hF
        refine Ex_go 2 (pc' := 283) (L' := [some (.ref 1000), none, some (.int x2), none]) (st' := [.int (1 : Int32), .ref 1000]) (σ' := (S, (ui M10 1005 (upd (ai M10 1005) (Int32.toNatClampNeg x2) r8)), O)) (rfl) ?_
        obtain ⟨r14, M16, hx15, hF⟩ := b2_i hF
        refine Ex_call (kind := 2) (y := 58) (as := [.ref 1000, .int (1 : Int32)]) (rest := []) (L0 := [some (.ref 1000), some (.int (1 : Int32))]) (d' := 1) (v := none) (σ1 := (S, M16, O)) rfl rfl mt_58 rfl rfl (by omega) (X_m_wrong (Nat.le_refl _) _ _ _ _ hx15) (Ex_st (st2 := []) rfl ?_)
        exact Ex_mono (L := [some (.ref 1000), none, some (.int x2), none]) (Le_s (Le_n (Le_s (Le_n (Le_0))))) (X_m_readNet_286 hd _ _ _ _ hF) (Nat.le_refl _) (by omega)
      · rw [if_neg hc] at hF
        exact Ex_mono (L := [some (.ref 1000), none, some (.int x2), none]) (Le_s (Le_n (Le_s (Le_n (Le_0))))) (X_m_readNet_286 hd _ _ _ _ hF) (Nat.le_refl _) (by omega)
    · rw [if_neg hc] at hF
      exact Ex_mono (L := [some (.ref 1000), none, some (.int x2), none]) (Le_s (Le_n (Le_s (Le_n (Le_0))))) (X_m_readNet_286 hd _ _ _ _ hF) (Nat.le_refl _) (by omega)
def F_m_readNet_16 (x1 : Int32) (M : Sto) : Option (Unit × Sto) := if (gi M 1010) = 0 then b2 (F_m_stepOn M) (fun r1 M3 => ck (ib ((8 : Int32) + (ai M3 1003 (Int32.toNatClampNeg (3 : Int32)))) 16) (if x1 = 0 then b2 (F_m_readNumber (2 : Int32) (999 : Int32) (ui M3 1004 (upd (ai M3 1004) (Int32.toNatClampNeg ((8 : Int32) + (ai M3 1003 (Int32.toNatClampNeg (3 : Int32))))) x1))) (fun r31 M33 => ck (ib ((8 : Int32) + (ai M3 1003 (Int32.toNatClampNeg (3 : Int32)))) 16) (ck (ib ((8 : Int32) + (ai M3 1003 (Int32.toNatClampNeg (3 : Int32)))) 16) (b2 (F_m_readNumber (0 : Int32) ((Int64.toInt32 (al (ul M33 1009 (vp_updL (al M33 1009) (Int32.toNatClampNeg ((8 : Int32) + (ai M3 1003 (Int32.toNatClampNeg (3 : Int32))))) (Int32.toInt64 r31))) 1009 (Int32.toNatClampNeg ((8 : Int32) + (ai M3 1003 (Int32.toNatClampNeg (3 : Int32))))))) - (1 : Int32)) (ul M33 1009 (vp_updL (al M33 1009) (Int32.toNatClampNeg ((8 : Int32) + (ai M3 1003 (Int32.toNatClampNeg (3 : Int32))))) (Int32.toInt64 r31)))) (fun r36 M38 => ck (ib ((8 : Int32) + (ai M3 1003 (Int32.toNatClampNeg (3 : Int32)))) 16) (F_m_readNet_222 ((8 : Int32) + (ai M3 1003 (Int32.toNatClampNeg (3 : Int32)))) (ul M38 1010 (vp_updL (al M38 1010) (Int32.toNatClampNeg ((8 : Int32) + (ai M3 1003 (Int32.toNatClampNeg (3 : Int32))))) (Int32.toInt64 r36)))))))) else if x1 = (1 : Int32) then b2 (F_m_readNumber (0 : Int32) (20 : Int32) (ui M3 1004 (upd (ai M3 1004) (Int32.toNatClampNeg ((8 : Int32) + (ai M3 1003 (Int32.toNatClampNeg (3 : Int32))))) x1))) (fun r26 M28 => ck (ib ((8 : Int32) + (ai M3 1003 (Int32.toNatClampNeg (3 : Int32)))) 16) (ck (ib ((8 : Int32) + (ai M3 1003 (Int32.toNatClampNeg (3 : Int32)))) 16) (F_m_readNet_222 ((8 : Int32) + (ai M3 1003 (Int32.toNatClampNeg (3 : Int32)))) (ul (ul M28 1009 (vp_updL (al M28 1009) (Int32.toNatClampNeg ((8 : Int32) + (ai M3 1003 (Int32.toNatClampNeg (3 : Int32))))) ((2 : Int64) <<< (Int32.toInt64 r26 &&& 63)))) 1010 (vp_updL (al (ul M28 1009 (vp_updL (al M28 1009) (Int32.toNatClampNeg ((8 : Int32) + (ai M3 1003 (Int32.toNatClampNeg (3 : Int32))))) ((2 : Int64) <<< (Int32.toInt64 r26 &&& 63)))) 1010) (Int32.toNatClampNeg ((8 : Int32) + (ai M3 1003 (Int32.toNatClampNeg (3 : Int32))))) ((1 : Int64) <<< (Int32.toInt64 r26 &&& 63))))))) else if x1 = (2 : Int32) then b2 (F_m_readNumber (1 : Int32) (4 : Int32) (ui M3 1004 (upd (ai M3 1004) (Int32.toNatClampNeg ((8 : Int32) + (ai M3 1003 (Int32.toNatClampNeg (3 : Int32))))) x1))) (fun r15 M17 => b1 (F_m_tens r15) (fun r18 => ck (ib ((8 : Int32) + (ai M3 1003 (Int32.toNatClampNeg (3 : Int32)))) 16) (ck (ib ((8 : Int32) + (ai M3 1003 (Int32.toNatClampNeg (3 : Int32)))) 16) (b2 (F_m_readNumber (0 : Int32) ((Int64.toInt32 (al (ul M17 1009 (vp_updL (al M17 1009) (Int32.toNatClampNeg ((8 : Int32) + (ai M3 1003 (Int32.toNatClampNeg (3 : Int32))))) (Int32.toInt64 r18))) 1009 (Int32.toNatClampNeg ((8 : Int32) + (ai M3 1003 (Int32.toNatClampNeg (3 : Int32))))))) - (1 : Int32)) (ul M17 1009 (vp_updL (al M17 1009) (Int32.toNatClampNeg ((8 : Int32) + (ai M3 1003 (Int32.toNatClampNeg (3 : Int32))))) (Int32.toInt64 r18)))) (fun r22 M24 => ck (ib ((8 : Int32) + (ai M3 1003 (Int32.toNatClampNeg (3 : Int32)))) 16) (F_m_readNet_222 ((8 : Int32) + (ai M3 1003 (Int32.toNatClampNeg (3 : Int32)))) (ul M24 1010 (vp_updL (al M24 1010) (Int32.toNatClampNeg ((8 : Int32) + (ai M3 1003 (Int32.toNatClampNeg (3 : Int32))))) (Int32.toInt64 r22))))))))) else if x1 = (3 : Int32) then ck (ib ((8 : Int32) + (ai M3 1003 (Int32.toNatClampNeg (3 : Int32)))) 16) (b2 (F_m_readNumber (0 : Int32) (6 : Int32) (ul (ui M3 1004 (upd (ai M3 1004) (Int32.toNatClampNeg ((8 : Int32) + (ai M3 1003 (Int32.toNatClampNeg (3 : Int32))))) x1)) 1009 (vp_updL (al (ui M3 1004 (upd (ai M3 1004) (Int32.toNatClampNeg ((8 : Int32) + (ai M3 1003 (Int32.toNatClampNeg (3 : Int32))))) x1)) 1009) (Int32.toNatClampNeg ((8 : Int32) + (ai M3 1003 (Int32.toNatClampNeg (3 : Int32))))) (7 : Int64)))) (fun r11 M13 => ck (ib ((8 : Int32) + (ai M3 1003 (Int32.toNatClampNeg (3 : Int32)))) 16) (F_m_readNet_222 ((8 : Int32) + (ai M3 1003 (Int32.toNatClampNeg (3 : Int32)))) (ul M13 1010 (vp_updL (al M13 1010) (Int32.toNatClampNeg ((8 : Int32) + (ai M3 1003 (Int32.toNatClampNeg (3 : Int32))))) (Int32.toInt64 r11)))))) else b2 (F_m_readNumber (2 : Int32) (999 : Int32) (ui M3 1004 (upd (ai M3 1004) (Int32.toNatClampNeg ((8 : Int32) + (ai M3 1003 (Int32.toNatClampNeg (3 : Int32))))) x1))) (fun r5 M7 => ck (ib ((8 : Int32) + (ai M3 1003 (Int32.toNatClampNeg (3 : Int32)))) 16) (ck (ib ((8 : Int32) + (ai M3 1003 (Int32.toNatClampNeg (3 : Int32)))) 16) (F_m_readNet_222 ((8 : Int32) + (ai M3 1003 (Int32.toNatClampNeg (3 : Int32)))) (ul (ul M7 1009 (vp_updL (al M7 1009) (Int32.toNatClampNeg ((8 : Int32) + (ai M3 1003 (Int32.toNatClampNeg (3 : Int32))))) (Int32.toInt64 r5))) 1010 (vp_updL (al (ul M7 1009 (vp_updL (al M7 1009) (Int32.toNatClampNeg ((8 : Int32) + (ai M3 1003 (Int32.toNatClampNeg (3 : Int32))))) (Int32.toInt64 r5))) 1010) (Int32.toNatClampNeg ((8 : Int32) + (ai M3 1003 (Int32.toNatClampNeg (3 : Int32))))) (0 : Int64)))))))) else some ((), M)
set_option maxRecDepth 100000 in
theorem X_m_readNet_16 {nL : Nat} {xs : Nat → Int32} {S : Sto} {O : Sto} {d : Nat} (hd : 8 ≤ d) : ∀ (x1 : Int32) (M : Sto) (r : Unit) (M' : Sto), F_m_readNet_16 x1 M = some (r, M') → EX nL xs 0 MI_62 d 16 [some (.ref 1000), some (.int x1), none, none] [] (S, M, O) (.inl none) (S, M', O) := by
  intro x1 M r M' hF
  unfold F_m_readNet_16 at hF
  refine Ex_go 3 (pc' := if (gi M 1010) = 0 then 24 else 23) (L' := [some (.ref 1000), some (.int x1), none, none]) (st' := []) (σ' := (S, M, O)) (rfl) ?_
  refine Ex_br (fun hc => ?_) (fun hc => ?_)
  · rw [if_pos hc] at hF
    refine Ex_go 1 (pc' := 25) (L' := [some (.ref 1000), some (.int x1), none, none]) (st' := [.ref 1000]) (σ' := (S, M, O)) (rfl) ?_
    obtain ⟨r1, M3, hx2, hF⟩ := b2_i hF
    refine Ex_call (kind := 2) (y := 55) (as := [.ref 1000]) (rest := []) (L0 := [some (.ref 1000), none]) (d' := 6) (v := none) (σ1 := (S, M3, O)) rfl rfl mt_55 rfl rfl (by omega) (X_m_stepOn (Nat.le_refl _) _ _ _ hx2) (Ex_st (st2 := []) rfl ?_)
    refine Ex_go 4 (pc' := 35) (L' := [some (.ref 1000), some (.int x1), none, none]) (st' := [.int (3 : Int32), .ref 1003, .int (8 : Int32)]) (σ' := (S, M3, O)) (rfl) ?_
    refine Ex_chk (b := ib (3 : Int32) 6) (pc' := 36) (L' := [some (.ref 1000), some (.int x1), none, none]) (st' := [.int (ai M3 1003 (Int32.toNatClampNeg (3 : Int32))), .int (8 : Int32)]) (σ' := (S, M3, O)) rfl (by decide) ?_
    refine Ex_go 6 (pc' := 44) (L' := [some (.ref 1000), some (.int x1), some (.int ((8 : Int32) + (ai M3 1003 (Int32.toNatClampNeg (3 : Int32))))), none]) (st' := [.int x1, .int ((8 : Int32) + (ai M3 1003 (Int32.toNatClampNeg (3 : Int32)))), .ref 1004]) (σ' := (S, M3, O)) (rfl) ?_
    obtain ⟨hc4, hF⟩ := ck_i hF
    refine Ex_chk (b := ib ((8 : Int32) + (ai M3 1003 (Int32.toNatClampNeg (3 : Int32)))) 16) (pc' := 45) (L' := [some (.ref 1000), some (.int x1), some (.int ((8 : Int32) + (ai M3 1003 (Int32.toNatClampNeg (3 : Int32))))), none]) (st' := []) (σ' := (S, (ui M3 1004 (upd (ai M3 1004) (Int32.toNatClampNeg ((8 : Int32) + (ai M3 1003 (Int32.toNatClampNeg (3 : Int32))))) x1)), O)) rfl hc4 ?_
    refine Ex_go 2 (pc' := if ¬ x1 = 0 then 88 else 49) (L' := [some (.ref 1000), some (.int x1), some (.int ((8 : Int32) + (ai M3 1003 (Int32.toNatClampNeg (3 : Int32))))), none]) (st' := []) (σ' := (S, (ui M3 1004 (upd (ai M3 1004) (Int32.toNatClampNeg ((8 : Int32) + (ai M3 1003 (Int32.toNatClampNeg (3 : Int32))))) x1)), O)) (rfl) ?_
    refine Ex_brN (fun hc => ?_) (fun hc => ?_)
    · rw [if_pos hc] at hF
      refine Ex_go 6 (pc' := 59) (L' := [some (.ref 1000), some (.int x1), some (.int ((8 : Int32) + (ai M3 1003 (Int32.toNatClampNeg (3 : Int32))))), none]) (st' := [.int (999 : Int32), .int (2 : Int32), .ref 1000, .int ((8 : Int32) + (ai M3 1003 (Int32.toNatClampNeg (3 : Int32)))), .ref 1009]) (σ' := (S, (ui M3 1004 (upd (ai M3 1004) (Int32.toNatClampNeg ((8 : Int32) + (ai M3 1003 (Int32.toNatClampNeg (3 : Int32))))) x1)), O)) (rfl) ?_
      obtain ⟨r31, M33, hx32, hF⟩ := b2_i hF
      refine Ex_call (kind := 2) (y := 60) (as := [.ref 1000, .int (2 : Int32), .int (999 : Int32)]) (rest := [.int ((8 : Int32) + (ai M3 1003 (Int32.toNatClampNeg (3 : Int32)))), .ref 1009]) (L0 := [some (.ref 1000), some (.int (2 : Int32)), some (.int (999 : Int32)), none]) (d' := 7) (v := some (.int r31)) (σ1 := (S, M33, O)) rfl rfl mt_60 rfl rfl (by omega) (X_m_readNumber (Nat.le_refl _) _ _ _ _ _ hx32) (Ex_st (st2 := [.int r31, .int ((8 : Int32) + (ai M3 1003 (Int32.toNatClampNeg (3 : Int32)))), .ref 1009]) rfl ?_)
      refine Ex_go 1 (pc' := 63) (L' := [some (.ref 1000), some (.int x1), some (.int ((8 : Int32) + (ai M3 1003 (Int32.toNatClampNeg (3 : Int32))))), none]) (st' := [.long (Int32.toInt64 r31), .int ((8 : Int32) + (ai M3 1003 (Int32.toNatClampNeg (3 : Int32)))), .ref 1009]) (σ' := (S, M33, O)) (rfl) ?_
      obtain ⟨hc34, hF⟩ := ck_i hF
      refine Ex_chk (b := ib ((8 : Int32) + (ai M3 1003 (Int32.toNatClampNeg (3 : Int32)))) 16) (pc' := 64) (L' := [some (.ref 1000), some (.int x1), some (.int ((8 : Int32) + (ai M3 1003 (Int32.toNatClampNeg (3 : Int32))))), none]) (st' := []) (σ' := (S, (ul M33 1009 (vp_updL (al M33 1009) (Int32.toNatClampNeg ((8 : Int32) + (ai M3 1003 (Int32.toNatClampNeg (3 : Int32))))) (Int32.toInt64 r31))), O)) rfl hc34 ?_
      refine Ex_go 8 (pc' := 76) (L' := [some (.ref 1000), some (.int x1), some (.int ((8 : Int32) + (ai M3 1003 (Int32.toNatClampNeg (3 : Int32))))), none]) (st' := [.int ((8 : Int32) + (ai M3 1003 (Int32.toNatClampNeg (3 : Int32)))), .ref 1009, .int (0 : Int32), .ref 1000, .int ((8 : Int32) + (ai M3 1003 (Int32.toNatClampNeg (3 : Int32)))), .ref 1010]) (σ' := (S, (ul M33 1009 (vp_updL (al M33 1009) (Int32.toNatClampNeg ((8 : Int32) + (ai M3 1003 (Int32.toNatClampNeg (3 : Int32))))) (Int32.toInt64 r31))), O)) (rfl) ?_
      obtain ⟨hc35, hF⟩ := ck_i hF
      refine Ex_chk (b := ib ((8 : Int32) + (ai M3 1003 (Int32.toNatClampNeg (3 : Int32)))) 16) (pc' := 77) (L' := [some (.ref 1000), some (.int x1), some (.int ((8 : Int32) + (ai M3 1003 (Int32.toNatClampNeg (3 : Int32))))), none]) (st' := [.long (al (ul M33 1009 (vp_updL (al M33 1009) (Int32.toNatClampNeg ((8 : Int32) + (ai M3 1003 (Int32.toNatClampNeg (3 : Int32))))) (Int32.toInt64 r31))) 1009 (Int32.toNatClampNeg ((8 : Int32) + (ai M3 1003 (Int32.toNatClampNeg (3 : Int32)))))), .int (0 : Int32), .ref 1000, .int ((8 : Int32) + (ai M3 1003 (Int32.toNatClampNeg (3 : Int32)))), .ref 1010]) (σ' := (S, (ul M33 1009 (vp_updL (al M33 1009) (Int32.toNatClampNeg ((8 : Int32) + (ai M3 1003 (Int32.toNatClampNeg (3 : Int32))))) (Int32.toInt64 r31))), O)) rfl hc35 ?_
      refine Ex_go 3 (pc' := 80) (L' := [some (.ref 1000), some (.int x1), some (.int ((8 : Int32) + (ai M3 1003 (Int32.toNatClampNeg (3 : Int32))))), none]) (st' := [.int ((Int64.toInt32 (al (ul M33 1009 (vp_updL (al M33 1009) (Int32.toNatClampNeg ((8 : Int32) + (ai M3 1003 (Int32.toNatClampNeg (3 : Int32))))) (Int32.toInt64 r31))) 1009 (Int32.toNatClampNeg ((8 : Int32) + (ai M3 1003 (Int32.toNatClampNeg (3 : Int32))))))) - (1 : Int32)), .int (0 : Int32), .ref 1000, .int ((8 : Int32) + (ai M3 1003 (Int32.toNatClampNeg (3 : Int32)))), .ref 1010]) (σ' := (S, (ul M33 1009 (vp_updL (al M33 1009) (Int32.toNatClampNeg ((8 : Int32) + (ai M3 1003 (Int32.toNatClampNeg (3 : Int32))))) (Int32.toInt64 r31))), O)) (rfl) ?_
      obtain ⟨r36, M38, hx37, hF⟩ := b2_i hF
      refine Ex_call (kind := 2) (y := 60) (as := [.ref 1000, .int (0 : Int32), .int ((Int64.toInt32 (al (ul M33 1009 (vp_updL (al M33 1009) (Int32.toNatClampNeg ((8 : Int32) + (ai M3 1003 (Int32.toNatClampNeg (3 : Int32))))) (Int32.toInt64 r31))) 1009 (Int32.toNatClampNeg ((8 : Int32) + (ai M3 1003 (Int32.toNatClampNeg (3 : Int32))))))) - (1 : Int32))]) (rest := [.int ((8 : Int32) + (ai M3 1003 (Int32.toNatClampNeg (3 : Int32)))), .ref 1010]) (L0 := [some (.ref 1000), some (.int (0 : Int32)), some (.int ((Int64.toInt32 (al (ul M33 1009 (vp_updL (al M33 1009) (Int32.toNatClampNeg ((8 : Int32) + (ai M3 1003 (Int32.toNatClampNeg (3 : Int32))))) (Int32.toInt64 r31))) 1009 (Int32.toNatClampNeg ((8 : Int32) + (ai M3 1003 (Int32.toNatClampNeg (3 : Int32))))))) - (1 : Int32))), none]) (d' := 7) (v := some (.int r36)) (σ1 := (S, M38, O)) rfl rfl mt_60 rfl rfl (by omega) (X_m_readNumber (Nat.le_refl _) _ _ _ _ _ hx37) (Ex_st (st2 := [.int r36, .int ((8 : Int32) + (ai M3 1003 (Int32.toNatClampNeg (3 : Int32)))), .ref 1010]) rfl ?_)
      refine Ex_go 1 (pc' := 84) (L' := [some (.ref 1000), some (.int x1), some (.int ((8 : Int32) + (ai M3 1003 (Int32.toNatClampNeg (3 : Int32))))), none]) (st' := [.long (Int32.toInt64 r36), .int ((8 : Int32) + (ai M3 1003 (Int32.toNatClampNeg (3 : Int32)))), .ref 1010]) (σ' := (S, M38, O)) (rfl) ?_
      obtain ⟨hc39, hF⟩ := ck_i hF
      refine Ex_chk (b := ib ((8 : Int32) + (ai M3 1003 (Int32.toNatClampNeg (3 : Int32)))) 16) (pc' := 85) (L' := [some (.ref 1000), some (.int x1), some (.int ((8 : Int32) + (ai M3 1003 (Int32.toNatClampNeg (3 : Int32))))), none]) (st' := []) (σ' := (S, (ul M38 1010 (vp_updL (al M38 1010) (Int32.toNatClampNeg ((8 : Int32) + (ai M3 1003 (Int32.toNatClampNeg (3 : Int32))))) (Int32.toInt64 r36))), O)) rfl hc39 ?_
      refine Ex_go 1 (pc' := 222) (L' := [some (.ref 1000), some (.int x1), some (.int ((8 : Int32) + (ai M3 1003 (Int32.toNatClampNeg (3 : Int32))))), none]) (st' := []) (σ' := (S, (ul M38 1010 (vp_updL (al M38 1010) (Int32.toNatClampNeg ((8 : Int32) + (ai M3 1003 (Int32.toNatClampNeg (3 : Int32))))) (Int32.toInt64 r36))), O)) (rfl) ?_
      exact Ex_mono (L := [some (.ref 1000), none, some (.int ((8 : Int32) + (ai M3 1003 (Int32.toNatClampNeg (3 : Int32))))), none]) (Le_s (Le_n (Le_s (Le_n (Le_0))))) (X_m_readNet_222 hd _ _ _ _ hF) (Nat.le_refl _) (by omega)
    · rw [if_neg hc] at hF
      refine Ex_go 3 (pc' := if ¬ x1 = (1 : Int32) then 124 else 93) (L' := [some (.ref 1000), some (.int x1), some (.int ((8 : Int32) + (ai M3 1003 (Int32.toNatClampNeg (3 : Int32))))), none]) (st' := []) (σ' := (S, (ui M3 1004 (upd (ai M3 1004) (Int32.toNatClampNeg ((8 : Int32) + (ai M3 1003 (Int32.toNatClampNeg (3 : Int32))))) x1)), O)) (rfl) ?_
      refine Ex_brN (fun hc => ?_) (fun hc => ?_)
      · rw [if_pos hc] at hF
        refine Ex_go 3 (pc' := 97) (L' := [some (.ref 1000), some (.int x1), some (.int ((8 : Int32) + (ai M3 1003 (Int32.toNatClampNeg (3 : Int32))))), none]) (st' := [.int (20 : Int32), .int (0 : Int32), .ref 1000]) (σ' := (S, (ui M3 1004 (upd (ai M3 1004) (Int32.toNatClampNeg ((8 : Int32) + (ai M3 1003 (Int32.toNatClampNeg (3 : Int32))))) x1)), O)) (rfl) ?_
        obtain ⟨r26, M28, hx27, hF⟩ := b2_i hF
        refine Ex_call (kind := 2) (y := 60) (as := [.ref 1000, .int (0 : Int32), .int (20 : Int32)]) (rest := []) (L0 := [some (.ref 1000), some (.int (0 : Int32)), some (.int (20 : Int32)), none]) (d' := 7) (v := some (.int r26)) (σ1 := (S, M28, O)) rfl rfl mt_60 rfl rfl (by omega) (X_m_readNumber (Nat.le_refl _) _ _ _ _ _ hx27) (Ex_st (st2 := [.int r26]) rfl ?_)
        refine Ex_go 7 (pc' := 111) (L' := [some (.ref 1000), some (.int x1), some (.int ((8 : Int32) + (ai M3 1003 (Int32.toNatClampNeg (3 : Int32))))), some (.int r26)]) (st' := [.long ((2 : Int64) <<< (Int32.toInt64 r26 &&& 63)), .int ((8 : Int32) + (ai M3 1003 (Int32.toNatClampNeg (3 : Int32)))), .ref 1009]) (σ' := (S, M28, O)) (rfl) ?_
        obtain ⟨hc29, hF⟩ := ck_i hF
        refine Ex_chk (b := ib ((8 : Int32) + (ai M3 1003 (Int32.toNatClampNeg (3 : Int32)))) 16) (pc' := 112) (L' := [some (.ref 1000), some (.int x1), some (.int ((8 : Int32) + (ai M3 1003 (Int32.toNatClampNeg (3 : Int32))))), some (.int r26)]) (st' := []) (σ' := (S, (ul M28 1009 (vp_updL (al M28 1009) (Int32.toNatClampNeg ((8 : Int32) + (ai M3 1003 (Int32.toNatClampNeg (3 : Int32))))) ((2 : Int64) <<< (Int32.toInt64 r26 &&& 63)))), O)) rfl hc29 ?_
        refine Ex_go 6 (pc' := 120) (L' := [some (.ref 1000), some (.int x1), some (.int ((8 : Int32) + (ai M3 1003 (Int32.toNatClampNeg (3 : Int32))))), some (.int r26)]) (st' := [.long ((1 : Int64) <<< (Int32.toInt64 r26 &&& 63)), .int ((8 : Int32) + (ai M3 1003 (Int32.toNatClampNeg (3 : Int32)))), .ref 1010]) (σ' := (S, (ul M28 1009 (vp_updL (al M28 1009) (Int32.toNatClampNeg ((8 : Int32) + (ai M3 1003 (Int32.toNatClampNeg (3 : Int32))))) ((2 : Int64) <<< (Int32.toInt64 r26 &&& 63)))), O)) (rfl) ?_
        obtain ⟨hc30, hF⟩ := ck_i hF
        refine Ex_chk (b := ib ((8 : Int32) + (ai M3 1003 (Int32.toNatClampNeg (3 : Int32)))) 16) (pc' := 121) (L' := [some (.ref 1000), some (.int x1), some (.int ((8 : Int32) + (ai M3 1003 (Int32.toNatClampNeg (3 : Int32))))), some (.int r26)]) (st' := []) (σ' := (S, (ul (ul M28 1009 (vp_updL (al M28 1009) (Int32.toNatClampNeg ((8 : Int32) + (ai M3 1003 (Int32.toNatClampNeg (3 : Int32))))) ((2 : Int64) <<< (Int32.toInt64 r26 &&& 63)))) 1010 (vp_updL (al (ul M28 1009 (vp_updL (al M28 1009) (Int32.toNatClampNeg ((8 : Int32) + (ai M3 1003 (Int32.toNatClampNeg (3 : Int32))))) ((2 : Int64) <<< (Int32.toInt64 r26 &&& 63)))) 1010) (Int32.toNatClampNeg ((8 : Int32) + (ai M3 1003 (Int32.toNatClampNeg (3 : Int32))))) ((1 : Int64) <<< (Int32.toInt64 r26 &&& 63)))), O)) rfl hc30 ?_
        refine Ex_go 1 (pc' := 222) (L' := [some (.ref 1000), some (.int x1), some (.int ((8 : Int32) + (ai M3 1003 (Int32.toNatClampNeg (3 : Int32))))), some (.int r26)]) (st' := []) (σ' := (S, (ul (ul M28 1009 (vp_updL (al M28 1009) (Int32.toNatClampNeg ((8 : Int32) + (ai M3 1003 (Int32.toNatClampNeg (3 : Int32))))) ((2 : Int64) <<< (Int32.toInt64 r26 &&& 63)))) 1010 (vp_updL (al (ul M28 1009 (vp_updL (al M28 1009) (Int32.toNatClampNeg ((8 : Int32) + (ai M3 1003 (Int32.toNatClampNeg (3 : Int32))))) ((2 : Int64) <<< (Int32.toInt64 r26 &&& 63)))) 1010) (Int32.toNatClampNeg ((8 : Int32) + (ai M3 1003 (Int32.toNatClampNeg (3 : Int32))))) ((1 : Int64) <<< (Int32.toInt64 r26 &&& 63)))), O)) (rfl) ?_
        exact Ex_mono (L := [some (.ref 1000), none, some (.int ((8 : Int32) + (ai M3 1003 (Int32.toNatClampNeg (3 : Int32))))), none]) (Le_s (Le_n (Le_s (Le_n (Le_0))))) (X_m_readNet_222 hd _ _ _ _ hF) (Nat.le_refl _) (by omega)
      · rw [if_neg hc] at hF
        refine Ex_go 3 (pc' := if ¬ x1 = (2 : Int32) then 169 else 129) (L' := [some (.ref 1000), some (.int x1), some (.int ((8 : Int32) + (ai M3 1003 (Int32.toNatClampNeg (3 : Int32))))), none]) (st' := []) (σ' := (S, (ui M3 1004 (upd (ai M3 1004) (Int32.toNatClampNeg ((8 : Int32) + (ai M3 1003 (Int32.toNatClampNeg (3 : Int32))))) x1)), O)) (rfl) ?_
        refine Ex_brN (fun hc => ?_) (fun hc => ?_)
        · rw [if_pos hc] at hF
          refine Ex_go 6 (pc' := 137) (L' := [some (.ref 1000), some (.int x1), some (.int ((8 : Int32) + (ai M3 1003 (Int32.toNatClampNeg (3 : Int32))))), none]) (st' := [.int (4 : Int32), .int (1 : Int32), .ref 1000, .int ((8 : Int32) + (ai M3 1003 (Int32.toNatClampNeg (3 : Int32)))), .ref 1009]) (σ' := (S, (ui M3 1004 (upd (ai M3 1004) (Int32.toNatClampNeg ((8 : Int32) + (ai M3 1003 (Int32.toNatClampNeg (3 : Int32))))) x1)), O)) (rfl) ?_
          obtain ⟨r15, M17, hx16, hF⟩ := b2_i hF
          refine Ex_call (kind := 2) (y := 60) (as := [.ref 1000, .int (1 : Int32), .int (4 : Int32)]) (rest := [.int ((8 : Int32) + (ai M3 1003 (Int32.toNatClampNeg (3 : Int32)))), .ref 1009]) (L0 := [some (.ref 1000), some (.int (1 : Int32)), some (.int (4 : Int32)), none]) (d' := 7) (v := some (.int r15)) (σ1 := (S, M17, O)) rfl rfl mt_60 rfl rfl (by omega) (X_m_readNumber (Nat.le_refl _) _ _ _ _ _ hx16) (Ex_st (st2 := [.int r15, .int ((8 : Int32) + (ai M3 1003 (Int32.toNatClampNeg (3 : Int32)))), .ref 1009]) rfl ?_)
          obtain ⟨r18, hx19, hF⟩ := b1_i hF
          refine Ex_call (kind := 0) (y := 61) (as := [.int r15]) (rest := [.int ((8 : Int32) + (ai M3 1003 (Int32.toNatClampNeg (3 : Int32)))), .ref 1009]) (L0 := [some (.int r15), none, none]) (d' := 1) (v := some (.int r18)) (σ1 := (S, M17, O)) rfl rfl mt_61 rfl rfl (by omega) (X_m_tens (Nat.le_refl _) _ _ hx19) (Ex_st (st2 := [.int r18, .int ((8 : Int32) + (ai M3 1003 (Int32.toNatClampNeg (3 : Int32)))), .ref 1009]) rfl ?_)
          refine Ex_go 1 (pc' := 144) (L' := [some (.ref 1000), some (.int x1), some (.int ((8 : Int32) + (ai M3 1003 (Int32.toNatClampNeg (3 : Int32))))), none]) (st' := [.long (Int32.toInt64 r18), .int ((8 : Int32) + (ai M3 1003 (Int32.toNatClampNeg (3 : Int32)))), .ref 1009]) (σ' := (S, M17, O)) (rfl) ?_
          obtain ⟨hc20, hF⟩ := ck_i hF
          refine Ex_chk (b := ib ((8 : Int32) + (ai M3 1003 (Int32.toNatClampNeg (3 : Int32)))) 16) (pc' := 145) (L' := [some (.ref 1000), some (.int x1), some (.int ((8 : Int32) + (ai M3 1003 (Int32.toNatClampNeg (3 : Int32))))), none]) (st' := []) (σ' := (S, (ul M17 1009 (vp_updL (al M17 1009) (Int32.toNatClampNeg ((8 : Int32) + (ai M3 1003 (Int32.toNatClampNeg (3 : Int32))))) (Int32.toInt64 r18))), O)) rfl hc20 ?_
          refine Ex_go 8 (pc' := 157) (L' := [some (.ref 1000), some (.int x1), some (.int ((8 : Int32) + (ai M3 1003 (Int32.toNatClampNeg (3 : Int32))))), none]) (st' := [.int ((8 : Int32) + (ai M3 1003 (Int32.toNatClampNeg (3 : Int32)))), .ref 1009, .int (0 : Int32), .ref 1000, .int ((8 : Int32) + (ai M3 1003 (Int32.toNatClampNeg (3 : Int32)))), .ref 1010]) (σ' := (S, (ul M17 1009 (vp_updL (al M17 1009) (Int32.toNatClampNeg ((8 : Int32) + (ai M3 1003 (Int32.toNatClampNeg (3 : Int32))))) (Int32.toInt64 r18))), O)) (rfl) ?_
          obtain ⟨hc21, hF⟩ := ck_i hF
          refine Ex_chk (b := ib ((8 : Int32) + (ai M3 1003 (Int32.toNatClampNeg (3 : Int32)))) 16) (pc' := 158) (L' := [some (.ref 1000), some (.int x1), some (.int ((8 : Int32) + (ai M3 1003 (Int32.toNatClampNeg (3 : Int32))))), none]) (st' := [.long (al (ul M17 1009 (vp_updL (al M17 1009) (Int32.toNatClampNeg ((8 : Int32) + (ai M3 1003 (Int32.toNatClampNeg (3 : Int32))))) (Int32.toInt64 r18))) 1009 (Int32.toNatClampNeg ((8 : Int32) + (ai M3 1003 (Int32.toNatClampNeg (3 : Int32)))))), .int (0 : Int32), .ref 1000, .int ((8 : Int32) + (ai M3 1003 (Int32.toNatClampNeg (3 : Int32)))), .ref 1010]) (σ' := (S, (ul M17 1009 (vp_updL (al M17 1009) (Int32.toNatClampNeg ((8 : Int32) + (ai M3 1003 (Int32.toNatClampNeg (3 : Int32))))) (Int32.toInt64 r18))), O)) rfl hc21 ?_
          refine Ex_go 3 (pc' := 161) (L' := [some (.ref 1000), some (.int x1), some (.int ((8 : Int32) + (ai M3 1003 (Int32.toNatClampNeg (3 : Int32))))), none]) (st' := [.int ((Int64.toInt32 (al (ul M17 1009 (vp_updL (al M17 1009) (Int32.toNatClampNeg ((8 : Int32) + (ai M3 1003 (Int32.toNatClampNeg (3 : Int32))))) (Int32.toInt64 r18))) 1009 (Int32.toNatClampNeg ((8 : Int32) + (ai M3 1003 (Int32.toNatClampNeg (3 : Int32))))))) - (1 : Int32)), .int (0 : Int32), .ref 1000, .int ((8 : Int32) + (ai M3 1003 (Int32.toNatClampNeg (3 : Int32)))), .ref 1010]) (σ' := (S, (ul M17 1009 (vp_updL (al M17 1009) (Int32.toNatClampNeg ((8 : Int32) + (ai M3 1003 (Int32.toNatClampNeg (3 : Int32))))) (Int32.toInt64 r18))), O)) (rfl) ?_
          obtain ⟨r22, M24, hx23, hF⟩ := b2_i hF
          refine Ex_call (kind := 2) (y := 60) (as := [.ref 1000, .int (0 : Int32), .int ((Int64.toInt32 (al (ul M17 1009 (vp_updL (al M17 1009) (Int32.toNatClampNeg ((8 : Int32) + (ai M3 1003 (Int32.toNatClampNeg (3 : Int32))))) (Int32.toInt64 r18))) 1009 (Int32.toNatClampNeg ((8 : Int32) + (ai M3 1003 (Int32.toNatClampNeg (3 : Int32))))))) - (1 : Int32))]) (rest := [.int ((8 : Int32) + (ai M3 1003 (Int32.toNatClampNeg (3 : Int32)))), .ref 1010]) (L0 := [some (.ref 1000), some (.int (0 : Int32)), some (.int ((Int64.toInt32 (al (ul M17 1009 (vp_updL (al M17 1009) (Int32.toNatClampNeg ((8 : Int32) + (ai M3 1003 (Int32.toNatClampNeg (3 : Int32))))) (Int32.toInt64 r18))) 1009 (Int32.toNatClampNeg ((8 : Int32) + (ai M3 1003 (Int32.toNatClampNeg (3 : Int32))))))) - (1 : Int32))), none]) (d' := 7) (v := some (.int r22)) (σ1 := (S, M24, O)) rfl rfl mt_60 rfl rfl (by omega) (X_m_readNumber (Nat.le_refl _) _ _ _ _ _ hx23) (Ex_st (st2 := [.int r22, .int ((8 : Int32) + (ai M3 1003 (Int32.toNatClampNeg (3 : Int32)))), .ref 1010]) rfl ?_)
          refine Ex_go 1 (pc' := 165) (L' := [some (.ref 1000), some (.int x1), some (.int ((8 : Int32) + (ai M3 1003 (Int32.toNatClampNeg (3 : Int32))))), none]) (st' := [.long (Int32.toInt64 r22), .int ((8 : Int32) + (ai M3 1003 (Int32.toNatClampNeg (3 : Int32)))), .ref 1010]) (σ' := (S, M24, O)) (rfl) ?_
          obtain ⟨hc25, hF⟩ := ck_i hF
          refine Ex_chk (b := ib ((8 : Int32) + (ai M3 1003 (Int32.toNatClampNeg (3 : Int32)))) 16) (pc' := 166) (L' := [some (.ref 1000), some (.int x1), some (.int ((8 : Int32) + (ai M3 1003 (Int32.toNatClampNeg (3 : Int32))))), none]) (st' := []) (σ' := (S, (ul M24 1010 (vp_updL (al M24 1010) (Int32.toNatClampNeg ((8 : Int32) + (ai M3 1003 (Int32.toNatClampNeg (3 : Int32))))) (Int32.toInt64 r22))), O)) rfl hc25 ?_
          refine Ex_go 1 (pc' := 222) (L' := [some (.ref 1000), some (.int x1), some (.int ((8 : Int32) + (ai M3 1003 (Int32.toNatClampNeg (3 : Int32))))), none]) (st' := []) (σ' := (S, (ul M24 1010 (vp_updL (al M24 1010) (Int32.toNatClampNeg ((8 : Int32) + (ai M3 1003 (Int32.toNatClampNeg (3 : Int32))))) (Int32.toInt64 r22))), O)) (rfl) ?_
          exact Ex_mono (L := [some (.ref 1000), none, some (.int ((8 : Int32) + (ai M3 1003 (Int32.toNatClampNeg (3 : Int32))))), none]) (Le_s (Le_n (Le_s (Le_n (Le_0))))) (X_m_readNet_222 hd _ _ _ _ hF) (Nat.le_refl _) (by omega)
        · rw [if_neg hc] at hF
          refine Ex_go 3 (pc' := if ¬ x1 = (3 : Int32) then 200 else 174) (L' := [some (.ref 1000), some (.int x1), some (.int ((8 : Int32) + (ai M3 1003 (Int32.toNatClampNeg (3 : Int32))))), none]) (st' := []) (σ' := (S, (ui M3 1004 (upd (ai M3 1004) (Int32.toNatClampNeg ((8 : Int32) + (ai M3 1003 (Int32.toNatClampNeg (3 : Int32))))) x1)), O)) (rfl) ?_
          refine Ex_brN (fun hc => ?_) (fun hc => ?_)
          · rw [if_pos hc] at hF
            refine Ex_go 4 (pc' := 182) (L' := [some (.ref 1000), some (.int x1), some (.int ((8 : Int32) + (ai M3 1003 (Int32.toNatClampNeg (3 : Int32))))), none]) (st' := [.long (7 : Int64), .int ((8 : Int32) + (ai M3 1003 (Int32.toNatClampNeg (3 : Int32)))), .ref 1009]) (σ' := (S, (ui M3 1004 (upd (ai M3 1004) (Int32.toNatClampNeg ((8 : Int32) + (ai M3 1003 (Int32.toNatClampNeg (3 : Int32))))) x1)), O)) (rfl) ?_
            obtain ⟨hc10, hF⟩ := ck_i hF
            refine Ex_chk (b := ib ((8 : Int32) + (ai M3 1003 (Int32.toNatClampNeg (3 : Int32)))) 16) (pc' := 183) (L' := [some (.ref 1000), some (.int x1), some (.int ((8 : Int32) + (ai M3 1003 (Int32.toNatClampNeg (3 : Int32))))), none]) (st' := []) (σ' := (S, (ul (ui M3 1004 (upd (ai M3 1004) (Int32.toNatClampNeg ((8 : Int32) + (ai M3 1003 (Int32.toNatClampNeg (3 : Int32))))) x1)) 1009 (vp_updL (al (ui M3 1004 (upd (ai M3 1004) (Int32.toNatClampNeg ((8 : Int32) + (ai M3 1003 (Int32.toNatClampNeg (3 : Int32))))) x1)) 1009) (Int32.toNatClampNeg ((8 : Int32) + (ai M3 1003 (Int32.toNatClampNeg (3 : Int32))))) (7 : Int64))), O)) rfl hc10 ?_
            refine Ex_go 6 (pc' := 192) (L' := [some (.ref 1000), some (.int x1), some (.int ((8 : Int32) + (ai M3 1003 (Int32.toNatClampNeg (3 : Int32))))), none]) (st' := [.int (6 : Int32), .int (0 : Int32), .ref 1000, .int ((8 : Int32) + (ai M3 1003 (Int32.toNatClampNeg (3 : Int32)))), .ref 1010]) (σ' := (S, (ul (ui M3 1004 (upd (ai M3 1004) (Int32.toNatClampNeg ((8 : Int32) + (ai M3 1003 (Int32.toNatClampNeg (3 : Int32))))) x1)) 1009 (vp_updL (al (ui M3 1004 (upd (ai M3 1004) (Int32.toNatClampNeg ((8 : Int32) + (ai M3 1003 (Int32.toNatClampNeg (3 : Int32))))) x1)) 1009) (Int32.toNatClampNeg ((8 : Int32) + (ai M3 1003 (Int32.toNatClampNeg (3 : Int32))))) (7 : Int64))), O)) (rfl) ?_
            obtain ⟨r11, M13, hx12, hF⟩ := b2_i hF
            refine Ex_call (kind := 2) (y := 60) (as := [.ref 1000, .int (0 : Int32), .int (6 : Int32)]) (rest := [.int ((8 : Int32) + (ai M3 1003 (Int32.toNatClampNeg (3 : Int32)))), .ref 1010]) (L0 := [some (.ref 1000), some (.int (0 : Int32)), some (.int (6 : Int32)), none]) (d' := 7) (v := some (.int r11)) (σ1 := (S, M13, O)) rfl rfl mt_60 rfl rfl (by omega) (X_m_readNumber (Nat.le_refl _) _ _ _ _ _ hx12) (Ex_st (st2 := [.int r11, .int ((8 : Int32) + (ai M3 1003 (Int32.toNatClampNeg (3 : Int32)))), .ref 1010]) rfl ?_)
            refine Ex_go 1 (pc' := 196) (L' := [some (.ref 1000), some (.int x1), some (.int ((8 : Int32) + (ai M3 1003 (Int32.toNatClampNeg (3 : Int32))))), none]) (st' := [.long (Int32.toInt64 r11), .int ((8 : Int32) + (ai M3 1003 (Int32.toNatClampNeg (3 : Int32)))), .ref 1010]) (σ' := (S, M13, O)) (rfl) ?_
            obtain ⟨hc14, hF⟩ := ck_i hF
            refine Ex_chk (b := ib ((8 : Int32) + (ai M3 1003 (Int32.toNatClampNeg (3 : Int32)))) 16) (pc' := 197) (L' := [some (.ref 1000), some (.int x1), some (.int ((8 : Int32) + (ai M3 1003 (Int32.toNatClampNeg (3 : Int32))))), none]) (st' := []) (σ' := (S, (ul M13 1010 (vp_updL (al M13 1010) (Int32.toNatClampNeg ((8 : Int32) + (ai M3 1003 (Int32.toNatClampNeg (3 : Int32))))) (Int32.toInt64 r11))), O)) rfl hc14 ?_
            refine Ex_go 1 (pc' := 222) (L' := [some (.ref 1000), some (.int x1), some (.int ((8 : Int32) + (ai M3 1003 (Int32.toNatClampNeg (3 : Int32))))), none]) (st' := []) (σ' := (S, (ul M13 1010 (vp_updL (al M13 1010) (Int32.toNatClampNeg ((8 : Int32) + (ai M3 1003 (Int32.toNatClampNeg (3 : Int32))))) (Int32.toInt64 r11))), O)) (rfl) ?_
            exact Ex_mono (L := [some (.ref 1000), none, some (.int ((8 : Int32) + (ai M3 1003 (Int32.toNatClampNeg (3 : Int32))))), none]) (Le_s (Le_n (Le_s (Le_n (Le_0))))) (X_m_readNet_222 hd _ _ _ _ hF) (Nat.le_refl _) (by omega)
          · rw [if_neg hc] at hF
            refine Ex_go 6 (pc' := 210) (L' := [some (.ref 1000), some (.int x1), some (.int ((8 : Int32) + (ai M3 1003 (Int32.toNatClampNeg (3 : Int32))))), none]) (st' := [.int (999 : Int32), .int (2 : Int32), .ref 1000, .int ((8 : Int32) + (ai M3 1003 (Int32.toNatClampNeg (3 : Int32)))), .ref 1009]) (σ' := (S, (ui M3 1004 (upd (ai M3 1004) (Int32.toNatClampNeg ((8 : Int32) + (ai M3 1003 (Int32.toNatClampNeg (3 : Int32))))) x1)), O)) (rfl) ?_
            obtain ⟨r5, M7, hx6, hF⟩ := b2_i hF
            refine Ex_call (kind := 2) (y := 60) (as := [.ref 1000, .int (2 : Int32), .int (999 : Int32)]) (rest := [.int ((8 : Int32) + (ai M3 1003 (Int32.toNatClampNeg (3 : Int32)))), .ref 1009]) (L0 := [some (.ref 1000), some (.int (2 : Int32)), some (.int (999 : Int32)), none]) (d' := 7) (v := some (.int r5)) (σ1 := (S, M7, O)) rfl rfl mt_60 rfl rfl (by omega) (X_m_readNumber (Nat.le_refl _) _ _ _ _ _ hx6) (Ex_st (st2 := [.int r5, .int ((8 : Int32) + (ai M3 1003 (Int32.toNatClampNeg (3 : Int32)))), .ref 1009]) rfl ?_)
            refine Ex_go 1 (pc' := 214) (L' := [some (.ref 1000), some (.int x1), some (.int ((8 : Int32) + (ai M3 1003 (Int32.toNatClampNeg (3 : Int32))))), none]) (st' := [.long (Int32.toInt64 r5), .int ((8 : Int32) + (ai M3 1003 (Int32.toNatClampNeg (3 : Int32)))), .ref 1009]) (σ' := (S, M7, O)) (rfl) ?_
            obtain ⟨hc8, hF⟩ := ck_i hF
            refine Ex_chk (b := ib ((8 : Int32) + (ai M3 1003 (Int32.toNatClampNeg (3 : Int32)))) 16) (pc' := 215) (L' := [some (.ref 1000), some (.int x1), some (.int ((8 : Int32) + (ai M3 1003 (Int32.toNatClampNeg (3 : Int32))))), none]) (st' := []) (σ' := (S, (ul M7 1009 (vp_updL (al M7 1009) (Int32.toNatClampNeg ((8 : Int32) + (ai M3 1003 (Int32.toNatClampNeg (3 : Int32))))) (Int32.toInt64 r5))), O)) rfl hc8 ?_
            refine Ex_go 4 (pc' := 221) (L' := [some (.ref 1000), some (.int x1), some (.int ((8 : Int32) + (ai M3 1003 (Int32.toNatClampNeg (3 : Int32))))), none]) (st' := [.long (0 : Int64), .int ((8 : Int32) + (ai M3 1003 (Int32.toNatClampNeg (3 : Int32)))), .ref 1010]) (σ' := (S, (ul M7 1009 (vp_updL (al M7 1009) (Int32.toNatClampNeg ((8 : Int32) + (ai M3 1003 (Int32.toNatClampNeg (3 : Int32))))) (Int32.toInt64 r5))), O)) (rfl) ?_
            obtain ⟨hc9, hF⟩ := ck_i hF
            refine Ex_chk (b := ib ((8 : Int32) + (ai M3 1003 (Int32.toNatClampNeg (3 : Int32)))) 16) (pc' := 222) (L' := [some (.ref 1000), some (.int x1), some (.int ((8 : Int32) + (ai M3 1003 (Int32.toNatClampNeg (3 : Int32))))), none]) (st' := []) (σ' := (S, (ul (ul M7 1009 (vp_updL (al M7 1009) (Int32.toNatClampNeg ((8 : Int32) + (ai M3 1003 (Int32.toNatClampNeg (3 : Int32))))) (Int32.toInt64 r5))) 1010 (vp_updL (al (ul M7 1009 (vp_updL (al M7 1009) (Int32.toNatClampNeg ((8 : Int32) + (ai M3 1003 (Int32.toNatClampNeg (3 : Int32))))) (Int32.toInt64 r5))) 1010) (Int32.toNatClampNeg ((8 : Int32) + (ai M3 1003 (Int32.toNatClampNeg (3 : Int32))))) (0 : Int64))), O)) rfl hc9 ?_
            exact Ex_mono (L := [some (.ref 1000), none, some (.int ((8 : Int32) + (ai M3 1003 (Int32.toNatClampNeg (3 : Int32))))), none]) (Le_s (Le_n (Le_s (Le_n (Le_0))))) (X_m_readNet_222 hd _ _ _ _ hF) (Nat.le_refl _) (by omega)
  · rw [if_neg hc] at hF
    cases hF
    exact Ex_fin rfl
def F_m_readNet (x1 : Int32) (M : Sto) : Option (Unit × Sto) := if (ai M 1003 (Int32.toNatClampNeg (3 : Int32))) = (8 : Int32) then b2 (F_m_wrong (2 : Int32) M) (fun r1 M3 => F_m_readNet_16 x1 M3) else F_m_readNet_16 x1 M
set_option maxRecDepth 100000 in
theorem X_m_readNet {nL : Nat} {xs : Nat → Int32} {S : Sto} {O : Sto} {d : Nat} (hd : 8 ≤ d) : ∀ (x1 : Int32) (M : Sto) (r : Unit) (M' : Sto), F_m_readNet x1 M = some (r, M') → EX nL xs 0 MI_62 d 0 [some (.ref 1000), some (.int x1), none, none] [] (S, M, O) (.inl none) (S, M', O) := by
  intro x1 M r M' hF
  unfold F_m_readNet at hF
  refine Ex_go 3 (pc' := 5) (L' := [some (.ref 1000), some (.int x1), none, none]) (st' := [.int (3 : Int32), .ref 1003]) (σ' := (S, M, O)) (rfl) ?_
  refine Ex_chk (b := ib (3 : Int32) 6) (pc' := 6) (L' := [some (.ref 1000), some (.int x1), none, none]) (st' := [.int (ai M 1003 (Int32.toNatClampNeg (3 : Int32)))]) (σ' := (S, M, O)) rfl (by decide) ?_
  refine Ex_go 2 (pc' := if ¬ (ai M 1003 (Int32.toNatClampNeg (3 : Int32))) = (8 : Int32) then 16 else 11) (L' := [some (.ref 1000), some (.int x1), none, none]) (st' := []) (σ' := (S, M, O)) (rfl) ?_
  refine Ex_brN (fun hc => ?_) (fun hc => ?_)
  · rw [if_pos hc] at hF
    refine Ex_go 2 (pc' := 13) (L' := [some (.ref 1000), some (.int x1), none, none]) (st' := [.int (2 : Int32), .ref 1000]) (σ' := (S, M, O)) (rfl) ?_
    obtain ⟨r1, M3, hx2, hF⟩ := b2_i hF
    refine Ex_call (kind := 2) (y := 58) (as := [.ref 1000, .int (2 : Int32)]) (rest := []) (L0 := [some (.ref 1000), some (.int (2 : Int32))]) (d' := 1) (v := none) (σ1 := (S, M3, O)) rfl rfl mt_58 rfl rfl (by omega) (X_m_wrong (Nat.le_refl _) _ _ _ _ hx2) (Ex_st (st2 := []) rfl ?_)
    exact Ex_mono (L := [some (.ref 1000), some (.int x1), none, none]) (Le_s (Le_s (Le_n (Le_n (Le_0))))) (X_m_readNet_16 hd _ _ _ _ hF) (Nat.le_refl _) (by omega)
  · rw [if_neg hc] at hF
    exact Ex_mono (L := [some (.ref 1000), some (.int x1), none, none]) (Le_s (Le_s (Le_n (Le_n (Le_0))))) (X_m_readNet_16 hd _ _ _ _ hF) (Nat.le_refl _) (by omega)
def F_m_readLine_156 (x1 : Int32) (x2 : Int32) (M : Sto) : Option (Int32 × Sto) := b2 (F_m_mark (59 : Int32) M) (fun r1 M3 => some ((x1 ||| x2), M3))
set_option maxRecDepth 100000 in
theorem X_m_readLine_156 {nL : Nat} {xs : Nat → Int32} {S : Sto} {O : Sto} {d : Nat} (hd : 81 ≤ d) : ∀ (x1 : Int32) (x2 : Int32) (M : Sto) (r : Int32) (M' : Sto), F_m_readLine_156 x1 x2 M = some (r, M') → EX nL xs 0 MI_73 d 156 [some (.ref 1000), some (.int x1), some (.int x2), none] [] (S, M, O) (.inl (some (.int r))) (S, M', O) := by
  intro x1 x2 M r M' hF
  unfold F_m_readLine_156 at hF
  refine Ex_go 2 (pc' := 159) (L' := [some (.ref 1000), some (.int x1), some (.int x2), none]) (st' := [.int (59 : Int32), .ref 1000]) (σ' := (S, M, O)) (rfl) ?_
  obtain ⟨r1, M3, hx2, hF⟩ := b2_i hF
  refine Ex_call (kind := 2) (y := 66) (as := [.ref 1000, .int (59 : Int32)]) (rest := []) (L0 := [some (.ref 1000), some (.int (59 : Int32))]) (d' := 7) (v := none) (σ1 := (S, M3, O)) rfl rfl mt_66 rfl rfl (by omega) (X_m_mark (Nat.le_refl _) _ _ _ _ hx2) (Ex_st (st2 := []) rfl ?_)
  refine Ex_go 3 (pc' := 165) (L' := [some (.ref 1000), some (.int x1), some (.int x2), none]) (st' := [.int (x1 ||| x2)]) (σ' := (S, M3, O)) (rfl) ?_
  cases hF
  exact Ex_fin rfl
def F_m_readLine_146 (x1 : Int32) (x2 : Int32) (M : Sto) : Option (Int32 × Sto) := if x2 = (4 : Int32) then b2 (F_m_readExpression 12 (0 : Int32) M) (fun r1 M3 => F_m_readLine_156 x1 x2 M3) else F_m_readLine_156 x1 x2 M
set_option maxRecDepth 100000 in
theorem X_m_readLine_146 {nL : Nat} {xs : Nat → Int32} {S : Sto} {O : Sto} {d : Nat} (hd : 81 ≤ d) : ∀ (x1 : Int32) (x2 : Int32) (M : Sto) (r : Int32) (M' : Sto), F_m_readLine_146 x1 x2 M = some (r, M') → EX nL xs 0 MI_73 d 146 [some (.ref 1000), some (.int x1), some (.int x2), none] [] (S, M, O) (.inl (some (.int r))) (S, M', O) := by
  intro x1 x2 M r M' hF
  unfold F_m_readLine_146 at hF
  refine Ex_go 3 (pc' := if ¬ x2 = (4 : Int32) then 156 else 151) (L' := [some (.ref 1000), some (.int x1), some (.int x2), none]) (st' := []) (σ' := (S, M, O)) (rfl) ?_
  refine Ex_brN (fun hc => ?_) (fun hc => ?_)
  · rw [if_pos hc] at hF
    refine Ex_go 2 (pc' := 153) (L' := [some (.ref 1000), some (.int x1), some (.int x2), none]) (st' := [.int (0 : Int32), .ref 1000]) (σ' := (S, M, O)) (rfl) ?_
    obtain ⟨r1, M3, hx2, hF⟩ := b2_i hF
    refine Ex_call (kind := 2) (y := 72) (as := [.ref 1000, .int (0 : Int32)]) (rest := []) (L0 := [some (.ref 1000), some (.int (0 : Int32)), none]) (d' := 80) (v := none) (σ1 := (S, M3, O)) rfl rfl mt_72 rfl rfl (by omega) (X_m_readExpression 12 (Nat.le_refl _) _ _ _ _ hx2) (Ex_st (st2 := []) rfl ?_)
    exact Ex_mono (L := [some (.ref 1000), some (.int x1), some (.int x2), none]) (Le_s (Le_s (Le_s (Le_n (Le_0))))) (X_m_readLine_156 hd _ _ _ _ _ hF) (Nat.le_refl _) (by omega)
  · rw [if_neg hc] at hF
    exact Ex_mono (L := [some (.ref 1000), some (.int x1), some (.int x2), none]) (Le_s (Le_s (Le_s (Le_n (Le_0))))) (X_m_readLine_156 hd _ _ _ _ _ hF) (Nat.le_refl _) (by omega)
def F_m_readLine_128 (x1 : Int32) (x2 : Int32) (M : Sto) : Option (Int32 × Sto) := if x2 = (1 : Int32) then b2 (F_m_readNumber (2 : Int32) (60 : Int32) M) (fun r1 M3 => F_m_readLine_146 x1 x2 (ui M3 1003 (upd (ai M3 1003) (Int32.toNatClampNeg (4 : Int32)) r1))) else F_m_readLine_146 x1 x2 M
set_option maxRecDepth 100000 in
theorem X_m_readLine_128 {nL : Nat} {xs : Nat → Int32} {S : Sto} {O : Sto} {d : Nat} (hd : 81 ≤ d) : ∀ (x1 : Int32) (x2 : Int32) (M : Sto) (r : Int32) (M' : Sto), F_m_readLine_128 x1 x2 M = some (r, M') → EX nL xs 0 MI_73 d 128 [some (.ref 1000), some (.int x1), some (.int x2), none] [] (S, M, O) (.inl (some (.int r))) (S, M', O) := by
  intro x1 x2 M r M' hF
  unfold F_m_readLine_128 at hF
  refine Ex_go 3 (pc' := if ¬ x2 = (1 : Int32) then 146 else 133) (L' := [some (.ref 1000), some (.int x1), some (.int x2), none]) (st' := []) (σ' := (S, M, O)) (rfl) ?_
  refine Ex_brN (fun hc => ?_) (fun hc => ?_)
  · rw [if_pos hc] at hF
    refine Ex_go 6 (pc' := 142) (L' := [some (.ref 1000), some (.int x1), some (.int x2), none]) (st' := [.int (60 : Int32), .int (2 : Int32), .ref 1000, .int (4 : Int32), .ref 1003]) (σ' := (S, M, O)) (rfl) ?_
    obtain ⟨r1, M3, hx2, hF⟩ := b2_i hF
    refine Ex_call (kind := 2) (y := 60) (as := [.ref 1000, .int (2 : Int32), .int (60 : Int32)]) (rest := [.int (4 : Int32), .ref 1003]) (L0 := [some (.ref 1000), some (.int (2 : Int32)), some (.int (60 : Int32)), none]) (d' := 7) (v := some (.int r1)) (σ1 := (S, M3, O)) rfl rfl mt_60 rfl rfl (by omega) (X_m_readNumber (Nat.le_refl _) _ _ _ _ _ hx2) (Ex_st (st2 := [.int r1, .int (4 : Int32), .ref 1003]) rfl ?_)
    refine Ex_chk (b := ib (4 : Int32) 6) (pc' := 146) (L' := [some (.ref 1000), some (.int x1), some (.int x2), none]) (st' := []) (σ' := (S, (ui M3 1003 (upd (ai M3 1003) (Int32.toNatClampNeg (4 : Int32)) r1)), O)) rfl (by decide) ?_
    exact Ex_mono (L := [some (.ref 1000), some (.int x1), some (.int x2), none]) (Le_s (Le_s (Le_s (Le_n (Le_0))))) (X_m_readLine_146 hd _ _ _ _ _ hF) (Nat.le_refl _) (by omega)
  · rw [if_neg hc] at hF
    exact Ex_mono (L := [some (.ref 1000), some (.int x1), some (.int x2), none]) (Le_s (Le_s (Le_s (Le_n (Le_0))))) (X_m_readLine_146 hd _ _ _ _ _ hF) (Nat.le_refl _) (by omega)
def F_m_readLine_117 (x1 : Int32) (x2 : Int32) (M : Sto) : Option (Int32 × Sto) := if (gi M 1010) = 0 then b2 (F_m_stepOn M) (fun r1 M3 => F_m_readLine_128 x1 x2 M3) else F_m_readLine_128 x1 x2 M
set_option maxRecDepth 100000 in
theorem X_m_readLine_117 {nL : Nat} {xs : Nat → Int32} {S : Sto} {O : Sto} {d : Nat} (hd : 81 ≤ d) : ∀ (x1 : Int32) (x2 : Int32) (M : Sto) (r : Int32) (M' : Sto), F_m_readLine_117 x1 x2 M = some (r, M') → EX nL xs 0 MI_73 d 117 [some (.ref 1000), some (.int x1), some (.int x2), none] [] (S, M, O) (.inl (some (.int r))) (S, M', O) := by
  intro x1 x2 M r M' hF
  unfold F_m_readLine_117 at hF
  refine Ex_go 3 (pc' := if ¬ (gi M 1010) = 0 then 128 else 124) (L' := [some (.ref 1000), some (.int x1), some (.int x2), none]) (st' := []) (σ' := (S, M, O)) (rfl) ?_
  refine Ex_brN (fun hc => ?_) (fun hc => ?_)
  · rw [if_pos hc] at hF
    refine Ex_go 1 (pc' := 125) (L' := [some (.ref 1000), some (.int x1), some (.int x2), none]) (st' := [.ref 1000]) (σ' := (S, M, O)) (rfl) ?_
    obtain ⟨r1, M3, hx2, hF⟩ := b2_i hF
    refine Ex_call (kind := 2) (y := 55) (as := [.ref 1000]) (rest := []) (L0 := [some (.ref 1000), none]) (d' := 6) (v := none) (σ1 := (S, M3, O)) rfl rfl mt_55 rfl rfl (by omega) (X_m_stepOn (Nat.le_refl _) _ _ _ hx2) (Ex_st (st2 := []) rfl ?_)
    exact Ex_mono (L := [some (.ref 1000), some (.int x1), some (.int x2), none]) (Le_s (Le_s (Le_s (Le_n (Le_0))))) (X_m_readLine_128 hd _ _ _ _ _ hF) (Nat.le_refl _) (by omega)
  · rw [if_neg hc] at hF
    exact Ex_mono (L := [some (.ref 1000), some (.int x1), some (.int x2), none]) (Le_s (Le_s (Le_s (Le_n (Le_0))))) (X_m_readLine_128 hd _ _ _ _ _ hF) (Nat.le_refl _) (by omega)
def F_m_readLine_83 (x1 : Int32) (x2 : Int32) (x3 : Int32) (M : Sto) : Option (Int32 × Sto) := if x3 = (-1 : Int32) then if x2 = (2 : Int32) then b2 (F_m_readPond M) (fun r4 M6 => F_m_readLine_156 x1 x2 M6) else if x2 = 0 then b2 (F_m_wrong (1 : Int32) M) (fun r1 M3 => F_m_readLine_117 x1 x2 M3) else F_m_readLine_117 x1 x2 M else b2 (F_m_readNet x3 M) (fun r7 M9 => F_m_readLine_156 x1 x2 M9)
set_option maxRecDepth 100000 in
theorem X_m_readLine_83 {nL : Nat} {xs : Nat → Int32} {S : Sto} {O : Sto} {d : Nat} (hd : 81 ≤ d) : ∀ (x1 : Int32) (x2 : Int32) (x3 : Int32) (M : Sto) (r : Int32) (M' : Sto), F_m_readLine_83 x1 x2 x3 M = some (r, M') → EX nL xs 0 MI_73 d 83 [some (.ref 1000), some (.int x1), some (.int x2), some (.int x3)] [] (S, M, O) (.inl (some (.int r))) (S, M', O) := by
  intro x1 x2 x3 M r M' hF
  unfold F_m_readLine_83 at hF
  refine Ex_go 3 (pc' := if x3 = (-1 : Int32) then 96 else 88) (L' := [some (.ref 1000), some (.int x1), some (.int x2), some (.int x3)]) (st' := []) (σ' := (S, M, O)) (rfl) ?_
  refine Ex_br (fun hc => ?_) (fun hc => ?_)
  · rw [if_pos hc] at hF
    refine Ex_go 3 (pc' := if ¬ x2 = (2 : Int32) then 108 else 101) (L' := [some (.ref 1000), some (.int x1), some (.int x2), some (.int x3)]) (st' := []) (σ' := (S, M, O)) (rfl) ?_
    refine Ex_brN (fun hc => ?_) (fun hc => ?_)
    · rw [if_pos hc] at hF
      refine Ex_go 1 (pc' := 102) (L' := [some (.ref 1000), some (.int x1), some (.int x2), some (.int x3)]) (st' := [.ref 1000]) (σ' := (S, M, O)) (rfl) ?_
      obtain ⟨r4, M6, hx5, hF⟩ := b2_i hF
      refine Ex_call (kind := 2) (y := 63) (as := [.ref 1000]) (rest := []) (L0 := [some (.ref 1000), none]) (d' := 7) (v := none) (σ1 := (S, M6, O)) rfl rfl mt_63 rfl rfl (by omega) (X_m_readPond (Nat.le_refl _) _ _ _ hx5) (Ex_st (st2 := []) rfl ?_)
      refine Ex_go 1 (pc' := 156) (L' := [some (.ref 1000), some (.int x1), some (.int x2), some (.int x3)]) (st' := []) (σ' := (S, M6, O)) (rfl) ?_
      exact Ex_mono (L := [some (.ref 1000), some (.int x1), some (.int x2), none]) (Le_s (Le_s (Le_s (Le_n (Le_0))))) (X_m_readLine_156 hd _ _ _ _ _ hF) (Nat.le_refl _) (by omega)
    · rw [if_neg hc] at hF
      refine Ex_go 2 (pc' := if ¬ x2 = 0 then 117 else 112) (L' := [some (.ref 1000), some (.int x1), some (.int x2), some (.int x3)]) (st' := []) (σ' := (S, M, O)) (rfl) ?_
      refine Ex_brN (fun hc => ?_) (fun hc => ?_)
      · rw [if_pos hc] at hF
        refine Ex_go 2 (pc' := 114) (L' := [some (.ref 1000), some (.int x1), some (.int x2), some (.int x3)]) (st' := [.int (1 : Int32), .ref 1000]) (σ' := (S, M, O)) (rfl) ?_
        obtain ⟨r1, M3, hx2, hF⟩ := b2_i hF
        refine Ex_call (kind := 2) (y := 58) (as := [.ref 1000, .int (1 : Int32)]) (rest := []) (L0 := [some (.ref 1000), some (.int (1 : Int32))]) (d' := 1) (v := none) (σ1 := (S, M3, O)) rfl rfl mt_58 rfl rfl (by omega) (X_m_wrong (Nat.le_refl _) _ _ _ _ hx2) (Ex_st (st2 := []) rfl ?_)
        exact Ex_mono (L := [some (.ref 1000), some (.int x1), some (.int x2), none]) (Le_s (Le_s (Le_s (Le_n (Le_0))))) (X_m_readLine_117 hd _ _ _ _ _ hF) (Nat.le_refl _) (by omega)
      · rw [if_neg hc] at hF
        exact Ex_mono (L := [some (.ref 1000), some (.int x1), some (.int x2), none]) (Le_s (Le_s (Le_s (Le_n (Le_0))))) (X_m_readLine_117 hd _ _ _ _ _ hF) (Nat.le_refl _) (by omega)
  · rw [if_neg hc] at hF
    refine Ex_go 2 (pc' := 90) (L' := [some (.ref 1000), some (.int x1), some (.int x2), some (.int x3)]) (st' := [.int x3, .ref 1000]) (σ' := (S, M, O)) (rfl) ?_
    obtain ⟨r7, M9, hx8, hF⟩ := b2_i hF
    refine Ex_call (kind := 2) (y := 62) (as := [.ref 1000, .int x3]) (rest := []) (L0 := [some (.ref 1000), some (.int x3), none, none]) (d' := 8) (v := none) (σ1 := (S, M9, O)) rfl rfl mt_62 rfl rfl (by omega) (X_m_readNet (Nat.le_refl _) _ _ _ _ hx8) (Ex_st (st2 := []) rfl ?_)
    refine Ex_go 1 (pc' := 156) (L' := [some (.ref 1000), some (.int x1), some (.int x2), some (.int x3)]) (st' := []) (σ' := (S, M9, O)) (rfl) ?_
    exact Ex_mono (L := [some (.ref 1000), some (.int x1), some (.int x2), none]) (Le_s (Le_s (Le_s (Le_n (Le_0))))) (X_m_readLine_156 hd _ _ _ _ _ hF) (Nat.le_refl _) (by omega)
def F_m_readLine_66 (x1 : Int32) (x2 : Int32) (x3 : Int32) (M : Sto) : Option (Int32 × Sto) := if x2 = (1 : Int32) then if (x1 &&& (2 : Int32)) = 0 then F_m_readLine_83 x1 x2 x3 M else b2 (F_m_wrong (6 : Int32) M) (fun r1 M3 => F_m_readLine_83 x1 x2 x3 M3) else F_m_readLine_83 x1 x2 x3 M
set_option maxRecDepth 100000 in
theorem X_m_readLine_66 {nL : Nat} {xs : Nat → Int32} {S : Sto} {O : Sto} {d : Nat} (hd : 81 ≤ d) : ∀ (x1 : Int32) (x2 : Int32) (x3 : Int32) (M : Sto) (r : Int32) (M' : Sto), F_m_readLine_66 x1 x2 x3 M = some (r, M') → EX nL xs 0 MI_73 d 66 [some (.ref 1000), some (.int x1), some (.int x2), some (.int x3)] [] (S, M, O) (.inl (some (.int r))) (S, M', O) := by
  intro x1 x2 x3 M r M' hF
  unfold F_m_readLine_66 at hF
  refine Ex_go 3 (pc' := if ¬ x2 = (1 : Int32) then 83 else 71) (L' := [some (.ref 1000), some (.int x1), some (.int x2), some (.int x3)]) (st' := []) (σ' := (S, M, O)) (rfl) ?_
  refine Ex_brN (fun hc => ?_) (fun hc => ?_)
  · rw [if_pos hc] at hF
    refine Ex_go 4 (pc' := if (x1 &&& (2 : Int32)) = 0 then 83 else 77) (L' := [some (.ref 1000), some (.int x1), some (.int x2), some (.int x3)]) (st' := []) (σ' := (S, M, O)) (rfl) ?_
    refine Ex_br (fun hc => ?_) (fun hc => ?_)
    · rw [if_pos hc] at hF
      exact Ex_mono (L := [some (.ref 1000), some (.int x1), some (.int x2), some (.int x3)]) (Le_s (Le_s (Le_s (Le_s (Le_0))))) (X_m_readLine_83 hd _ _ _ _ _ _ hF) (Nat.le_refl _) (by omega)
    · rw [if_neg hc] at hF
      refine Ex_go 2 (pc' := 80) (L' := [some (.ref 1000), some (.int x1), some (.int x2), some (.int x3)]) (st' := [.int (6 : Int32), .ref 1000]) (σ' := (S, M, O)) (rfl) ?_
      obtain ⟨r1, M3, hx2, hF⟩ := b2_i hF
      refine Ex_call (kind := 2) (y := 58) (as := [.ref 1000, .int (6 : Int32)]) (rest := []) (L0 := [some (.ref 1000), some (.int (6 : Int32))]) (d' := 1) (v := none) (σ1 := (S, M3, O)) rfl rfl mt_58 rfl rfl (by omega) (X_m_wrong (Nat.le_refl _) _ _ _ _ hx2) (Ex_st (st2 := []) rfl ?_)
      exact Ex_mono (L := [some (.ref 1000), some (.int x1), some (.int x2), some (.int x3)]) (Le_s (Le_s (Le_s (Le_s (Le_0))))) (X_m_readLine_83 hd _ _ _ _ _ _ hF) (Nat.le_refl _) (by omega)
  · rw [if_neg hc] at hF
    exact Ex_mono (L := [some (.ref 1000), some (.int x1), some (.int x2), some (.int x3)]) (Le_s (Le_s (Le_s (Le_s (Le_0))))) (X_m_readLine_83 hd _ _ _ _ _ _ hF) (Nat.le_refl _) (by omega)
def F_m_readLine_43 (x1 : Int32) (s0 : Int32) (M : Sto) : Option (Int32 × Sto) := b1 (F_m_which_1000_1001 M) (fun r1 => if ((s0 &&& (5 : Int32)) &&& x1) = 0 then F_m_readLine_66 x1 s0 r1 M else b2 (F_m_wrong (5 : Int32) M) (fun r3 M5 => F_m_readLine_66 x1 s0 r1 M5))
set_option maxRecDepth 100000 in
theorem X_m_readLine_43 {nL : Nat} {xs : Nat → Int32} {S : Sto} {O : Sto} {d : Nat} (hd : 81 ≤ d) : ∀ (x1 : Int32) (s0 : Int32) (M : Sto) (r : Int32) (M' : Sto), F_m_readLine_43 x1 s0 M = some (r, M') → EX nL xs 0 MI_73 d 43 [some (.ref 1000), some (.int x1), none, none] [.int s0] (S, M, O) (.inl (some (.int r))) (S, M', O) := by
  intro x1 s0 M r M' hF
  unfold F_m_readLine_43 at hF
  refine Ex_go 4 (pc' := 49) (L' := [some (.ref 1000), some (.int x1), some (.int s0), none]) (st' := [.ref 1001, .ref 1000]) (σ' := (S, M, O)) (rfl) ?_
  obtain ⟨r1, hx2, hF⟩ := b1_i hF
  refine Ex_call (kind := 2) (y := 57) (as := [.ref 1000, .ref 1001]) (rest := []) (L0 := [some (.ref 1000), some (.ref 1001), none]) (d' := 7) (v := some (.int r1)) (σ1 := (S, M, O)) rfl rfl mt_57 rfl rfl (by omega) (X_m_which_1000_1001 (Nat.le_refl _) _ _ hx2) (Ex_st (st2 := [.int r1]) rfl ?_)
  refine Ex_go 7 (pc' := if ((s0 &&& (5 : Int32)) &&& x1) = 0 then 66 else 61) (L' := [some (.ref 1000), some (.int x1), some (.int s0), some (.int r1)]) (st' := []) (σ' := (S, M, O)) (rfl) ?_
  refine Ex_br (fun hc => ?_) (fun hc => ?_)
  · rw [if_pos hc] at hF
    exact Ex_mono (L := [some (.ref 1000), some (.int x1), some (.int s0), some (.int r1)]) (Le_s (Le_s (Le_s (Le_s (Le_0))))) (X_m_readLine_66 hd _ _ _ _ _ _ hF) (Nat.le_refl _) (by omega)
  · rw [if_neg hc] at hF
    refine Ex_go 2 (pc' := 63) (L' := [some (.ref 1000), some (.int x1), some (.int s0), some (.int r1)]) (st' := [.int (5 : Int32), .ref 1000]) (σ' := (S, M, O)) (rfl) ?_
    obtain ⟨r3, M5, hx4, hF⟩ := b2_i hF
    refine Ex_call (kind := 2) (y := 58) (as := [.ref 1000, .int (5 : Int32)]) (rest := []) (L0 := [some (.ref 1000), some (.int (5 : Int32))]) (d' := 1) (v := none) (σ1 := (S, M5, O)) rfl rfl mt_58 rfl rfl (by omega) (X_m_wrong (Nat.le_refl _) _ _ _ _ hx4) (Ex_st (st2 := []) rfl ?_)
    exact Ex_mono (L := [some (.ref 1000), some (.int x1), some (.int s0), some (.int r1)]) (Le_s (Le_s (Le_s (Le_s (Le_0))))) (X_m_readLine_66 hd _ _ _ _ _ _ hF) (Nat.le_refl _) (by omega)
def F_m_readLine (x1 : Int32) (M : Sto) : Option (Int32 × Sto) := b1 (F_m_is 3012 M) (fun r1 => if r1 = 0 then b1 (F_m_is 3013 M) (fun r3 => if r3 = 0 then b1 (F_m_is 3014 M) (fun r5 => if r5 = 0 then F_m_readLine_43 x1 (0 : Int32) M else F_m_readLine_43 x1 (4 : Int32) M) else F_m_readLine_43 x1 (2 : Int32) M) else F_m_readLine_43 x1 (1 : Int32) M)
set_option maxRecDepth 100000 in
theorem X_m_readLine {nL : Nat} {xs : Nat → Int32} {S : Sto} {O : Sto} {d : Nat} (hd : 81 ≤ d) : ∀ (x1 : Int32) (M : Sto) (r : Int32) (M' : Sto), F_m_readLine x1 M = some (r, M') → EX nL xs 0 MI_73 d 0 [some (.ref 1000), some (.int x1), none, none] [] (S, M, O) (.inl (some (.int r))) (S, M', O) := by
  intro x1 M r M' hF
  unfold F_m_readLine at hF
  refine Ex_go 2 (pc' := 4) (L' := [some (.ref 1000), some (.int x1), none, none]) (st' := [.ref 3012, .ref 1000]) (σ' := (S, M, O)) (rfl) ?_
  obtain ⟨r1, hx2, hF⟩ := b1_i hF
  refine Ex_call (kind := 2) (y := 56) (as := [.ref 1000, .ref 3012]) (rest := []) (L0 := [some (.ref 1000), some (.ref 3012), none, none]) (d' := 6) (v := some (.int r1)) (σ1 := (S, M, O)) rfl rfl mt_56 rfl rfl (by omega) (X_m_is (Nat.le_refl _) _ _ _ (by decide) hx2) (Ex_st (st2 := [.int r1]) rfl ?_)
  refine Ex_go 1 (pc' := if r1 = 0 then 14 else 10) (L' := [some (.ref 1000), some (.int x1), none, none]) (st' := []) (σ' := (S, M, O)) (rfl) ?_
  refine Ex_br (fun hc => ?_) (fun hc => ?_)
  · rw [if_pos hc] at hF
    refine Ex_go 2 (pc' := 18) (L' := [some (.ref 1000), some (.int x1), none, none]) (st' := [.ref 3013, .ref 1000]) (σ' := (S, M, O)) (rfl) ?_
    obtain ⟨r3, hx4, hF⟩ := b1_i hF
    refine Ex_call (kind := 2) (y := 56) (as := [.ref 1000, .ref 3013]) (rest := []) (L0 := [some (.ref 1000), some (.ref 3013), none, none]) (d' := 6) (v := some (.int r3)) (σ1 := (S, M, O)) rfl rfl mt_56 rfl rfl (by omega) (X_m_is (Nat.le_refl _) _ _ _ (by decide) hx4) (Ex_st (st2 := [.int r3]) rfl ?_)
    refine Ex_go 1 (pc' := if r3 = 0 then 28 else 24) (L' := [some (.ref 1000), some (.int x1), none, none]) (st' := []) (σ' := (S, M, O)) (rfl) ?_
    refine Ex_br (fun hc => ?_) (fun hc => ?_)
    · rw [if_pos hc] at hF
      refine Ex_go 2 (pc' := 32) (L' := [some (.ref 1000), some (.int x1), none, none]) (st' := [.ref 3014, .ref 1000]) (σ' := (S, M, O)) (rfl) ?_
      obtain ⟨r5, hx6, hF⟩ := b1_i hF
      refine Ex_call (kind := 2) (y := 56) (as := [.ref 1000, .ref 3014]) (rest := []) (L0 := [some (.ref 1000), some (.ref 3014), none, none]) (d' := 6) (v := some (.int r5)) (σ1 := (S, M, O)) rfl rfl mt_56 rfl rfl (by omega) (X_m_is (Nat.le_refl _) _ _ _ (by decide) hx6) (Ex_st (st2 := [.int r5]) rfl ?_)
      refine Ex_go 1 (pc' := if r5 = 0 then 42 else 38) (L' := [some (.ref 1000), some (.int x1), none, none]) (st' := []) (σ' := (S, M, O)) (rfl) ?_
      refine Ex_br (fun hc => ?_) (fun hc => ?_)
      · rw [if_pos hc] at hF
        refine Ex_go 1 (pc' := 43) (L' := [some (.ref 1000), some (.int x1), none, none]) (st' := [.int (0 : Int32)]) (σ' := (S, M, O)) (rfl) ?_
        exact Ex_mono (L := [some (.ref 1000), some (.int x1), none, none]) (Le_s (Le_s (Le_n (Le_n (Le_0))))) (X_m_readLine_43 hd _ _ _ _ _ hF) (Nat.le_refl _) (by omega)
      · rw [if_neg hc] at hF
        refine Ex_go 2 (pc' := 43) (L' := [some (.ref 1000), some (.int x1), none, none]) (st' := [.int (4 : Int32)]) (σ' := (S, M, O)) (rfl) ?_
        exact Ex_mono (L := [some (.ref 1000), some (.int x1), none, none]) (Le_s (Le_s (Le_n (Le_n (Le_0))))) (X_m_readLine_43 hd _ _ _ _ _ hF) (Nat.le_refl _) (by omega)
    · rw [if_neg hc] at hF
      refine Ex_go 2 (pc' := 43) (L' := [some (.ref 1000), some (.int x1), none, none]) (st' := [.int (2 : Int32)]) (σ' := (S, M, O)) (rfl) ?_
      exact Ex_mono (L := [some (.ref 1000), some (.int x1), none, none]) (Le_s (Le_s (Le_n (Le_n (Le_0))))) (X_m_readLine_43 hd _ _ _ _ _ hF) (Nat.le_refl _) (by omega)
  · rw [if_neg hc] at hF
    refine Ex_go 2 (pc' := 43) (L' := [some (.ref 1000), some (.int x1), none, none]) (st' := [.int (1 : Int32)]) (σ' := (S, M, O)) (rfl) ?_
    exact Ex_mono (L := [some (.ref 1000), some (.int x1), none, none]) (Le_s (Le_s (Le_n (Le_n (Le_0))))) (X_m_readLine_43 hd _ _ _ _ _ hF) (Nat.le_refl _) (by omega)
def F_m_sea_17 (M : Sto) : Option (Int32 × Sto) := b2 (F_m_fail (1 : Int32) M) (fun r1 M3 => some (r1, M3))
set_option maxRecDepth 100000 in
theorem X_m_sea_17 {nL : Nat} {xs : Nat → Int32} {S : Sto} {O : Sto} {d : Nat} (hd : 82 ≤ d) : ∀ (M : Sto) (r : Int32) (M' : Sto), F_m_sea_17 M = some (r, M') → EX nL xs 0 MI_76 d 17 [some (.ref 1000), none, none] [] (S, M, O) (.inl (some (.int r))) (S, M', O) := by
  intro M r M' hF
  unfold F_m_sea_17 at hF
  refine Ex_go 2 (pc' := 19) (L' := [some (.ref 1000), none, none]) (st' := [.int (1 : Int32), .ref 1000]) (σ' := (S, M, O)) (rfl) ?_
  obtain ⟨r1, M3, hx2, hF⟩ := b2_i hF
  refine Ex_call (kind := 2) (y := 50) (as := [.ref 1000, .int (1 : Int32)]) (rest := []) (L0 := [some (.ref 1000), some (.int (1 : Int32))]) (d' := 1) (v := some (.int r1)) (σ1 := (S, M3, O)) rfl rfl mt_50 rfl rfl (by omega) (X_m_fail (Nat.le_refl _) _ _ _ _ hx2) (Ex_st (st2 := [.int r1]) rfl ?_)
  cases hF
  exact Ex_fin rfl
def F_m_sea_104 (M : Sto) : Option (Int32 × Sto) := if (gi M 1010) = 0 then b2 (F_m_takeOver M) (fun r1 M3 => some ((0 : Int32), M3)) else some ((gi (ui (si M 1012 (gi M 1011)) 1008 (upd (ai (si M 1012 (gi M 1011)) 1008) (Int32.toNatClampNeg (0 : Int32)) ((ai (si M 1012 (gi M 1011)) 1008 (Int32.toNatClampNeg (0 : Int32))) + (1 : Int32)))) 1010), (ui (si M 1012 (gi M 1011)) 1008 (upd (ai (si M 1012 (gi M 1011)) 1008) (Int32.toNatClampNeg (0 : Int32)) ((ai (si M 1012 (gi M 1011)) 1008 (Int32.toNatClampNeg (0 : Int32))) + (1 : Int32)))))
set_option maxRecDepth 100000 in
theorem X_m_sea_104 {nL : Nat} {xs : Nat → Int32} {S : Sto} {O : Sto} {d : Nat} (hd : 82 ≤ d) : ∀ (M : Sto) (r : Int32) (M' : Sto), F_m_sea_104 M = some (r, M') → EX nL xs 0 MI_76 d 104 [some (.ref 1000), none, none] [] (S, M, O) (.inl (some (.int r))) (S, M', O) := by
  intro M r M' hF
  unfold F_m_sea_104 at hF
  refine Ex_go 3 (pc' := if (gi M 1010) = 0 then 134 else 111) (L' := [some (.ref 1000), none, none]) (st' := []) (σ' := (S, M, O)) (rfl) ?_
  refine Ex_br (fun hc => ?_) (fun hc => ?_)
  · rw [if_pos hc] at hF
    refine Ex_go 1 (pc' := 135) (L' := [some (.ref 1000), none, none]) (st' := [.ref 1000]) (σ' := (S, M, O)) (rfl) ?_
    obtain ⟨r1, M3, hx2, hF⟩ := b2_i hF
    refine Ex_call (kind := 2) (y := 75) (as := [.ref 1000]) (rest := []) (L0 := [some (.ref 1000), none]) (d' := 2) (v := none) (σ1 := (S, M3, O)) rfl rfl mt_75 rfl rfl (by omega) (X_m_takeOver (Nat.le_refl _) _ _ _ hx2) (Ex_st (st2 := []) rfl ?_)
    refine Ex_go 1 (pc' := 139) (L' := [some (.ref 1000), none, none]) (st' := [.int (0 : Int32)]) (σ' := (S, M3, O)) (rfl) ?_
    cases hF
    exact Ex_fin rfl
  · rw [if_neg hc] at hF
    refine Ex_go 8 (pc' := 125) (L' := [some (.ref 1000), none, none]) (st' := [.int (0 : Int32), .ref 1008, .int (0 : Int32), .ref 1008]) (σ' := (S, (si M 1012 (gi M 1011)), O)) (rfl) ?_
    refine Ex_chk (b := ib (0 : Int32) 3) (pc' := 126) (L' := [some (.ref 1000), none, none]) (st' := [.int (ai (si M 1012 (gi M 1011)) 1008 (Int32.toNatClampNeg (0 : Int32))), .int (0 : Int32), .ref 1008]) (σ' := (S, (si M 1012 (gi M 1011)), O)) rfl (by decide) ?_
    refine Ex_go 2 (pc' := 128) (L' := [some (.ref 1000), none, none]) (st' := [.int ((ai (si M 1012 (gi M 1011)) 1008 (Int32.toNatClampNeg (0 : Int32))) + (1 : Int32)), .int (0 : Int32), .ref 1008]) (σ' := (S, (si M 1012 (gi M 1011)), O)) (rfl) ?_
    refine Ex_chk (b := ib (0 : Int32) 3) (pc' := 129) (L' := [some (.ref 1000), none, none]) (st' := []) (σ' := (S, (ui (si M 1012 (gi M 1011)) 1008 (upd (ai (si M 1012 (gi M 1011)) 1008) (Int32.toNatClampNeg (0 : Int32)) ((ai (si M 1012 (gi M 1011)) 1008 (Int32.toNatClampNeg (0 : Int32))) + (1 : Int32)))), O)) rfl (by decide) ?_
    refine Ex_go 2 (pc' := 133) (L' := [some (.ref 1000), none, none]) (st' := [.int (gi (ui (si M 1012 (gi M 1011)) 1008 (upd (ai (si M 1012 (gi M 1011)) 1008) (Int32.toNatClampNeg (0 : Int32)) ((ai (si M 1012 (gi M 1011)) 1008 (Int32.toNatClampNeg (0 : Int32))) + (1 : Int32)))) 1010)]) (σ' := (S, (ui (si M 1012 (gi M 1011)) 1008 (upd (ai (si M 1012 (gi M 1011)) 1008) (Int32.toNatClampNeg (0 : Int32)) ((ai (si M 1012 (gi M 1011)) 1008 (Int32.toNatClampNeg (0 : Int32))) + (1 : Int32)))), O)) (rfl) ?_
    cases hF
    exact Ex_fin rfl
def F_m_sea_81 : Nat → Int32 → Sto → Option (Int32 × Sto)
  | 0, _, _ => none
  | n + 1, x2, M => if (gi M 1010) = 0 then if (gi M 1006) = 0 then F_m_sea_104 M else b2 (F_m_readLine x2 M) (fun r1 M3 => F_m_sea_81 n r1 M3) else F_m_sea_104 M
set_option maxRecDepth 100000 in
theorem X_m_sea_81 {nL : Nat} {xs : Nat → Int32} {S : Sto} {O : Sto} {d : Nat} (hd : 82 ≤ d) : ∀ n : Nat, ∀ (x2 : Int32) (M : Sto) (r : Int32) (M' : Sto), F_m_sea_81 n x2 M = some (r, M') → EX nL xs 0 MI_76 d 81 [some (.ref 1000), none, some (.int x2)] [] (S, M, O) (.inl (some (.int r))) (S, M', O) := by
  intro n
  induction n with
  | zero => intro x2 M r M' hF; cases hF
  | succ n ih =>
  intro x2 M r M' hF
  unfold F_m_sea_81 at hF
  refine Ex_go 3 (pc' := if ¬ (gi M 1010) = 0 then 104 else 88) (L' := [some (.ref 1000), none, some (.int x2)]) (st' := []) (σ' := (S, M, O)) (rfl) ?_
  refine Ex_brN (fun hc => ?_) (fun hc => ?_)
  · rw [if_pos hc] at hF
    refine Ex_go 3 (pc' := if (gi M 1006) = 0 then 104 else 95) (L' := [some (.ref 1000), none, some (.int x2)]) (st' := []) (σ' := (S, M, O)) (rfl) ?_
    refine Ex_br (fun hc => ?_) (fun hc => ?_)
    · rw [if_pos hc] at hF
      exact Ex_mono (L := [some (.ref 1000), none, none]) (Le_s (Le_n (Le_n (Le_0)))) (X_m_sea_104 hd _ _ _ hF) (Nat.le_refl _) (by omega)
    · rw [if_neg hc] at hF
      refine Ex_go 2 (pc' := 97) (L' := [some (.ref 1000), none, some (.int x2)]) (st' := [.int x2, .ref 1000]) (σ' := (S, M, O)) (rfl) ?_
      obtain ⟨r1, M3, hx2, hF⟩ := b2_i hF
      refine Ex_call (kind := 2) (y := 73) (as := [.ref 1000, .int x2]) (rest := []) (L0 := [some (.ref 1000), some (.int x2), none, none]) (d' := 81) (v := some (.int r1)) (σ1 := (S, M3, O)) rfl rfl mt_73 rfl rfl (by omega) (X_m_readLine (Nat.le_refl _) _ _ _ _ hx2) (Ex_st (st2 := [.int r1]) rfl ?_)
      refine Ex_go 2 (pc' := 81) (L' := [some (.ref 1000), none, some (.int r1)]) (st' := []) (σ' := (S, M3, O)) (rfl) ?_
      exact Ex_mono (L := [some (.ref 1000), none, some (.int r1)]) (Le_s (Le_n (Le_s (Le_0)))) (ih _ _ _ _ hF) (Nat.le_refl _) (by omega)
  · rw [if_neg hc] at hF
    exact Ex_mono (L := [some (.ref 1000), none, none]) (Le_s (Le_n (Le_n (Le_0)))) (X_m_sea_104 hd _ _ _ hF) (Nat.le_refl _) (by omega)
def F_m_sea (x1 : Int32) (M : Sto) : Option (Int32 × Sto) := if x1 < 0 then F_m_sea_17 (si M 1001 (0 : Int32)) else if x1 ≤ (gi (si M 1001 (0 : Int32)) 1003) then b2 (F_m_stepOn (sl (ui (ui (ui (si (si (si (si (si (si M 1001 (0 : Int32)) 1003 (0 : Int32)) 1005 x1) 1004 (0 : Int32)) 1010 (0 : Int32)) 1012 (-1 : Int32)) 1003 (upd (ai (si (si (si (si (si (si M 1001 (0 : Int32)) 1003 (0 : Int32)) 1005 x1) 1004 (0 : Int32)) 1010 (0 : Int32)) 1012 (-1 : Int32)) 1003) (Int32.toNatClampNeg (3 : Int32)) (0 : Int32))) 1003 (upd (ai (ui (si (si (si (si (si (si M 1001 (0 : Int32)) 1003 (0 : Int32)) 1005 x1) 1004 (0 : Int32)) 1010 (0 : Int32)) 1012 (-1 : Int32)) 1003 (upd (ai (si (si (si (si (si (si M 1001 (0 : Int32)) 1003 (0 : Int32)) 1005 x1) 1004 (0 : Int32)) 1010 (0 : Int32)) 1012 (-1 : Int32)) 1003) (Int32.toNatClampNeg (3 : Int32)) (0 : Int32))) 1003) (Int32.toNatClampNeg (4 : Int32)) (30 : Int32))) 1003 (upd (ai (ui (ui (si (si (si (si (si (si M 1001 (0 : Int32)) 1003 (0 : Int32)) 1005 x1) 1004 (0 : Int32)) 1010 (0 : Int32)) 1012 (-1 : Int32)) 1003 (upd (ai (si (si (si (si (si (si M 1001 (0 : Int32)) 1003 (0 : Int32)) 1005 x1) 1004 (0 : Int32)) 1010 (0 : Int32)) 1012 (-1 : Int32)) 1003) (Int32.toNatClampNeg (3 : Int32)) (0 : Int32))) 1003 (upd (ai (ui (si (si (si (si (si (si M 1001 (0 : Int32)) 1003 (0 : Int32)) 1005 x1) 1004 (0 : Int32)) 1010 (0 : Int32)) 1012 (-1 : Int32)) 1003 (upd (ai (si (si (si (si (si (si M 1001 (0 : Int32)) 1003 (0 : Int32)) 1005 x1) 1004 (0 : Int32)) 1010 (0 : Int32)) 1012 (-1 : Int32)) 1003) (Int32.toNatClampNeg (3 : Int32)) (0 : Int32))) 1003) (Int32.toNatClampNeg (4 : Int32)) (30 : Int32))) 1003) (Int32.toNatClampNeg (5 : Int32)) (0 : Int32))) 1002 (0 : Int64))) (fun r1 M3 => F_m_sea_81 FU (0 : Int32) M3) else F_m_sea_17 (si M 1001 (0 : Int32))
set_option maxRecDepth 100000 in
theorem X_m_sea {nL : Nat} {xs : Nat → Int32} {S : Sto} {O : Sto} {d : Nat} (hd : 82 ≤ d) : ∀ (x1 : Int32) (M : Sto) (r : Int32) (M' : Sto), F_m_sea x1 M = some (r, M') → EX nL xs 0 MI_76 d 0 [some (.ref 1000), some (.int x1), none] [] (S, M, O) (.inl (some (.int r))) (S, M', O) := by
  intro x1 M r M' hF
  unfold F_m_sea at hF
  refine Ex_go 5 (pc' := if x1 < 0 then 17 else 9) (L' := [some (.ref 1000), some (.int x1), none]) (st' := []) (σ' := (S, (si M 1001 (0 : Int32)), O)) (rfl) ?_
  refine Ex_br (fun hc => ?_) (fun hc => ?_)
  · rw [if_pos hc] at hF
    exact Ex_mono (L := [some (.ref 1000), none, none]) (Le_s (Le_n (Le_n (Le_0)))) (X_m_sea_17 hd _ _ _ hF) (Nat.le_refl _) (by omega)
  · rw [if_neg hc] at hF
    refine Ex_go 4 (pc' := if x1 ≤ (gi (si M 1001 (0 : Int32)) 1003) then 23 else 17) (L' := [some (.ref 1000), some (.int x1), none]) (st' := []) (σ' := (S, (si M 1001 (0 : Int32)), O)) (rfl) ?_
    refine Ex_br (fun hc => ?_) (fun hc => ?_)
    · rw [if_pos hc] at hF
      refine Ex_go 10 (pc' := 39) (L' := [some (.ref 1000), some (.int x1), none]) (st' := [.ref 1000]) (σ' := (S, (si (si (si (si M 1001 (0 : Int32)) 1003 (0 : Int32)) 1005 x1) 1004 (0 : Int32)), O)) (rfl) ?_
      refine Ex_go 9 (pc' := 54) (L' := [some (.ref 1000), some (.int x1), none]) (st' := [.int (0 : Int32), .int (3 : Int32), .ref 1003]) (σ' := (S, (si (si (si (si (si (si M 1001 (0 : Int32)) 1003 (0 : Int32)) 1005 x1) 1004 (0 : Int32)) 1010 (0 : Int32)) 1012 (-1 : Int32)), O)) (rfl) ?_
      refine Ex_chk (b := ib (3 : Int32) 6) (pc' := 55) (L' := [some (.ref 1000), some (.int x1), none]) (st' := []) (σ' := (S, (ui (si (si (si (si (si (si M 1001 (0 : Int32)) 1003 (0 : Int32)) 1005 x1) 1004 (0 : Int32)) 1010 (0 : Int32)) 1012 (-1 : Int32)) 1003 (upd (ai (si (si (si (si (si (si M 1001 (0 : Int32)) 1003 (0 : Int32)) 1005 x1) 1004 (0 : Int32)) 1010 (0 : Int32)) 1012 (-1 : Int32)) 1003) (Int32.toNatClampNeg (3 : Int32)) (0 : Int32))), O)) rfl (by decide) ?_
      refine Ex_go 4 (pc' := 62) (L' := [some (.ref 1000), some (.int x1), none]) (st' := [.int (30 : Int32), .int (4 : Int32), .ref 1003]) (σ' := (S, (ui (si (si (si (si (si (si M 1001 (0 : Int32)) 1003 (0 : Int32)) 1005 x1) 1004 (0 : Int32)) 1010 (0 : Int32)) 1012 (-1 : Int32)) 1003 (upd (ai (si (si (si (si (si (si M 1001 (0 : Int32)) 1003 (0 : Int32)) 1005 x1) 1004 (0 : Int32)) 1010 (0 : Int32)) 1012 (-1 : Int32)) 1003) (Int32.toNatClampNeg (3 : Int32)) (0 : Int32))), O)) (rfl) ?_
      refine Ex_chk (b := ib (4 : Int32) 6) (pc' := 63) (L' := [some (.ref 1000), some (.int x1), none]) (st' := []) (σ' := (S, (ui (ui (si (si (si (si (si (si M 1001 (0 : Int32)) 1003 (0 : Int32)) 1005 x1) 1004 (0 : Int32)) 1010 (0 : Int32)) 1012 (-1 : Int32)) 1003 (upd (ai (si (si (si (si (si (si M 1001 (0 : Int32)) 1003 (0 : Int32)) 1005 x1) 1004 (0 : Int32)) 1010 (0 : Int32)) 1012 (-1 : Int32)) 1003) (Int32.toNatClampNeg (3 : Int32)) (0 : Int32))) 1003 (upd (ai (ui (si (si (si (si (si (si M 1001 (0 : Int32)) 1003 (0 : Int32)) 1005 x1) 1004 (0 : Int32)) 1010 (0 : Int32)) 1012 (-1 : Int32)) 1003 (upd (ai (si (si (si (si (si (si M 1001 (0 : Int32)) 1003 (0 : Int32)) 1005 x1) 1004 (0 : Int32)) 1010 (0 : Int32)) 1012 (-1 : Int32)) 1003) (Int32.toNatClampNeg (3 : Int32)) (0 : Int32))) 1003) (Int32.toNatClampNeg (4 : Int32)) (30 : Int32))), O)) rfl (by decide) ?_
      refine Ex_go 4 (pc' := 69) (L' := [some (.ref 1000), some (.int x1), none]) (st' := [.int (0 : Int32), .int (5 : Int32), .ref 1003]) (σ' := (S, (ui (ui (si (si (si (si (si (si M 1001 (0 : Int32)) 1003 (0 : Int32)) 1005 x1) 1004 (0 : Int32)) 1010 (0 : Int32)) 1012 (-1 : Int32)) 1003 (upd (ai (si (si (si (si (si (si M 1001 (0 : Int32)) 1003 (0 : Int32)) 1005 x1) 1004 (0 : Int32)) 1010 (0 : Int32)) 1012 (-1 : Int32)) 1003) (Int32.toNatClampNeg (3 : Int32)) (0 : Int32))) 1003 (upd (ai (ui (si (si (si (si (si (si M 1001 (0 : Int32)) 1003 (0 : Int32)) 1005 x1) 1004 (0 : Int32)) 1010 (0 : Int32)) 1012 (-1 : Int32)) 1003 (upd (ai (si (si (si (si (si (si M 1001 (0 : Int32)) 1003 (0 : Int32)) 1005 x1) 1004 (0 : Int32)) 1010 (0 : Int32)) 1012 (-1 : Int32)) 1003) (Int32.toNatClampNeg (3 : Int32)) (0 : Int32))) 1003) (Int32.toNatClampNeg (4 : Int32)) (30 : Int32))), O)) (rfl) ?_
      refine Ex_chk (b := ib (5 : Int32) 6) (pc' := 70) (L' := [some (.ref 1000), some (.int x1), none]) (st' := []) (σ' := (S, (ui (ui (ui (si (si (si (si (si (si M 1001 (0 : Int32)) 1003 (0 : Int32)) 1005 x1) 1004 (0 : Int32)) 1010 (0 : Int32)) 1012 (-1 : Int32)) 1003 (upd (ai (si (si (si (si (si (si M 1001 (0 : Int32)) 1003 (0 : Int32)) 1005 x1) 1004 (0 : Int32)) 1010 (0 : Int32)) 1012 (-1 : Int32)) 1003) (Int32.toNatClampNeg (3 : Int32)) (0 : Int32))) 1003 (upd (ai (ui (si (si (si (si (si (si M 1001 (0 : Int32)) 1003 (0 : Int32)) 1005 x1) 1004 (0 : Int32)) 1010 (0 : Int32)) 1012 (-1 : Int32)) 1003 (upd (ai (si (si (si (si (si (si M 1001 (0 : Int32)) 1003 (0 : Int32)) 1005 x1) 1004 (0 : Int32)) 1010 (0 : Int32)) 1012 (-1 : Int32)) 1003) (Int32.toNatClampNeg (3 : Int32)) (0 : Int32))) 1003) (Int32.toNatClampNeg (4 : Int32)) (30 : Int32))) 1003 (upd (ai (ui (ui (si (si (si (si (si (si M 1001 (0 : Int32)) 1003 (0 : Int32)) 1005 x1) 1004 (0 : Int32)) 1010 (0 : Int32)) 1012 (-1 : Int32)) 1003 (upd (ai (si (si (si (si (si (si M 1001 (0 : Int32)) 1003 (0 : Int32)) 1005 x1) 1004 (0 : Int32)) 1010 (0 : Int32)) 1012 (-1 : Int32)) 1003) (Int32.toNatClampNeg (3 : Int32)) (0 : Int32))) 1003 (upd (ai (ui (si (si (si (si (si (si M 1001 (0 : Int32)) 1003 (0 : Int32)) 1005 x1) 1004 (0 : Int32)) 1010 (0 : Int32)) 1012 (-1 : Int32)) 1003 (upd (ai (si (si (si (si (si (si M 1001 (0 : Int32)) 1003 (0 : Int32)) 1005 x1) 1004 (0 : Int32)) 1010 (0 : Int32)) 1012 (-1 : Int32)) 1003) (Int32.toNatClampNeg (3 : Int32)) (0 : Int32))) 1003) (Int32.toNatClampNeg (4 : Int32)) (30 : Int32))) 1003) (Int32.toNatClampNeg (5 : Int32)) (0 : Int32))), O)) rfl (by decide) ?_
      refine Ex_go 4 (pc' := 76) (L' := [some (.ref 1000), some (.int x1), none]) (st' := [.ref 1000]) (σ' := (S, (sl (ui (ui (ui (si (si (si (si (si (si M 1001 (0 : Int32)) 1003 (0 : Int32)) 1005 x1) 1004 (0 : Int32)) 1010 (0 : Int32)) 1012 (-1 : Int32)) 1003 (upd (ai (si (si (si (si (si (si M 1001 (0 : Int32)) 1003 (0 : Int32)) 1005 x1) 1004 (0 : Int32)) 1010 (0 : Int32)) 1012 (-1 : Int32)) 1003) (Int32.toNatClampNeg (3 : Int32)) (0 : Int32))) 1003 (upd (ai (ui (si (si (si (si (si (si M 1001 (0 : Int32)) 1003 (0 : Int32)) 1005 x1) 1004 (0 : Int32)) 1010 (0 : Int32)) 1012 (-1 : Int32)) 1003 (upd (ai (si (si (si (si (si (si M 1001 (0 : Int32)) 1003 (0 : Int32)) 1005 x1) 1004 (0 : Int32)) 1010 (0 : Int32)) 1012 (-1 : Int32)) 1003) (Int32.toNatClampNeg (3 : Int32)) (0 : Int32))) 1003) (Int32.toNatClampNeg (4 : Int32)) (30 : Int32))) 1003 (upd (ai (ui (ui (si (si (si (si (si (si M 1001 (0 : Int32)) 1003 (0 : Int32)) 1005 x1) 1004 (0 : Int32)) 1010 (0 : Int32)) 1012 (-1 : Int32)) 1003 (upd (ai (si (si (si (si (si (si M 1001 (0 : Int32)) 1003 (0 : Int32)) 1005 x1) 1004 (0 : Int32)) 1010 (0 : Int32)) 1012 (-1 : Int32)) 1003) (Int32.toNatClampNeg (3 : Int32)) (0 : Int32))) 1003 (upd (ai (ui (si (si (si (si (si (si M 1001 (0 : Int32)) 1003 (0 : Int32)) 1005 x1) 1004 (0 : Int32)) 1010 (0 : Int32)) 1012 (-1 : Int32)) 1003 (upd (ai (si (si (si (si (si (si M 1001 (0 : Int32)) 1003 (0 : Int32)) 1005 x1) 1004 (0 : Int32)) 1010 (0 : Int32)) 1012 (-1 : Int32)) 1003) (Int32.toNatClampNeg (3 : Int32)) (0 : Int32))) 1003) (Int32.toNatClampNeg (4 : Int32)) (30 : Int32))) 1003) (Int32.toNatClampNeg (5 : Int32)) (0 : Int32))) 1002 (0 : Int64)), O)) (rfl) ?_
      obtain ⟨r1, M3, hx2, hF⟩ := b2_i hF
      refine Ex_call (kind := 2) (y := 55) (as := [.ref 1000]) (rest := []) (L0 := [some (.ref 1000), none]) (d' := 6) (v := none) (σ1 := (S, M3, O)) rfl rfl mt_55 rfl rfl (by omega) (X_m_stepOn (Nat.le_refl _) _ _ _ hx2) (Ex_st (st2 := []) rfl ?_)
      refine Ex_go 2 (pc' := 81) (L' := [some (.ref 1000), some (.int x1), some (.int (0 : Int32))]) (st' := []) (σ' := (S, M3, O)) (rfl) ?_
      exact Ex_mono (L := [some (.ref 1000), none, some (.int (0 : Int32))]) (Le_s (Le_n (Le_s (Le_0)))) (X_m_sea_81 hd FU _ _ _ _ hF) (Nat.le_refl _) (by omega)
    · rw [if_neg hc] at hF
      exact Ex_mono (L := [some (.ref 1000), none, none]) (Le_s (Le_n (Le_n (Le_0)))) (X_m_sea_17 hd _ _ _ hF) (Nat.le_refl _) (by omega)
def F_Rd_take_50 (k3 : Int32 → Int32 → Sto → Option (Unit × Sto)) (x1 : Int32) (x2 : Int32) (S : Sto) : Option (Unit × Sto) := k3 x1 (x2 + (-8 : Int32)) S
set_option maxRecDepth 100000 in
theorem X_Rd_take_50 {nL : Nat} {xs : Nat → Int32} {M : Sto} {O : Sto} {d : Nat} (hd : 1 ≤ d) {k3 : Int32 → Int32 → Sto → Option (Unit × Sto)} (hk3 : ∀ (x1 : Int32) (x2 : Int32) (S : Sto) (r : Unit) (S' : Sto), k3 x1 x2 S = some (r, S') → EX nL xs 0 MI_0 d 3 [some (.ref 1), some (.int x1), some (.int x2)] [] (S, M, O) (.inl none) (S', M, O)) : ∀ (x1 : Int32) (x2 : Int32) (S : Sto) (r : Unit) (S' : Sto), F_Rd_take_50 k3 x1 x2 S = some (r, S') → EX nL xs 0 MI_0 d 50 [some (.ref 1), some (.int x1), some (.int x2)] [] (S, M, O) (.inl none) (S', M, O) := by
  intro x1 x2 S r S' hF
  unfold F_Rd_take_50 at hF
  refine Ex_go 2 (pc' := 3) (L' := [some (.ref 1), some (.int x1), some (.int (x2 + (-8 : Int32)))]) (st' := []) (σ' := (S, M, O)) (rfl) ?_
  exact Ex_mono (L := [some (.ref 1), some (.int x1), some (.int (x2 + (-8 : Int32)))]) (Le_s (Le_s (Le_s (Le_0)))) (hk3 _ _ _ _ _ hF) (Nat.le_refl _) (by omega)
def F_Rd_take_3 : Nat → Int32 → Int32 → Sto → Option (Unit × Sto)
  | 0, _, _, _ => none
  | n + 1, x1, x2, S => if x2 < 0 then some ((), S) else if (gi S 7) < 0 then F_Rd_take_50 (F_Rd_take_3 n) x1 x2 S else if (500 : Int32) ≤ (gi S 7) then F_Rd_take_50 (F_Rd_take_3 n) x1 x2 S else ck (ib (gi S 7) 500) (F_Rd_take_50 (F_Rd_take_3 n) x1 x2 (si (ui S 2 (upd (ai S 2) (Int32.toNatClampNeg (gi S 7)) (((Int32.toUInt32 x1 >>> (Int32.toUInt32 x2 &&& Int32.toUInt32 31)).toInt32) &&& (255 : Int32)))) 7 ((gi (ui S 2 (upd (ai S 2) (Int32.toNatClampNeg (gi S 7)) (((Int32.toUInt32 x1 >>> (Int32.toUInt32 x2 &&& Int32.toUInt32 31)).toInt32) &&& (255 : Int32)))) 7) + (1 : Int32))))
set_option maxRecDepth 100000 in
theorem X_Rd_take_3 {nL : Nat} {xs : Nat → Int32} {M : Sto} {O : Sto} {d : Nat} (hd : 1 ≤ d) : ∀ n : Nat, ∀ (x1 : Int32) (x2 : Int32) (S : Sto) (r : Unit) (S' : Sto), F_Rd_take_3 n x1 x2 S = some (r, S') → EX nL xs 0 MI_0 d 3 [some (.ref 1), some (.int x1), some (.int x2)] [] (S, M, O) (.inl none) (S', M, O) := by
  intro n
  induction n with
  | zero => intro x1 x2 S r S' hF; cases hF
  | succ n ih =>
  intro x1 x2 S r S' hF
  unfold F_Rd_take_3 at hF
  refine Ex_go 2 (pc' := if x2 < 0 then 56 else 7) (L' := [some (.ref 1), some (.int x1), some (.int x2)]) (st' := []) (σ' := (S, M, O)) (rfl) ?_
  refine Ex_br (fun hc => ?_) (fun hc => ?_)
  · rw [if_pos hc] at hF
    cases hF
    exact Ex_fin rfl
  · rw [if_neg hc] at hF
    refine Ex_go 3 (pc' := if (gi S 7) < 0 then 50 else 14) (L' := [some (.ref 1), some (.int x1), some (.int x2)]) (st' := []) (σ' := (S, M, O)) (rfl) ?_
    refine Ex_br (fun hc => ?_) (fun hc => ?_)
    · rw [if_pos hc] at hF
      exact Ex_mono (L := [some (.ref 1), some (.int x1), some (.int x2)]) (Le_s (Le_s (Le_s (Le_0)))) (X_Rd_take_50 hd ih _ _ _ _ _ hF) (Nat.le_refl _) (by omega)
    · rw [if_neg hc] at hF
      refine Ex_go 4 (pc' := if (500 : Int32) ≤ (gi S 7) then 50 else 24) (L' := [some (.ref 1), some (.int x1), some (.int x2)]) (st' := []) (σ' := (S, M, O)) (rfl) ?_
      refine Ex_br (fun hc => ?_) (fun hc => ?_)
      · rw [if_pos hc] at hF
        exact Ex_mono (L := [some (.ref 1), some (.int x1), some (.int x2)]) (Le_s (Le_s (Le_s (Le_0)))) (X_Rd_take_50 hd ih _ _ _ _ _ hF) (Nat.le_refl _) (by omega)
      · rw [if_neg hc] at hF
        refine Ex_go 9 (pc' := 39) (L' := [some (.ref 1), some (.int x1), some (.int x2)]) (st' := [.int (((Int32.toUInt32 x1 >>> (Int32.toUInt32 x2 &&& Int32.toUInt32 31)).toInt32) &&& (255 : Int32)), .int (gi S 7), .ref 2]) (σ' := (S, M, O)) (rfl) ?_
        obtain ⟨hc1, hF⟩ := ck_i hF
        refine Ex_chk (b := ib (gi S 7) 500) (pc' := 40) (L' := [some (.ref 1), some (.int x1), some (.int x2)]) (st' := []) (σ' := ((ui S 2 (upd (ai S 2) (Int32.toNatClampNeg (gi S 7)) (((Int32.toUInt32 x1 >>> (Int32.toUInt32 x2 &&& Int32.toUInt32 31)).toInt32) &&& (255 : Int32)))), M, O)) rfl hc1 ?_
        refine Ex_go 6 (pc' := 50) (L' := [some (.ref 1), some (.int x1), some (.int x2)]) (st' := []) (σ' := ((si (ui S 2 (upd (ai S 2) (Int32.toNatClampNeg (gi S 7)) (((Int32.toUInt32 x1 >>> (Int32.toUInt32 x2 &&& Int32.toUInt32 31)).toInt32) &&& (255 : Int32)))) 7 ((gi (ui S 2 (upd (ai S 2) (Int32.toNatClampNeg (gi S 7)) (((Int32.toUInt32 x1 >>> (Int32.toUInt32 x2 &&& Int32.toUInt32 31)).toInt32) &&& (255 : Int32)))) 7) + (1 : Int32))), M, O)) (rfl) ?_
        exact Ex_mono (L := [some (.ref 1), some (.int x1), some (.int x2)]) (Le_s (Le_s (Le_s (Le_0)))) (X_Rd_take_50 hd ih _ _ _ _ _ hF) (Nat.le_refl _) (by omega)
def F_Rd_take (x1 : Int32) (S : Sto) : Option (Unit × Sto) := F_Rd_take_3 FU x1 (24 : Int32) S
set_option maxRecDepth 100000 in
theorem X_Rd_take {nL : Nat} {xs : Nat → Int32} {M : Sto} {O : Sto} {d : Nat} (hd : 1 ≤ d) : ∀ (x1 : Int32) (S : Sto) (r : Unit) (S' : Sto), F_Rd_take x1 S = some (r, S') → EX nL xs 0 MI_0 d 0 [some (.ref 1), some (.int x1), none] [] (S, M, O) (.inl none) (S', M, O) := by
  intro x1 S r S' hF
  unfold F_Rd_take at hF
  refine Ex_go 2 (pc' := 3) (L' := [some (.ref 1), some (.int x1), some (.int (24 : Int32))]) (st' := []) (σ' := (S, M, O)) (rfl) ?_
  exact Ex_mono (L := [some (.ref 1), some (.int x1), some (.int (24 : Int32))]) (Le_s (Le_s (Le_s (Le_0)))) (X_Rd_take_3 hd FU _ _ _ _ _ hF) (Nat.le_refl _) (by omega)
def F_w_feed (x1 : Int32) (x2 : Int32) (x3 : Int32) (x4 : Int32) (x5 : Int32) (S : Sto) : Option (Int32 × Sto) := if ((gi S 7) + (20 : Int32)) ≤ (500 : Int32) then b2 (F_Rd_take x1 S) (fun r1 S3 => b2 (F_Rd_take x2 S3) (fun r4 S6 => b2 (F_Rd_take x3 S6) (fun r7 S9 => b2 (F_Rd_take x4 S9) (fun r10 S12 => b2 (F_Rd_take x5 S12) (fun r13 S15 => some ((gi S15 7), S15)))))) else some ((-1 : Int32), S)
set_option maxRecDepth 100000 in
theorem X_w_feed {nL : Nat} {xs : Nat → Int32} {M : Sto} {O : Sto} {d : Nat} (hd : 2 ≤ d) : ∀ (x1 : Int32) (x2 : Int32) (x3 : Int32) (x4 : Int32) (x5 : Int32) (S : Sto) (r : Int32) (S' : Sto), F_w_feed x1 x2 x3 x4 x5 S = some (r, S') → EX nL xs 0 MI_1 d 0 [some (.ref 0), some (.int x1), some (.int x2), some (.int x3), some (.int x4), some (.int x5)] [] (S, M, O) (.inl (some (.int r))) (S', M, O) := by
  intro x1 x2 x3 x4 x5 S r S' hF
  unfold F_w_feed at hF
  refine Ex_go 7 (pc' := if ((gi S 7) + (20 : Int32)) ≤ (500 : Int32) then 18 else 16) (L' := [some (.ref 0), some (.int x1), some (.int x2), some (.int x3), some (.int x4), some (.int x5)]) (st' := []) (σ' := (S, M, O)) (rfl) ?_
  refine Ex_br (fun hc => ?_) (fun hc => ?_)
  · rw [if_pos hc] at hF
    refine Ex_go 3 (pc' := 23) (L' := [some (.ref 0), some (.int x1), some (.int x2), some (.int x3), some (.int x4), some (.int x5)]) (st' := [.int x1, .ref 1]) (σ' := (S, M, O)) (rfl) ?_
    obtain ⟨r1, S3, hx2, hF⟩ := b2_i hF
    refine Ex_call (kind := 2) (y := 0) (as := [.ref 1, .int x1]) (rest := []) (L0 := [some (.ref 1), some (.int x1), none]) (d' := 1) (v := none) (σ1 := (S3, M, O)) rfl rfl mt_0 rfl rfl (by omega) (X_Rd_take (Nat.le_refl _) _ _ _ _ hx2) (Ex_st (st2 := []) rfl ?_)
    refine Ex_go 3 (pc' := 31) (L' := [some (.ref 0), some (.int x1), some (.int x2), some (.int x3), some (.int x4), some (.int x5)]) (st' := [.int x2, .ref 1]) (σ' := (S3, M, O)) (rfl) ?_
    obtain ⟨r4, S6, hx5, hF⟩ := b2_i hF
    refine Ex_call (kind := 2) (y := 0) (as := [.ref 1, .int x2]) (rest := []) (L0 := [some (.ref 1), some (.int x2), none]) (d' := 1) (v := none) (σ1 := (S6, M, O)) rfl rfl mt_0 rfl rfl (by omega) (X_Rd_take (Nat.le_refl _) _ _ _ _ hx5) (Ex_st (st2 := []) rfl ?_)
    refine Ex_go 3 (pc' := 39) (L' := [some (.ref 0), some (.int x1), some (.int x2), some (.int x3), some (.int x4), some (.int x5)]) (st' := [.int x3, .ref 1]) (σ' := (S6, M, O)) (rfl) ?_
    obtain ⟨r7, S9, hx8, hF⟩ := b2_i hF
    refine Ex_call (kind := 2) (y := 0) (as := [.ref 1, .int x3]) (rest := []) (L0 := [some (.ref 1), some (.int x3), none]) (d' := 1) (v := none) (σ1 := (S9, M, O)) rfl rfl mt_0 rfl rfl (by omega) (X_Rd_take (Nat.le_refl _) _ _ _ _ hx8) (Ex_st (st2 := []) rfl ?_)
    refine Ex_go 3 (pc' := 48) (L' := [some (.ref 0), some (.int x1), some (.int x2), some (.int x3), some (.int x4), some (.int x5)]) (st' := [.int x4, .ref 1]) (σ' := (S9, M, O)) (rfl) ?_
    obtain ⟨r10, S12, hx11, hF⟩ := b2_i hF
    refine Ex_call (kind := 2) (y := 0) (as := [.ref 1, .int x4]) (rest := []) (L0 := [some (.ref 1), some (.int x4), none]) (d' := 1) (v := none) (σ1 := (S12, M, O)) rfl rfl mt_0 rfl rfl (by omega) (X_Rd_take (Nat.le_refl _) _ _ _ _ hx11) (Ex_st (st2 := []) rfl ?_)
    refine Ex_go 3 (pc' := 57) (L' := [some (.ref 0), some (.int x1), some (.int x2), some (.int x3), some (.int x4), some (.int x5)]) (st' := [.int x5, .ref 1]) (σ' := (S12, M, O)) (rfl) ?_
    obtain ⟨r13, S15, hx14, hF⟩ := b2_i hF
    refine Ex_call (kind := 2) (y := 0) (as := [.ref 1, .int x5]) (rest := []) (L0 := [some (.ref 1), some (.int x5), none]) (d' := 1) (v := none) (σ1 := (S15, M, O)) rfl rfl mt_0 rfl rfl (by omega) (X_Rd_take (Nat.le_refl _) _ _ _ _ hx14) (Ex_st (st2 := []) rfl ?_)
    refine Ex_go 3 (pc' := 67) (L' := [some (.ref 0), some (.int x1), some (.int x2), some (.int x3), some (.int x4), some (.int x5)]) (st' := [.int (gi S15 7)]) (σ' := (S15, M, O)) (rfl) ?_
    cases hF
    exact Ex_fin rfl
  · rw [if_neg hc] at hF
    refine Ex_go 1 (pc' := 17) (L' := [some (.ref 0), some (.int x1), some (.int x2), some (.int x3), some (.int x4), some (.int x5)]) (st' := [.int (-1 : Int32)]) (σ' := (S, M, O)) (rfl) ?_
    cases hF
    exact Ex_fin rfl
def F_m_feed_76 (k23 : Int32 → Int32 → Int32 → Int32 → Int32 → Int32 → Sto → Option (Int32 × Sto)) (x1 : Int32) (x2 : Int32) (x3 : Int32) (x4 : Int32) (x5 : Int32) (x6 : Int32) (s0 : Int32) (M : Sto) : Option (Int32 × Sto) := ck (ib (gi M 1003) 500) (k23 x1 x2 x3 x4 x5 (x6 + (1 : Int32)) (si (ui M 1011 (upd (ai M 1011) (Int32.toNatClampNeg (gi M 1003)) ((s0 >>> (((24 : Int32) - ((8 : Int32) * (x6 - x6 / (4 : Int32) * (4 : Int32)))) &&& 31)) &&& (255 : Int32)))) 1003 ((gi (ui M 1011 (upd (ai M 1011) (Int32.toNatClampNeg (gi M 1003)) ((s0 >>> (((24 : Int32) - ((8 : Int32) * (x6 - x6 / (4 : Int32) * (4 : Int32)))) &&& 31)) &&& (255 : Int32)))) 1003) + (1 : Int32))))
set_option maxRecDepth 100000 in
theorem X_m_feed_76 {nL : Nat} {xs : Nat → Int32} {S : Sto} {O : Sto} {d : Nat} (hd : 1 ≤ d) {k23 : Int32 → Int32 → Int32 → Int32 → Int32 → Int32 → Sto → Option (Int32 × Sto)} (hk23 : ∀ (x1 : Int32) (x2 : Int32) (x3 : Int32) (x4 : Int32) (x5 : Int32) (x6 : Int32) (M : Sto) (r : Int32) (M' : Sto), k23 x1 x2 x3 x4 x5 x6 M = some (r, M') → EX nL xs 0 MI_2 d 23 [some (.ref 1000), some (.int x1), some (.int x2), some (.int x3), some (.int x4), some (.int x5), some (.int x6), none] [] (S, M, O) (.inl (some (.int r))) (S, M', O)) : ∀ (x1 : Int32) (x2 : Int32) (x3 : Int32) (x4 : Int32) (x5 : Int32) (x6 : Int32) (s0 : Int32) (M : Sto) (r : Int32) (M' : Sto), F_m_feed_76 k23 x1 x2 x3 x4 x5 x6 s0 M = some (r, M') → EX nL xs 0 MI_2 d 76 [some (.ref 1000), some (.int x1), some (.int x2), some (.int x3), some (.int x4), some (.int x5), some (.int x6), none] [.int s0] (S, M, O) (.inl (some (.int r))) (S, M', O) := by
  intro x1 x2 x3 x4 x5 x6 s0 M r M' hF
  unfold F_m_feed_76 at hF
  refine Ex_go 10 (pc' := 95) (L' := [some (.ref 1000), some (.int x1), some (.int x2), some (.int x3), some (.int x4), some (.int x5), some (.int x6), some (.int s0)]) (st' := [.int (4 : Int32), .int x6, .int (8 : Int32), .int (24 : Int32), .int s0, .int (gi M 1003), .ref 1011]) (σ' := (S, M, O)) (rfl) ?_
  refine Ex_chk (b := nzI (4 : Int32)) (pc' := 96) (L' := [some (.ref 1000), some (.int x1), some (.int x2), some (.int x3), some (.int x4), some (.int x5), some (.int x6), some (.int s0)]) (st' := [.int (x6 - x6 / (4 : Int32) * (4 : Int32)), .int (8 : Int32), .int (24 : Int32), .int s0, .int (gi M 1003), .ref 1011]) (σ' := (S, M, O)) rfl (by decide) ?_
  refine Ex_go 5 (pc' := 103) (L' := [some (.ref 1000), some (.int x1), some (.int x2), some (.int x3), some (.int x4), some (.int x5), some (.int x6), some (.int s0)]) (st' := [.int ((s0 >>> (((24 : Int32) - ((8 : Int32) * (x6 - x6 / (4 : Int32) * (4 : Int32)))) &&& 31)) &&& (255 : Int32)), .int (gi M 1003), .ref 1011]) (σ' := (S, M, O)) (rfl) ?_
  obtain ⟨hc1, hF⟩ := ck_i hF
  refine Ex_chk (b := ib (gi M 1003) 500) (pc' := 104) (L' := [some (.ref 1000), some (.int x1), some (.int x2), some (.int x3), some (.int x4), some (.int x5), some (.int x6), some (.int s0)]) (st' := []) (σ' := (S, (ui M 1011 (upd (ai M 1011) (Int32.toNatClampNeg (gi M 1003)) ((s0 >>> (((24 : Int32) - ((8 : Int32) * (x6 - x6 / (4 : Int32) * (4 : Int32)))) &&& 31)) &&& (255 : Int32)))), O)) rfl hc1 ?_
  refine Ex_go 8 (pc' := 23) (L' := [some (.ref 1000), some (.int x1), some (.int x2), some (.int x3), some (.int x4), some (.int x5), some (.int (x6 + (1 : Int32))), some (.int s0)]) (st' := []) (σ' := (S, (si (ui M 1011 (upd (ai M 1011) (Int32.toNatClampNeg (gi M 1003)) ((s0 >>> (((24 : Int32) - ((8 : Int32) * (x6 - x6 / (4 : Int32) * (4 : Int32)))) &&& 31)) &&& (255 : Int32)))) 1003 ((gi (ui M 1011 (upd (ai M 1011) (Int32.toNatClampNeg (gi M 1003)) ((s0 >>> (((24 : Int32) - ((8 : Int32) * (x6 - x6 / (4 : Int32) * (4 : Int32)))) &&& 31)) &&& (255 : Int32)))) 1003) + (1 : Int32))), O)) (rfl) ?_
  exact Ex_mono (L := [some (.ref 1000), some (.int x1), some (.int x2), some (.int x3), some (.int x4), some (.int x5), some (.int (x6 + (1 : Int32))), none]) (Le_s (Le_s (Le_s (Le_s (Le_s (Le_s (Le_s (Le_n (Le_0))))))))) (hk23 _ _ _ _ _ _ _ _ _ hF) (Nat.le_refl _) (by omega)
def F_m_feed_23 : Nat → Int32 → Int32 → Int32 → Int32 → Int32 → Int32 → Sto → Option (Int32 × Sto)
  | 0, _, _, _, _, _, _, _ => none
  | n + 1, x1, x2, x3, x4, x5, x6, M => if (20 : Int32) ≤ x6 then some ((gi M 1003), M) else if (4 : Int32) ≤ x6 then if (8 : Int32) ≤ x6 then if (12 : Int32) ≤ x6 then if (16 : Int32) ≤ x6 then F_m_feed_76 (F_m_feed_23 n) x1 x2 x3 x4 x5 x6 x5 M else F_m_feed_76 (F_m_feed_23 n) x1 x2 x3 x4 x5 x6 x4 M else F_m_feed_76 (F_m_feed_23 n) x1 x2 x3 x4 x5 x6 x3 M else F_m_feed_76 (F_m_feed_23 n) x1 x2 x3 x4 x5 x6 x2 M else F_m_feed_76 (F_m_feed_23 n) x1 x2 x3 x4 x5 x6 x1 M
set_option maxRecDepth 100000 in
theorem X_m_feed_23 {nL : Nat} {xs : Nat → Int32} {S : Sto} {O : Sto} {d : Nat} (hd : 1 ≤ d) : ∀ n : Nat, ∀ (x1 : Int32) (x2 : Int32) (x3 : Int32) (x4 : Int32) (x5 : Int32) (x6 : Int32) (M : Sto) (r : Int32) (M' : Sto), F_m_feed_23 n x1 x2 x3 x4 x5 x6 M = some (r, M') → EX nL xs 0 MI_2 d 23 [some (.ref 1000), some (.int x1), some (.int x2), some (.int x3), some (.int x4), some (.int x5), some (.int x6), none] [] (S, M, O) (.inl (some (.int r))) (S, M', O) := by
  intro n
  induction n with
  | zero => intro x1 x2 x3 x4 x5 x6 M r M' hF; cases hF
  | succ n ih =>
  intro x1 x2 x3 x4 x5 x6 M r M' hF
  unfold F_m_feed_23 at hF
  refine Ex_go 3 (pc' := if (20 : Int32) ≤ x6 then 120 else 30) (L' := [some (.ref 1000), some (.int x1), some (.int x2), some (.int x3), some (.int x4), some (.int x5), some (.int x6), none]) (st' := []) (σ' := (S, M, O)) (rfl) ?_
  refine Ex_br (fun hc => ?_) (fun hc => ?_)
  · rw [if_pos hc] at hF
    refine Ex_go 2 (pc' := 124) (L' := [some (.ref 1000), some (.int x1), some (.int x2), some (.int x3), some (.int x4), some (.int x5), some (.int x6), none]) (st' := [.int (gi M 1003)]) (σ' := (S, M, O)) (rfl) ?_
    cases hF
    exact Ex_fin rfl
  · rw [if_neg hc] at hF
    refine Ex_go 3 (pc' := if (4 : Int32) ≤ x6 then 40 else 36) (L' := [some (.ref 1000), some (.int x1), some (.int x2), some (.int x3), some (.int x4), some (.int x5), some (.int x6), none]) (st' := []) (σ' := (S, M, O)) (rfl) ?_
    refine Ex_br (fun hc => ?_) (fun hc => ?_)
    · rw [if_pos hc] at hF
      refine Ex_go 3 (pc' := if (8 : Int32) ≤ x6 then 51 else 47) (L' := [some (.ref 1000), some (.int x1), some (.int x2), some (.int x3), some (.int x4), some (.int x5), some (.int x6), none]) (st' := []) (σ' := (S, M, O)) (rfl) ?_
      refine Ex_br (fun hc => ?_) (fun hc => ?_)
      · rw [if_pos hc] at hF
        refine Ex_go 3 (pc' := if (12 : Int32) ≤ x6 then 62 else 58) (L' := [some (.ref 1000), some (.int x1), some (.int x2), some (.int x3), some (.int x4), some (.int x5), some (.int x6), none]) (st' := []) (σ' := (S, M, O)) (rfl) ?_
        refine Ex_br (fun hc => ?_) (fun hc => ?_)
        · rw [if_pos hc] at hF
          refine Ex_go 3 (pc' := if (16 : Int32) ≤ x6 then 74 else 69) (L' := [some (.ref 1000), some (.int x1), some (.int x2), some (.int x3), some (.int x4), some (.int x5), some (.int x6), none]) (st' := []) (σ' := (S, M, O)) (rfl) ?_
          refine Ex_br (fun hc => ?_) (fun hc => ?_)
          · rw [if_pos hc] at hF
            refine Ex_go 1 (pc' := 76) (L' := [some (.ref 1000), some (.int x1), some (.int x2), some (.int x3), some (.int x4), some (.int x5), some (.int x6), none]) (st' := [.int x5]) (σ' := (S, M, O)) (rfl) ?_
            exact Ex_mono (L := [some (.ref 1000), some (.int x1), some (.int x2), some (.int x3), some (.int x4), some (.int x5), some (.int x6), none]) (Le_s (Le_s (Le_s (Le_s (Le_s (Le_s (Le_s (Le_n (Le_0))))))))) (X_m_feed_76 hd ih _ _ _ _ _ _ _ _ _ _ hF) (Nat.le_refl _) (by omega)
          · rw [if_neg hc] at hF
            refine Ex_go 2 (pc' := 76) (L' := [some (.ref 1000), some (.int x1), some (.int x2), some (.int x3), some (.int x4), some (.int x5), some (.int x6), none]) (st' := [.int x4]) (σ' := (S, M, O)) (rfl) ?_
            exact Ex_mono (L := [some (.ref 1000), some (.int x1), some (.int x2), some (.int x3), some (.int x4), some (.int x5), some (.int x6), none]) (Le_s (Le_s (Le_s (Le_s (Le_s (Le_s (Le_s (Le_n (Le_0))))))))) (X_m_feed_76 hd ih _ _ _ _ _ _ _ _ _ _ hF) (Nat.le_refl _) (by omega)
        · rw [if_neg hc] at hF
          refine Ex_go 2 (pc' := 76) (L' := [some (.ref 1000), some (.int x1), some (.int x2), some (.int x3), some (.int x4), some (.int x5), some (.int x6), none]) (st' := [.int x3]) (σ' := (S, M, O)) (rfl) ?_
          exact Ex_mono (L := [some (.ref 1000), some (.int x1), some (.int x2), some (.int x3), some (.int x4), some (.int x5), some (.int x6), none]) (Le_s (Le_s (Le_s (Le_s (Le_s (Le_s (Le_s (Le_n (Le_0))))))))) (X_m_feed_76 hd ih _ _ _ _ _ _ _ _ _ _ hF) (Nat.le_refl _) (by omega)
      · rw [if_neg hc] at hF
        refine Ex_go 2 (pc' := 76) (L' := [some (.ref 1000), some (.int x1), some (.int x2), some (.int x3), some (.int x4), some (.int x5), some (.int x6), none]) (st' := [.int x2]) (σ' := (S, M, O)) (rfl) ?_
        exact Ex_mono (L := [some (.ref 1000), some (.int x1), some (.int x2), some (.int x3), some (.int x4), some (.int x5), some (.int x6), none]) (Le_s (Le_s (Le_s (Le_s (Le_s (Le_s (Le_s (Le_n (Le_0))))))))) (X_m_feed_76 hd ih _ _ _ _ _ _ _ _ _ _ hF) (Nat.le_refl _) (by omega)
    · rw [if_neg hc] at hF
      refine Ex_go 2 (pc' := 76) (L' := [some (.ref 1000), some (.int x1), some (.int x2), some (.int x3), some (.int x4), some (.int x5), some (.int x6), none]) (st' := [.int x1]) (σ' := (S, M, O)) (rfl) ?_
      exact Ex_mono (L := [some (.ref 1000), some (.int x1), some (.int x2), some (.int x3), some (.int x4), some (.int x5), some (.int x6), none]) (Le_s (Le_s (Le_s (Le_s (Le_s (Le_s (Le_s (Le_n (Le_0))))))))) (X_m_feed_76 hd ih _ _ _ _ _ _ _ _ _ _ hF) (Nat.le_refl _) (by omega)
def F_m_feed (x1 : Int32) (x2 : Int32) (x3 : Int32) (x4 : Int32) (x5 : Int32) (M : Sto) : Option (Int32 × Sto) := if ((gi (si M 1001 (0 : Int32)) 1003) + (20 : Int32)) ≤ (500 : Int32) then F_m_feed_23 FU x1 x2 x3 x4 x5 (0 : Int32) (si M 1001 (0 : Int32)) else some ((-1 : Int32), (si M 1001 (0 : Int32)))
set_option maxRecDepth 100000 in
theorem X_m_feed {nL : Nat} {xs : Nat → Int32} {S : Sto} {O : Sto} {d : Nat} (hd : 1 ≤ d) : ∀ (x1 : Int32) (x2 : Int32) (x3 : Int32) (x4 : Int32) (x5 : Int32) (M : Sto) (r : Int32) (M' : Sto), F_m_feed x1 x2 x3 x4 x5 M = some (r, M') → EX nL xs 0 MI_2 d 0 [some (.ref 1000), some (.int x1), some (.int x2), some (.int x3), some (.int x4), some (.int x5), none, none] [] (S, M, O) (.inl (some (.int r))) (S, M', O) := by
  intro x1 x2 x3 x4 x5 M r M' hF
  unfold F_m_feed at hF
  refine Ex_go 9 (pc' := if ((gi (si M 1001 (0 : Int32)) 1003) + (20 : Int32)) ≤ (500 : Int32) then 20 else 18) (L' := [some (.ref 1000), some (.int x1), some (.int x2), some (.int x3), some (.int x4), some (.int x5), none, none]) (st' := []) (σ' := (S, (si M 1001 (0 : Int32)), O)) (rfl) ?_
  refine Ex_br (fun hc => ?_) (fun hc => ?_)
  · rw [if_pos hc] at hF
    refine Ex_go 2 (pc' := 23) (L' := [some (.ref 1000), some (.int x1), some (.int x2), some (.int x3), some (.int x4), some (.int x5), some (.int (0 : Int32)), none]) (st' := []) (σ' := (S, (si M 1001 (0 : Int32)), O)) (rfl) ?_
    exact Ex_mono (L := [some (.ref 1000), some (.int x1), some (.int x2), some (.int x3), some (.int x4), some (.int x5), some (.int (0 : Int32)), none]) (Le_s (Le_s (Le_s (Le_s (Le_s (Le_s (Le_s (Le_n (Le_0))))))))) (X_m_feed_23 hd FU _ _ _ _ _ _ _ _ _ hF) (Nat.le_refl _) (by omega)
  · rw [if_neg hc] at hF
    refine Ex_go 1 (pc' := 19) (L' := [some (.ref 1000), some (.int x1), some (.int x2), some (.int x3), some (.int x4), some (.int x5), none, none]) (st' := [.int (-1 : Int32)]) (σ' := (S, (si M 1001 (0 : Int32)), O)) (rfl) ?_
    cases hF
    exact Ex_fin rfl
def F_l_law_2537 (nL : Nat) (xs : Nat → Int32) (k23 : Int32 → Sto → Sto → Sto → Option (Int32 × Sto × Sto × Sto)) (x4 : Int32) (S : Sto) (M : Sto) (O : Sto) : Option (Int32 × Sto × Sto × Sto) := k23 (x4 + (6 : Int32)) S M O
set_option maxRecDepth 100000 in
theorem X_l_law_2537 {nL : Nat} {xs : Nat → Int32} {d : Nat} (hd : 98 ≤ d) {K : Nat} {k23 : Int32 → Sto → Sto → Sto → Option (Int32 × Sto × Sto × Sto)} (hk23 : ∀ (x4 : Int32) (S : Sto) (M : Sto) (O : Sto) (r : Int32) (S' : Sto) (M' : Sto) (O' : Sto), k23 x4 S M O = some (r, S', M', O') → EX nL xs K MI_281 d 23 [some (.ref 2500), some (.ref 0), some (.ref 1000), some (.ref 2000), some (.int x4), none, none, none] [] (S, M, O) (.inl (some (.int r))) (S', M', O')) : ∀ (x4 : Int32) (S : Sto) (M : Sto) (O : Sto) (r : Int32) (S' : Sto) (M' : Sto) (O' : Sto), F_l_law_2537 nL xs k23 x4 S M O = some (r, S', M', O') → EX nL xs K MI_281 d 2537 [some (.ref 2500), some (.ref 0), some (.ref 1000), some (.ref 2000), some (.int x4), none, none, none] [] (S, M, O) (.inl (some (.int r))) (S', M', O') := by
  intro x4 S M O r S' M' O' hF
  unfold F_l_law_2537 at hF
  refine Ex_go 2 (pc' := 23) (L' := [some (.ref 2500), some (.ref 0), some (.ref 1000), some (.ref 2000), some (.int (x4 + (6 : Int32))), none, none, none]) (st' := []) (σ' := (S, M, O)) (rfl) ?_
  exact Ex_mono (L := [some (.ref 2500), some (.ref 0), some (.ref 1000), some (.ref 2000), some (.int (x4 + (6 : Int32))), none, none, none]) (Le_s (Le_s (Le_s (Le_s (Le_s (Le_n (Le_n (Le_n (Le_0))))))))) (hk23 _ _ _ _ _ _ _ _ hF) (Nat.le_refl _) (by omega)
def F_l_law_212 (nL : Nat) (xs : Nat → Int32) (k23 : Int32 → Sto → Sto → Sto → Option (Int32 × Sto × Sto × Sto)) (x4 : Int32) (S : Sto) (M : Sto) (O : Sto) : Option (Int32 × Sto × Sto × Sto) := ck (ib (x4 + (1 : Int32)) nL) (ck (ib (x4 + (2 : Int32)) nL) (ck (ib (x4 + (3 : Int32)) nL) (ck (ib (x4 + (4 : Int32)) nL) (ck (ib (x4 + (5 : Int32)) nL) (b2 (F_w_feed (xs (Int32.toNatClampNeg (x4 + (1 : Int32)))) (xs (Int32.toNatClampNeg (x4 + (2 : Int32)))) (xs (Int32.toNatClampNeg (x4 + (3 : Int32)))) (xs (Int32.toNatClampNeg (x4 + (4 : Int32)))) (xs (Int32.toNatClampNeg (x4 + (5 : Int32)))) S) (fun r6 S8 => ck (ib (x4 + (1 : Int32)) nL) (ck (ib (x4 + (2 : Int32)) nL) (ck (ib (x4 + (3 : Int32)) nL) (ck (ib (x4 + (4 : Int32)) nL) (ck (ib (x4 + (5 : Int32)) nL) (b2 (F_m_feed (xs (Int32.toNatClampNeg (x4 + (1 : Int32)))) (xs (Int32.toNatClampNeg (x4 + (2 : Int32)))) (xs (Int32.toNatClampNeg (x4 + (3 : Int32)))) (xs (Int32.toNatClampNeg (x4 + (4 : Int32)))) (xs (Int32.toNatClampNeg (x4 + (5 : Int32)))) M) (fun r14 M16 => if r6 = r14 then F_l_law_2537 nL xs k23 x4 S8 M16 O else some ((0 : Int32), S8, M16, O)))))))))))))
set_option maxRecDepth 100000 in
theorem X_l_law_212 {nL : Nat} {xs : Nat → Int32} {d : Nat} (hd : 98 ≤ d) {K : Nat} {k23 : Int32 → Sto → Sto → Sto → Option (Int32 × Sto × Sto × Sto)} (hk23 : ∀ (x4 : Int32) (S : Sto) (M : Sto) (O : Sto) (r : Int32) (S' : Sto) (M' : Sto) (O' : Sto), k23 x4 S M O = some (r, S', M', O') → EX nL xs K MI_281 d 23 [some (.ref 2500), some (.ref 0), some (.ref 1000), some (.ref 2000), some (.int x4), none, none, none] [] (S, M, O) (.inl (some (.int r))) (S', M', O')) : ∀ (x4 : Int32) (S : Sto) (M : Sto) (O : Sto) (r : Int32) (S' : Sto) (M' : Sto) (O' : Sto), F_l_law_212 nL xs k23 x4 S M O = some (r, S', M', O') → EX nL xs K MI_281 d 212 [some (.ref 2500), some (.ref 0), some (.ref 1000), some (.ref 2000), some (.int x4), none, none, none] [] (S, M, O) (.inl (some (.int r))) (S', M', O') := by
  intro x4 S M O r S' M' O' hF
  unfold F_l_law_212 at hF
  refine Ex_go 5 (pc' := 218) (L' := [some (.ref 2500), some (.ref 0), some (.ref 1000), some (.ref 2000), some (.int x4), none, none, none]) (st' := [.int (x4 + (1 : Int32)), .ref 2500, .ref 0]) (σ' := (S, M, O)) (rfl) ?_
  obtain ⟨hc1, hF⟩ := ck_i hF
  refine Ex_chk (b := ib (x4 + (1 : Int32)) nL) (pc' := 219) (L' := [some (.ref 2500), some (.ref 0), some (.ref 1000), some (.ref 2000), some (.int x4), none, none, none]) (st' := [.int (xs (Int32.toNatClampNeg (x4 + (1 : Int32)))), .ref 0]) (σ' := (S, M, O)) rfl hc1 ?_
  refine Ex_go 4 (pc' := 224) (L' := [some (.ref 2500), some (.ref 0), some (.ref 1000), some (.ref 2000), some (.int x4), none, none, none]) (st' := [.int (x4 + (2 : Int32)), .ref 2500, .int (xs (Int32.toNatClampNeg (x4 + (1 : Int32)))), .ref 0]) (σ' := (S, M, O)) (rfl) ?_
  obtain ⟨hc2, hF⟩ := ck_i hF
  refine Ex_chk (b := ib (x4 + (2 : Int32)) nL) (pc' := 225) (L' := [some (.ref 2500), some (.ref 0), some (.ref 1000), some (.ref 2000), some (.int x4), none, none, none]) (st' := [.int (xs (Int32.toNatClampNeg (x4 + (2 : Int32)))), .int (xs (Int32.toNatClampNeg (x4 + (1 : Int32)))), .ref 0]) (σ' := (S, M, O)) rfl hc2 ?_
  refine Ex_go 4 (pc' := 230) (L' := [some (.ref 2500), some (.ref 0), some (.ref 1000), some (.ref 2000), some (.int x4), none, none, none]) (st' := [.int (x4 + (3 : Int32)), .ref 2500, .int (xs (Int32.toNatClampNeg (x4 + (2 : Int32)))), .int (xs (Int32.toNatClampNeg (x4 + (1 : Int32)))), .ref 0]) (σ' := (S, M, O)) (rfl) ?_
  obtain ⟨hc3, hF⟩ := ck_i hF
  refine Ex_chk (b := ib (x4 + (3 : Int32)) nL) (pc' := 231) (L' := [some (.ref 2500), some (.ref 0), some (.ref 1000), some (.ref 2000), some (.int x4), none, none, none]) (st' := [.int (xs (Int32.toNatClampNeg (x4 + (3 : Int32)))), .int (xs (Int32.toNatClampNeg (x4 + (2 : Int32)))), .int (xs (Int32.toNatClampNeg (x4 + (1 : Int32)))), .ref 0]) (σ' := (S, M, O)) rfl hc3 ?_
  refine Ex_go 4 (pc' := 236) (L' := [some (.ref 2500), some (.ref 0), some (.ref 1000), some (.ref 2000), some (.int x4), none, none, none]) (st' := [.int (x4 + (4 : Int32)), .ref 2500, .int (xs (Int32.toNatClampNeg (x4 + (3 : Int32)))), .int (xs (Int32.toNatClampNeg (x4 + (2 : Int32)))), .int (xs (Int32.toNatClampNeg (x4 + (1 : Int32)))), .ref 0]) (σ' := (S, M, O)) (rfl) ?_
  obtain ⟨hc4, hF⟩ := ck_i hF
  refine Ex_chk (b := ib (x4 + (4 : Int32)) nL) (pc' := 237) (L' := [some (.ref 2500), some (.ref 0), some (.ref 1000), some (.ref 2000), some (.int x4), none, none, none]) (st' := [.int (xs (Int32.toNatClampNeg (x4 + (4 : Int32)))), .int (xs (Int32.toNatClampNeg (x4 + (3 : Int32)))), .int (xs (Int32.toNatClampNeg (x4 + (2 : Int32)))), .int (xs (Int32.toNatClampNeg (x4 + (1 : Int32)))), .ref 0]) (σ' := (S, M, O)) rfl hc4 ?_
  refine Ex_go 4 (pc' := 242) (L' := [some (.ref 2500), some (.ref 0), some (.ref 1000), some (.ref 2000), some (.int x4), none, none, none]) (st' := [.int (x4 + (5 : Int32)), .ref 2500, .int (xs (Int32.toNatClampNeg (x4 + (4 : Int32)))), .int (xs (Int32.toNatClampNeg (x4 + (3 : Int32)))), .int (xs (Int32.toNatClampNeg (x4 + (2 : Int32)))), .int (xs (Int32.toNatClampNeg (x4 + (1 : Int32)))), .ref 0]) (σ' := (S, M, O)) (rfl) ?_
  obtain ⟨hc5, hF⟩ := ck_i hF
  refine Ex_chk (b := ib (x4 + (5 : Int32)) nL) (pc' := 243) (L' := [some (.ref 2500), some (.ref 0), some (.ref 1000), some (.ref 2000), some (.int x4), none, none, none]) (st' := [.int (xs (Int32.toNatClampNeg (x4 + (5 : Int32)))), .int (xs (Int32.toNatClampNeg (x4 + (4 : Int32)))), .int (xs (Int32.toNatClampNeg (x4 + (3 : Int32)))), .int (xs (Int32.toNatClampNeg (x4 + (2 : Int32)))), .int (xs (Int32.toNatClampNeg (x4 + (1 : Int32)))), .ref 0]) (σ' := (S, M, O)) rfl hc5 ?_
  obtain ⟨r6, S8, hx7, hF⟩ := b2_i hF
  refine Ex_callK (K1 := 0) (K2 := K) (kind := 2) (y := 1) (as := [.ref 0, .int (xs (Int32.toNatClampNeg (x4 + (1 : Int32)))), .int (xs (Int32.toNatClampNeg (x4 + (2 : Int32)))), .int (xs (Int32.toNatClampNeg (x4 + (3 : Int32)))), .int (xs (Int32.toNatClampNeg (x4 + (4 : Int32)))), .int (xs (Int32.toNatClampNeg (x4 + (5 : Int32))))]) (rest := []) (L0 := [some (.ref 0), some (.int (xs (Int32.toNatClampNeg (x4 + (1 : Int32))))), some (.int (xs (Int32.toNatClampNeg (x4 + (2 : Int32))))), some (.int (xs (Int32.toNatClampNeg (x4 + (3 : Int32))))), some (.int (xs (Int32.toNatClampNeg (x4 + (4 : Int32))))), some (.int (xs (Int32.toNatClampNeg (x4 + (5 : Int32)))))]) (d' := 2) (v := some (.int r6)) (σ1 := (S8, M, O)) rfl rfl mt_1 rfl rfl (by omega) (X_w_feed (Nat.le_refl _) _ _ _ _ _ _ _ _ hx7) (Ex_st (st2 := [.int r6]) rfl ?_) (by omega)
  refine Ex_go 5 (pc' := 252) (L' := [some (.ref 2500), some (.ref 0), some (.ref 1000), some (.ref 2000), some (.int x4), none, none, none]) (st' := [.int (x4 + (1 : Int32)), .ref 2500, .ref 1000, .int r6]) (σ' := (S8, M, O)) (rfl) ?_
  obtain ⟨hc9, hF⟩ := ck_i hF
  refine Ex_chk (b := ib (x4 + (1 : Int32)) nL) (pc' := 253) (L' := [some (.ref 2500), some (.ref 0), some (.ref 1000), some (.ref 2000), some (.int x4), none, none, none]) (st' := [.int (xs (Int32.toNatClampNeg (x4 + (1 : Int32)))), .ref 1000, .int r6]) (σ' := (S8, M, O)) rfl hc9 ?_
  refine Ex_go 4 (pc' := 258) (L' := [some (.ref 2500), some (.ref 0), some (.ref 1000), some (.ref 2000), some (.int x4), none, none, none]) (st' := [.int (x4 + (2 : Int32)), .ref 2500, .int (xs (Int32.toNatClampNeg (x4 + (1 : Int32)))), .ref 1000, .int r6]) (σ' := (S8, M, O)) (rfl) ?_
  obtain ⟨hc10, hF⟩ := ck_i hF
  refine Ex_chk (b := ib (x4 + (2 : Int32)) nL) (pc' := 259) (L' := [some (.ref 2500), some (.ref 0), some (.ref 1000), some (.ref 2000), some (.int x4), none, none, none]) (st' := [.int (xs (Int32.toNatClampNeg (x4 + (2 : Int32)))), .int (xs (Int32.toNatClampNeg (x4 + (1 : Int32)))), .ref 1000, .int r6]) (σ' := (S8, M, O)) rfl hc10 ?_
  refine Ex_go 4 (pc' := 264) (L' := [some (.ref 2500), some (.ref 0), some (.ref 1000), some (.ref 2000), some (.int x4), none, none, none]) (st' := [.int (x4 + (3 : Int32)), .ref 2500, .int (xs (Int32.toNatClampNeg (x4 + (2 : Int32)))), .int (xs (Int32.toNatClampNeg (x4 + (1 : Int32)))), .ref 1000, .int r6]) (σ' := (S8, M, O)) (rfl) ?_
  obtain ⟨hc11, hF⟩ := ck_i hF
  refine Ex_chk (b := ib (x4 + (3 : Int32)) nL) (pc' := 265) (L' := [some (.ref 2500), some (.ref 0), some (.ref 1000), some (.ref 2000), some (.int x4), none, none, none]) (st' := [.int (xs (Int32.toNatClampNeg (x4 + (3 : Int32)))), .int (xs (Int32.toNatClampNeg (x4 + (2 : Int32)))), .int (xs (Int32.toNatClampNeg (x4 + (1 : Int32)))), .ref 1000, .int r6]) (σ' := (S8, M, O)) rfl hc11 ?_
  refine Ex_go 4 (pc' := 270) (L' := [some (.ref 2500), some (.ref 0), some (.ref 1000), some (.ref 2000), some (.int x4), none, none, none]) (st' := [.int (x4 + (4 : Int32)), .ref 2500, .int (xs (Int32.toNatClampNeg (x4 + (3 : Int32)))), .int (xs (Int32.toNatClampNeg (x4 + (2 : Int32)))), .int (xs (Int32.toNatClampNeg (x4 + (1 : Int32)))), .ref 1000, .int r6]) (σ' := (S8, M, O)) (rfl) ?_
  obtain ⟨hc12, hF⟩ := ck_i hF
  refine Ex_chk (b := ib (x4 + (4 : Int32)) nL) (pc' := 271) (L' := [some (.ref 2500), some (.ref 0), some (.ref 1000), some (.ref 2000), some (.int x4), none, none, none]) (st' := [.int (xs (Int32.toNatClampNeg (x4 + (4 : Int32)))), .int (xs (Int32.toNatClampNeg (x4 + (3 : Int32)))), .int (xs (Int32.toNatClampNeg (x4 + (2 : Int32)))), .int (xs (Int32.toNatClampNeg (x4 + (1 : Int32)))), .ref 1000, .int r6]) (σ' := (S8, M, O)) rfl hc12 ?_
  refine Ex_go 4 (pc' := 276) (L' := [some (.ref 2500), some (.ref 0), some (.ref 1000), some (.ref 2000), some (.int x4), none, none, none]) (st' := [.int (x4 + (5 : Int32)), .ref 2500, .int (xs (Int32.toNatClampNeg (x4 + (4 : Int32)))), .int (xs (Int32.toNatClampNeg (x4 + (3 : Int32)))), .int (xs (Int32.toNatClampNeg (x4 + (2 : Int32)))), .int (xs (Int32.toNatClampNeg (x4 + (1 : Int32)))), .ref 1000, .int r6]) (σ' := (S8, M, O)) (rfl) ?_
  obtain ⟨hc13, hF⟩ := ck_i hF
  refine Ex_chk (b := ib (x4 + (5 : Int32)) nL) (pc' := 277) (L' := [some (.ref 2500), some (.ref 0), some (.ref 1000), some (.ref 2000), some (.int x4), none, none, none]) (st' := [.int (xs (Int32.toNatClampNeg (x4 + (5 : Int32)))), .int (xs (Int32.toNatClampNeg (x4 + (4 : Int32)))), .int (xs (Int32.toNatClampNeg (x4 + (3 : Int32)))), .int (xs (Int32.toNatClampNeg (x4 + (2 : Int32)))), .int (xs (Int32.toNatClampNeg (x4 + (1 : Int32)))), .ref 1000, .int r6]) (σ' := (S8, M, O)) rfl hc13 ?_
  obtain ⟨r14, M16, hx15, hF⟩ := b2_i hF
  refine Ex_callK (K1 := 0) (K2 := K) (kind := 2) (y := 2) (as := [.ref 1000, .int (xs (Int32.toNatClampNeg (x4 + (1 : Int32)))), .int (xs (Int32.toNatClampNeg (x4 + (2 : Int32)))), .int (xs (Int32.toNatClampNeg (x4 + (3 : Int32)))), .int (xs (Int32.toNatClampNeg (x4 + (4 : Int32)))), .int (xs (Int32.toNatClampNeg (x4 + (5 : Int32))))]) (rest := [.int r6]) (L0 := [some (.ref 1000), some (.int (xs (Int32.toNatClampNeg (x4 + (1 : Int32))))), some (.int (xs (Int32.toNatClampNeg (x4 + (2 : Int32))))), some (.int (xs (Int32.toNatClampNeg (x4 + (3 : Int32))))), some (.int (xs (Int32.toNatClampNeg (x4 + (4 : Int32))))), some (.int (xs (Int32.toNatClampNeg (x4 + (5 : Int32))))), none, none]) (d' := 1) (v := some (.int r14)) (σ1 := (S8, M16, O)) rfl rfl mt_2 rfl rfl (by omega) (X_m_feed (Nat.le_refl _) _ _ _ _ _ _ _ _ hx15) (Ex_st (st2 := [.int r14, .int r6]) rfl ?_) (by omega)
  refine Ex_go 1 (pc' := if r6 = r14 then 2537 else 283) (L' := [some (.ref 2500), some (.ref 0), some (.ref 1000), some (.ref 2000), some (.int x4), none, none, none]) (st' := []) (σ' := (S8, M16, O)) (rfl) ?_
  refine Ex_br (fun hc => ?_) (fun hc => ?_)
  · rw [if_pos hc] at hF
    exact Ex_mono (L := [some (.ref 2500), some (.ref 0), some (.ref 1000), some (.ref 2000), some (.int x4), none, none, none]) (Le_s (Le_s (Le_s (Le_s (Le_s (Le_n (Le_n (Le_n (Le_0))))))))) (X_l_law_2537 hd hk23 _ _ _ _ _ _ _ _ hF) (Nat.le_refl _) (by omega)
  · rw [if_neg hc] at hF
    refine Ex_go 1 (pc' := 284) (L' := [some (.ref 2500), some (.ref 0), some (.ref 1000), some (.ref 2000), some (.int x4), none, none, none]) (st' := [.int (0 : Int32)]) (σ' := (S8, M16, O)) (rfl) ?_
    cases hF
    exact Ex_fin rfl
def F_l_law_338 (nL : Nat) (xs : Nat → Int32) (k23 : Int32 → Sto → Sto → Sto → Option (Int32 × Sto × Sto × Sto)) (x4 : Int32) (S : Sto) (M : Sto) (O : Sto) : Option (Int32 × Sto × Sto × Sto) := F_l_law_2537 nL xs k23 x4 S M O
set_option maxRecDepth 100000 in
theorem X_l_law_338 {nL : Nat} {xs : Nat → Int32} {d : Nat} (hd : 98 ≤ d) {K : Nat} {k23 : Int32 → Sto → Sto → Sto → Option (Int32 × Sto × Sto × Sto)} (hk23 : ∀ (x4 : Int32) (S : Sto) (M : Sto) (O : Sto) (r : Int32) (S' : Sto) (M' : Sto) (O' : Sto), k23 x4 S M O = some (r, S', M', O') → EX nL xs K MI_281 d 23 [some (.ref 2500), some (.ref 0), some (.ref 1000), some (.ref 2000), some (.int x4), none, none, none] [] (S, M, O) (.inl (some (.int r))) (S', M', O')) : ∀ (x4 : Int32) (S : Sto) (M : Sto) (O : Sto) (r : Int32) (S' : Sto) (M' : Sto) (O' : Sto), F_l_law_338 nL xs k23 x4 S M O = some (r, S', M', O') → EX nL xs K MI_281 d 338 [some (.ref 2500), some (.ref 0), some (.ref 1000), some (.ref 2000), some (.int x4), none, none, none] [] (S, M, O) (.inl (some (.int r))) (S', M', O') := by
  intro x4 S M O r S' M' O' hF
  unfold F_l_law_338 at hF
  refine Ex_go 1 (pc' := 2537) (L' := [some (.ref 2500), some (.ref 0), some (.ref 1000), some (.ref 2000), some (.int x4), none, none, none]) (st' := []) (σ' := (S, M, O)) (rfl) ?_
  exact Ex_mono (L := [some (.ref 2500), some (.ref 0), some (.ref 1000), some (.ref 2000), some (.int x4), none, none, none]) (Le_s (Le_s (Le_s (Le_s (Le_s (Le_n (Le_n (Le_n (Le_0))))))))) (X_l_law_2537 hd hk23 _ _ _ _ _ _ _ _ hF) (Nat.le_refl _) (by omega)
def F_l_law_285 (nL : Nat) (xs : Nat → Int32) (k23 : Int32 → Sto → Sto → Sto → Option (Int32 × Sto × Sto × Sto)) (x4 : Int32) (S : Sto) (M : Sto) (O : Sto) : Option (Int32 × Sto × Sto × Sto) := ck (ib (x4 + (1 : Int32)) nL) (b3 (F_l_sea (xs (Int32.toNatClampNeg (x4 + (1 : Int32)))) S O) (fun r2 S4 O5 => ck (ib (x4 + (1 : Int32)) nL) (b2 (F_m_sea (xs (Int32.toNatClampNeg (x4 + (1 : Int32)))) M) (fun r7 M9 => b1 (F_m_thrown M9) (fun r10 => if r10 = r2 then if r2 = 0 then if (al O5 2000 (Int32.toNatClampNeg (0 : Int32))) = (Int32.toInt64 r7) then F_l_law_338 nL xs k23 x4 S4 M9 O5 else some ((0 : Int32), S4, M9, O5) else F_l_law_338 nL xs k23 x4 S4 M9 O5 else some ((0 : Int32), S4, M9, O5))))))
set_option maxRecDepth 100000 in
theorem X_l_law_285 {nL : Nat} {xs : Nat → Int32} {d : Nat} (hd : 98 ≤ d) {K : Nat} {k23 : Int32 → Sto → Sto → Sto → Option (Int32 × Sto × Sto × Sto)} (hk23 : ∀ (x4 : Int32) (S : Sto) (M : Sto) (O : Sto) (r : Int32) (S' : Sto) (M' : Sto) (O' : Sto), k23 x4 S M O = some (r, S', M', O') → EX nL xs K MI_281 d 23 [some (.ref 2500), some (.ref 0), some (.ref 1000), some (.ref 2000), some (.int x4), none, none, none] [] (S, M, O) (.inl (some (.int r))) (S', M', O')) : ∀ (x4 : Int32) (S : Sto) (M : Sto) (O : Sto) (r : Int32) (S' : Sto) (M' : Sto) (O' : Sto), F_l_law_285 nL xs k23 x4 S M O = some (r, S', M', O') → EX nL xs (K + 1) MI_281 d 285 [some (.ref 2500), some (.ref 0), some (.ref 1000), some (.ref 2000), some (.int x4), none, none, none] [] (S, M, O) (.inl (some (.int r))) (S', M', O') := by
  intro x4 S M O r S' M' O' hF
  unfold F_l_law_285 at hF
  refine Ex_go 5 (pc' := 291) (L' := [some (.ref 2500), some (.ref 0), some (.ref 1000), some (.ref 2000), some (.int x4), none, none, none]) (st' := [.int (x4 + (1 : Int32)), .ref 2500, .ref 0]) (σ' := (S, M, O)) (rfl) ?_
  obtain ⟨hc1, hF⟩ := ck_i hF
  refine Ex_chk (b := ib (x4 + (1 : Int32)) nL) (pc' := 292) (L' := [some (.ref 2500), some (.ref 0), some (.ref 1000), some (.ref 2000), some (.int x4), none, none, none]) (st' := [.int (xs (Int32.toNatClampNeg (x4 + (1 : Int32)))), .ref 0]) (σ' := (S, M, O)) rfl hc1 ?_
  refine Ex_go 1 (pc' := 293) (L' := [some (.ref 2500), some (.ref 0), some (.ref 1000), some (.ref 2000), some (.int x4), none, none, none]) (st' := [.ref 2000, .int (xs (Int32.toNatClampNeg (x4 + (1 : Int32)))), .ref 0]) (σ' := (S, M, O)) (rfl) ?_
  obtain ⟨r2, S4, O5, hx3, hF⟩ := b3_i hF
  refine Ex_callK (K1 := 1) (K2 := K) (kind := 4) (y := 49) (as := [.ref 0, .int (xs (Int32.toNatClampNeg (x4 + (1 : Int32)))), .ref 2000]) (rest := []) (L0 := [some (.ref 0), some (.int (xs (Int32.toNatClampNeg (x4 + (1 : Int32))))), some (.ref 2000), none]) (d' := 97) (v := some (.int r2)) (σ1 := (S4, M, O5)) rfl rfl mt_49 rfl rfl (by omega) (X_l_sea (Nat.le_refl _) _ _ _ _ _ _ hx3) (Ex_st (st2 := [.int r2]) rfl ?_) (by omega)
  refine Ex_go 6 (pc' := 304) (L' := [some (.ref 2500), some (.ref 0), some (.ref 1000), some (.ref 2000), some (.int x4), some (.int r2), none, none]) (st' := [.int (x4 + (1 : Int32)), .ref 2500, .ref 1000]) (σ' := (S4, M, O5)) (rfl) ?_
  obtain ⟨hc6, hF⟩ := ck_i hF
  refine Ex_chk (b := ib (x4 + (1 : Int32)) nL) (pc' := 305) (L' := [some (.ref 2500), some (.ref 0), some (.ref 1000), some (.ref 2000), some (.int x4), some (.int r2), none, none]) (st' := [.int (xs (Int32.toNatClampNeg (x4 + (1 : Int32)))), .ref 1000]) (σ' := (S4, M, O5)) rfl hc6 ?_
  obtain ⟨r7, M9, hx8, hF⟩ := b2_i hF
  refine Ex_callK (K1 := 0) (K2 := K) (kind := 2) (y := 76) (as := [.ref 1000, .int (xs (Int32.toNatClampNeg (x4 + (1 : Int32))))]) (rest := []) (L0 := [some (.ref 1000), some (.int (xs (Int32.toNatClampNeg (x4 + (1 : Int32))))), none]) (d' := 82) (v := some (.int r7)) (σ1 := (S4, M9, O5)) rfl rfl mt_76 rfl rfl (by omega) (X_m_sea (Nat.le_refl _) _ _ _ _ hx8) (Ex_st (st2 := [.int r7]) rfl ?_) (by omega)
  refine Ex_go 2 (pc' := 311) (L' := [some (.ref 2500), some (.ref 0), some (.ref 1000), some (.ref 2000), some (.int x4), some (.int r2), some (.int r7), none]) (st' := [.ref 1000]) (σ' := (S4, M9, O5)) (rfl) ?_
  obtain ⟨r10, hx11, hF⟩ := b1_i hF
  refine Ex_callK (K1 := 0) (K2 := K) (kind := 2) (y := 77) (as := [.ref 1000]) (rest := []) (L0 := [some (.ref 1000)]) (d' := 1) (v := some (.int r10)) (σ1 := (S4, M9, O5)) rfl rfl mt_77 rfl rfl (by omega) (X_m_thrown (Nat.le_refl _) _ _ hx11) (Ex_st (st2 := [.int r10]) rfl ?_) (by omega)
  refine Ex_go 2 (pc' := if r10 = r2 then 321 else 319) (L' := [some (.ref 2500), some (.ref 0), some (.ref 1000), some (.ref 2000), some (.int x4), some (.int r2), some (.int r7), none]) (st' := []) (σ' := (S4, M9, O5)) (rfl) ?_
  refine Ex_br (fun hc => ?_) (fun hc => ?_)
  · rw [if_pos hc] at hF
    refine Ex_go 2 (pc' := if ¬ r2 = 0 then 338 else 326) (L' := [some (.ref 2500), some (.ref 0), some (.ref 1000), some (.ref 2000), some (.int x4), some (.int r2), some (.int r7), none]) (st' := []) (σ' := (S4, M9, O5)) (rfl) ?_
    refine Ex_brN (fun hc => ?_) (fun hc => ?_)
    · rw [if_pos hc] at hF
      refine Ex_go 2 (pc' := 328) (L' := [some (.ref 2500), some (.ref 0), some (.ref 1000), some (.ref 2000), some (.int x4), some (.int r2), some (.int r7), none]) (st' := [.int (0 : Int32), .ref 2000]) (σ' := (S4, M9, O5)) (rfl) ?_
      refine Ex_chk (b := ib (0 : Int32) 1) (pc' := 329) (L' := [some (.ref 2500), some (.ref 0), some (.ref 1000), some (.ref 2000), some (.int x4), some (.int r2), some (.int r7), none]) (st' := [.long (al O5 2000 (Int32.toNatClampNeg (0 : Int32)))]) (σ' := (S4, M9, O5)) rfl (by decide) ?_
      refine Ex_go 4 (pc' := if (lg_cmp (al O5 2000 (Int32.toNatClampNeg (0 : Int32))) (Int32.toInt64 r7)) = 0 then 338 else 336) (L' := [some (.ref 2500), some (.ref 0), some (.ref 1000), some (.ref 2000), some (.int x4), some (.int r2), some (.int r7), none]) (st' := []) (σ' := (S4, M9, O5)) (rfl) ?_
      refine Ex_brI lc_eq (fun hc => ?_) (fun hc => ?_)
      · rw [if_pos hc] at hF
        exact Ex_mono (L := [some (.ref 2500), some (.ref 0), some (.ref 1000), some (.ref 2000), some (.int x4), none, none, none]) (Le_s (Le_s (Le_s (Le_s (Le_s (Le_n (Le_n (Le_n (Le_0))))))))) (X_l_law_338 hd hk23 _ _ _ _ _ _ _ _ hF) (Nat.le_refl _) (by omega)
      · rw [if_neg hc] at hF
        refine Ex_go 1 (pc' := 337) (L' := [some (.ref 2500), some (.ref 0), some (.ref 1000), some (.ref 2000), some (.int x4), some (.int r2), some (.int r7), none]) (st' := [.int (0 : Int32)]) (σ' := (S4, M9, O5)) (rfl) ?_
        cases hF
        exact Ex_fin rfl
    · rw [if_neg hc] at hF
      exact Ex_mono (L := [some (.ref 2500), some (.ref 0), some (.ref 1000), some (.ref 2000), some (.int x4), none, none, none]) (Le_s (Le_s (Le_s (Le_s (Le_s (Le_n (Le_n (Le_n (Le_0))))))))) (X_l_law_338 hd hk23 _ _ _ _ _ _ _ _ hF) (Nat.le_refl _) (by omega)
  · rw [if_neg hc] at hF
    refine Ex_go 1 (pc' := 320) (L' := [some (.ref 2500), some (.ref 0), some (.ref 1000), some (.ref 2000), some (.int x4), some (.int r2), some (.int r7), none]) (st' := [.int (0 : Int32)]) (σ' := (S4, M9, O5)) (rfl) ?_
    cases hF
    exact Ex_fin rfl
def F_l_law_341 (nL : Nat) (xs : Nat → Int32) (k23 : Int32 → Sto → Sto → Sto → Option (Int32 × Sto × Sto × Sto)) (x4 : Int32) (S : Sto) (M : Sto) (O : Sto) : Option (Int32 × Sto × Sto × Sto) := b1 (F_w_fault S) (fun r1 => b2 (F_m_fault M) (fun r3 M5 => if r1 = r3 then F_l_law_2537 nL xs k23 x4 S M5 O else some ((0 : Int32), S, M5, O)))
set_option maxRecDepth 100000 in
theorem X_l_law_341 {nL : Nat} {xs : Nat → Int32} {d : Nat} (hd : 98 ≤ d) {K : Nat} {k23 : Int32 → Sto → Sto → Sto → Option (Int32 × Sto × Sto × Sto)} (hk23 : ∀ (x4 : Int32) (S : Sto) (M : Sto) (O : Sto) (r : Int32) (S' : Sto) (M' : Sto) (O' : Sto), k23 x4 S M O = some (r, S', M', O') → EX nL xs K MI_281 d 23 [some (.ref 2500), some (.ref 0), some (.ref 1000), some (.ref 2000), some (.int x4), none, none, none] [] (S, M, O) (.inl (some (.int r))) (S', M', O')) : ∀ (x4 : Int32) (S : Sto) (M : Sto) (O : Sto) (r : Int32) (S' : Sto) (M' : Sto) (O' : Sto), F_l_law_341 nL xs k23 x4 S M O = some (r, S', M', O') → EX nL xs K MI_281 d 341 [some (.ref 2500), some (.ref 0), some (.ref 1000), some (.ref 2000), some (.int x4), none, none, none] [] (S, M, O) (.inl (some (.int r))) (S', M', O') := by
  intro x4 S M O r S' M' O' hF
  unfold F_l_law_341 at hF
  refine Ex_go 1 (pc' := 342) (L' := [some (.ref 2500), some (.ref 0), some (.ref 1000), some (.ref 2000), some (.int x4), none, none, none]) (st' := [.ref 0]) (σ' := (S, M, O)) (rfl) ?_
  obtain ⟨r1, hx2, hF⟩ := b1_i hF
  refine Ex_callK (K1 := 0) (K2 := K) (kind := 2) (y := 78) (as := [.ref 0]) (rest := []) (L0 := [some (.ref 0)]) (d' := 1) (v := some (.int r1)) (σ1 := (S, M, O)) rfl rfl mt_78 rfl rfl (by omega) (X_w_fault (Nat.le_refl _) _ _ hx2) (Ex_st (st2 := [.int r1]) rfl ?_) (by omega)
  refine Ex_go 1 (pc' := 346) (L' := [some (.ref 2500), some (.ref 0), some (.ref 1000), some (.ref 2000), some (.int x4), none, none, none]) (st' := [.ref 1000, .int r1]) (σ' := (S, M, O)) (rfl) ?_
  obtain ⟨r3, M5, hx4, hF⟩ := b2_i hF
  refine Ex_callK (K1 := 0) (K2 := K) (kind := 2) (y := 79) (as := [.ref 1000]) (rest := [.int r1]) (L0 := [some (.ref 1000)]) (d' := 1) (v := some (.int r3)) (σ1 := (S, M5, O)) rfl rfl mt_79 rfl rfl (by omega) (X_m_fault (Nat.le_refl _) _ _ _ hx4) (Ex_st (st2 := [.int r3, .int r1]) rfl ?_) (by omega)
  refine Ex_go 1 (pc' := if r1 = r3 then 2537 else 352) (L' := [some (.ref 2500), some (.ref 0), some (.ref 1000), some (.ref 2000), some (.int x4), none, none, none]) (st' := []) (σ' := (S, M5, O)) (rfl) ?_
  refine Ex_br (fun hc => ?_) (fun hc => ?_)
  · rw [if_pos hc] at hF
    exact Ex_mono (L := [some (.ref 2500), some (.ref 0), some (.ref 1000), some (.ref 2000), some (.int x4), none, none, none]) (Le_s (Le_s (Le_s (Le_s (Le_s (Le_n (Le_n (Le_n (Le_0))))))))) (X_l_law_2537 hd hk23 _ _ _ _ _ _ _ _ hF) (Nat.le_refl _) (by omega)
  · rw [if_neg hc] at hF
    refine Ex_go 1 (pc' := 353) (L' := [some (.ref 2500), some (.ref 0), some (.ref 1000), some (.ref 2000), some (.int x4), none, none, none]) (st' := [.int (0 : Int32)]) (σ' := (S, M5, O)) (rfl) ?_
    cases hF
    exact Ex_fin rfl
def F_l_law_406 (nL : Nat) (xs : Nat → Int32) (k23 : Int32 → Sto → Sto → Sto → Option (Int32 × Sto × Sto × Sto)) (x4 : Int32) (S : Sto) (M : Sto) (O : Sto) : Option (Int32 × Sto × Sto × Sto) := F_l_law_2537 nL xs k23 x4 S M O
set_option maxRecDepth 100000 in
theorem X_l_law_406 {nL : Nat} {xs : Nat → Int32} {d : Nat} (hd : 98 ≤ d) {K : Nat} {k23 : Int32 → Sto → Sto → Sto → Option (Int32 × Sto × Sto × Sto)} (hk23 : ∀ (x4 : Int32) (S : Sto) (M : Sto) (O : Sto) (r : Int32) (S' : Sto) (M' : Sto) (O' : Sto), k23 x4 S M O = some (r, S', M', O') → EX nL xs K MI_281 d 23 [some (.ref 2500), some (.ref 0), some (.ref 1000), some (.ref 2000), some (.int x4), none, none, none] [] (S, M, O) (.inl (some (.int r))) (S', M', O')) : ∀ (x4 : Int32) (S : Sto) (M : Sto) (O : Sto) (r : Int32) (S' : Sto) (M' : Sto) (O' : Sto), F_l_law_406 nL xs k23 x4 S M O = some (r, S', M', O') → EX nL xs K MI_281 d 406 [some (.ref 2500), some (.ref 0), some (.ref 1000), some (.ref 2000), some (.int x4), none, none, none] [] (S, M, O) (.inl (some (.int r))) (S', M', O') := by
  intro x4 S M O r S' M' O' hF
  unfold F_l_law_406 at hF
  refine Ex_go 1 (pc' := 2537) (L' := [some (.ref 2500), some (.ref 0), some (.ref 1000), some (.ref 2000), some (.int x4), none, none, none]) (st' := []) (σ' := (S, M, O)) (rfl) ?_
  exact Ex_mono (L := [some (.ref 2500), some (.ref 0), some (.ref 1000), some (.ref 2000), some (.int x4), none, none, none]) (Le_s (Le_s (Le_s (Le_s (Le_s (Le_n (Le_n (Le_n (Le_0))))))))) (X_l_law_2537 hd hk23 _ _ _ _ _ _ _ _ hF) (Nat.le_refl _) (by omega)
def F_l_law_354 (nL : Nat) (xs : Nat → Int32) (k23 : Int32 → Sto → Sto → Sto → Option (Int32 × Sto × Sto × Sto)) (x4 : Int32) (S : Sto) (M : Sto) (O : Sto) : Option (Int32 × Sto × Sto × Sto) := ck (ib (x4 + (1 : Int32)) nL) (b2 (F_l_count (xs (Int32.toNatClampNeg (x4 + (1 : Int32)))) S O) (fun r2 O4 => ck (ib (x4 + (1 : Int32)) nL) (b2 (F_m_count (xs (Int32.toNatClampNeg (x4 + (1 : Int32)))) M) (fun r6 M8 => b1 (F_m_thrown M8) (fun r9 => if r9 = r2 then if r2 = 0 then if (al O4 2000 (Int32.toNatClampNeg (0 : Int32))) = r6 then F_l_law_406 nL xs k23 x4 S M8 O4 else some ((0 : Int32), S, M8, O4) else F_l_law_406 nL xs k23 x4 S M8 O4 else some ((0 : Int32), S, M8, O4))))))
set_option maxRecDepth 100000 in
theorem X_l_law_354 {nL : Nat} {xs : Nat → Int32} {d : Nat} (hd : 98 ≤ d) {K : Nat} {k23 : Int32 → Sto → Sto → Sto → Option (Int32 × Sto × Sto × Sto)} (hk23 : ∀ (x4 : Int32) (S : Sto) (M : Sto) (O : Sto) (r : Int32) (S' : Sto) (M' : Sto) (O' : Sto), k23 x4 S M O = some (r, S', M', O') → EX nL xs K MI_281 d 23 [some (.ref 2500), some (.ref 0), some (.ref 1000), some (.ref 2000), some (.int x4), none, none, none] [] (S, M, O) (.inl (some (.int r))) (S', M', O')) : ∀ (x4 : Int32) (S : Sto) (M : Sto) (O : Sto) (r : Int32) (S' : Sto) (M' : Sto) (O' : Sto), F_l_law_354 nL xs k23 x4 S M O = some (r, S', M', O') → EX nL xs (K + 1) MI_281 d 354 [some (.ref 2500), some (.ref 0), some (.ref 1000), some (.ref 2000), some (.int x4), none, none, none] [] (S, M, O) (.inl (some (.int r))) (S', M', O') := by
  intro x4 S M O r S' M' O' hF
  unfold F_l_law_354 at hF
  refine Ex_go 5 (pc' := 360) (L' := [some (.ref 2500), some (.ref 0), some (.ref 1000), some (.ref 2000), some (.int x4), none, none, none]) (st' := [.int (x4 + (1 : Int32)), .ref 2500, .ref 0]) (σ' := (S, M, O)) (rfl) ?_
  obtain ⟨hc1, hF⟩ := ck_i hF
  refine Ex_chk (b := ib (x4 + (1 : Int32)) nL) (pc' := 361) (L' := [some (.ref 2500), some (.ref 0), some (.ref 1000), some (.ref 2000), some (.int x4), none, none, none]) (st' := [.int (xs (Int32.toNatClampNeg (x4 + (1 : Int32)))), .ref 0]) (σ' := (S, M, O)) rfl hc1 ?_
  refine Ex_go 1 (pc' := 362) (L' := [some (.ref 2500), some (.ref 0), some (.ref 1000), some (.ref 2000), some (.int x4), none, none, none]) (st' := [.ref 2000, .int (xs (Int32.toNatClampNeg (x4 + (1 : Int32)))), .ref 0]) (σ' := (S, M, O)) (rfl) ?_
  obtain ⟨r2, O4, hx3, hF⟩ := b2_i hF
  refine Ex_callK (K1 := 1) (K2 := K) (kind := 4) (y := 84) (as := [.ref 0, .int (xs (Int32.toNatClampNeg (x4 + (1 : Int32)))), .ref 2000]) (rest := []) (L0 := [some (.ref 0), some (.int (xs (Int32.toNatClampNeg (x4 + (1 : Int32))))), some (.ref 2000), none]) (d' := 9) (v := some (.int r2)) (σ1 := (S, M, O4)) rfl rfl mt_84 rfl rfl (by omega) (X_l_count (Nat.le_refl _) _ _ _ _ _ hx3) (Ex_st (st2 := [.int r2]) rfl ?_) (by omega)
  refine Ex_go 6 (pc' := 373) (L' := [some (.ref 2500), some (.ref 0), some (.ref 1000), some (.ref 2000), some (.int x4), some (.int r2), none, none]) (st' := [.int (x4 + (1 : Int32)), .ref 2500, .ref 1000]) (σ' := (S, M, O4)) (rfl) ?_
  obtain ⟨hc5, hF⟩ := ck_i hF
  refine Ex_chk (b := ib (x4 + (1 : Int32)) nL) (pc' := 374) (L' := [some (.ref 2500), some (.ref 0), some (.ref 1000), some (.ref 2000), some (.int x4), some (.int r2), none, none]) (st' := [.int (xs (Int32.toNatClampNeg (x4 + (1 : Int32)))), .ref 1000]) (σ' := (S, M, O4)) rfl hc5 ?_
  obtain ⟨r6, M8, hx7, hF⟩ := b2_i hF
  refine Ex_callK (K1 := 0) (K2 := K) (kind := 2) (y := 86) (as := [.ref 1000, .int (xs (Int32.toNatClampNeg (x4 + (1 : Int32))))]) (rest := []) (L0 := [some (.ref 1000), some (.int (xs (Int32.toNatClampNeg (x4 + (1 : Int32)))))]) (d' := 2) (v := some (.long r6)) (σ1 := (S, M8, O4)) rfl rfl mt_86 rfl rfl (by omega) (X_m_count (Nat.le_refl _) _ _ _ _ hx7) (Ex_st (st2 := [.long r6]) rfl ?_) (by omega)
  refine Ex_go 2 (pc' := 380) (L' := [some (.ref 2500), some (.ref 0), some (.ref 1000), some (.ref 2000), some (.int x4), some (.int r2), some (.long r6), none]) (st' := [.ref 1000]) (σ' := (S, M8, O4)) (rfl) ?_
  obtain ⟨r9, hx10, hF⟩ := b1_i hF
  refine Ex_callK (K1 := 0) (K2 := K) (kind := 2) (y := 77) (as := [.ref 1000]) (rest := []) (L0 := [some (.ref 1000)]) (d' := 1) (v := some (.int r9)) (σ1 := (S, M8, O4)) rfl rfl mt_77 rfl rfl (by omega) (X_m_thrown (Nat.le_refl _) _ _ hx10) (Ex_st (st2 := [.int r9]) rfl ?_) (by omega)
  refine Ex_go 2 (pc' := if r9 = r2 then 390 else 388) (L' := [some (.ref 2500), some (.ref 0), some (.ref 1000), some (.ref 2000), some (.int x4), some (.int r2), some (.long r6), none]) (st' := []) (σ' := (S, M8, O4)) (rfl) ?_
  refine Ex_br (fun hc => ?_) (fun hc => ?_)
  · rw [if_pos hc] at hF
    refine Ex_go 2 (pc' := if ¬ r2 = 0 then 406 else 395) (L' := [some (.ref 2500), some (.ref 0), some (.ref 1000), some (.ref 2000), some (.int x4), some (.int r2), some (.long r6), none]) (st' := []) (σ' := (S, M8, O4)) (rfl) ?_
    refine Ex_brN (fun hc => ?_) (fun hc => ?_)
    · rw [if_pos hc] at hF
      refine Ex_go 2 (pc' := 397) (L' := [some (.ref 2500), some (.ref 0), some (.ref 1000), some (.ref 2000), some (.int x4), some (.int r2), some (.long r6), none]) (st' := [.int (0 : Int32), .ref 2000]) (σ' := (S, M8, O4)) (rfl) ?_
      refine Ex_chk (b := ib (0 : Int32) 1) (pc' := 398) (L' := [some (.ref 2500), some (.ref 0), some (.ref 1000), some (.ref 2000), some (.int x4), some (.int r2), some (.long r6), none]) (st' := [.long (al O4 2000 (Int32.toNatClampNeg (0 : Int32)))]) (σ' := (S, M8, O4)) rfl (by decide) ?_
      refine Ex_go 3 (pc' := if (lg_cmp (al O4 2000 (Int32.toNatClampNeg (0 : Int32))) r6) = 0 then 406 else 404) (L' := [some (.ref 2500), some (.ref 0), some (.ref 1000), some (.ref 2000), some (.int x4), some (.int r2), some (.long r6), none]) (st' := []) (σ' := (S, M8, O4)) (rfl) ?_
      refine Ex_brI lc_eq (fun hc => ?_) (fun hc => ?_)
      · rw [if_pos hc] at hF
        exact Ex_mono (L := [some (.ref 2500), some (.ref 0), some (.ref 1000), some (.ref 2000), some (.int x4), none, none, none]) (Le_s (Le_s (Le_s (Le_s (Le_s (Le_n (Le_n (Le_n (Le_0))))))))) (X_l_law_406 hd hk23 _ _ _ _ _ _ _ _ hF) (Nat.le_refl _) (by omega)
      · rw [if_neg hc] at hF
        refine Ex_go 1 (pc' := 405) (L' := [some (.ref 2500), some (.ref 0), some (.ref 1000), some (.ref 2000), some (.int x4), some (.int r2), some (.long r6), none]) (st' := [.int (0 : Int32)]) (σ' := (S, M8, O4)) (rfl) ?_
        cases hF
        exact Ex_fin rfl
    · rw [if_neg hc] at hF
      exact Ex_mono (L := [some (.ref 2500), some (.ref 0), some (.ref 1000), some (.ref 2000), some (.int x4), none, none, none]) (Le_s (Le_s (Le_s (Le_s (Le_s (Le_n (Le_n (Le_n (Le_0))))))))) (X_l_law_406 hd hk23 _ _ _ _ _ _ _ _ hF) (Nat.le_refl _) (by omega)
  · rw [if_neg hc] at hF
    refine Ex_go 1 (pc' := 389) (L' := [some (.ref 2500), some (.ref 0), some (.ref 1000), some (.ref 2000), some (.int x4), some (.int r2), some (.long r6), none]) (st' := [.int (0 : Int32)]) (σ' := (S, M8, O4)) (rfl) ?_
    cases hF
    exact Ex_fin rfl
def F_l_law_473 (nL : Nat) (xs : Nat → Int32) (k23 : Int32 → Sto → Sto → Sto → Option (Int32 × Sto × Sto × Sto)) (x4 : Int32) (S : Sto) (M : Sto) (O : Sto) : Option (Int32 × Sto × Sto × Sto) := F_l_law_2537 nL xs k23 x4 S M O
set_option maxRecDepth 100000 in
theorem X_l_law_473 {nL : Nat} {xs : Nat → Int32} {d : Nat} (hd : 98 ≤ d) {K : Nat} {k23 : Int32 → Sto → Sto → Sto → Option (Int32 × Sto × Sto × Sto)} (hk23 : ∀ (x4 : Int32) (S : Sto) (M : Sto) (O : Sto) (r : Int32) (S' : Sto) (M' : Sto) (O' : Sto), k23 x4 S M O = some (r, S', M', O') → EX nL xs K MI_281 d 23 [some (.ref 2500), some (.ref 0), some (.ref 1000), some (.ref 2000), some (.int x4), none, none, none] [] (S, M, O) (.inl (some (.int r))) (S', M', O')) : ∀ (x4 : Int32) (S : Sto) (M : Sto) (O : Sto) (r : Int32) (S' : Sto) (M' : Sto) (O' : Sto), F_l_law_473 nL xs k23 x4 S M O = some (r, S', M', O') → EX nL xs K MI_281 d 473 [some (.ref 2500), some (.ref 0), some (.ref 1000), some (.ref 2000), some (.int x4), none, none, none] [] (S, M, O) (.inl (some (.int r))) (S', M', O') := by
  intro x4 S M O r S' M' O' hF
  unfold F_l_law_473 at hF
  refine Ex_go 1 (pc' := 2537) (L' := [some (.ref 2500), some (.ref 0), some (.ref 1000), some (.ref 2000), some (.int x4), none, none, none]) (st' := []) (σ' := (S, M, O)) (rfl) ?_
  exact Ex_mono (L := [some (.ref 2500), some (.ref 0), some (.ref 1000), some (.ref 2000), some (.int x4), none, none, none]) (Le_s (Le_s (Le_s (Le_s (Le_s (Le_n (Le_n (Le_n (Le_0))))))))) (X_l_law_2537 hd hk23 _ _ _ _ _ _ _ _ hF) (Nat.le_refl _) (by omega)
def F_l_law_409 (nL : Nat) (xs : Nat → Int32) (k23 : Int32 → Sto → Sto → Sto → Option (Int32 × Sto × Sto × Sto)) (x4 : Int32) (S : Sto) (M : Sto) (O : Sto) : Option (Int32 × Sto × Sto × Sto) := ck (ib (x4 + (1 : Int32)) nL) (ck (ib (x4 + (2 : Int32)) nL) (b2 (F_l_net (xs (Int32.toNatClampNeg (x4 + (1 : Int32)))) (xs (Int32.toNatClampNeg (x4 + (2 : Int32)))) S O) (fun r3 O5 => ck (ib (x4 + (1 : Int32)) nL) (ck (ib (x4 + (2 : Int32)) nL) (b2 (F_m_net (xs (Int32.toNatClampNeg (x4 + (1 : Int32)))) (xs (Int32.toNatClampNeg (x4 + (2 : Int32)))) M) (fun r8 M10 => b1 (F_m_thrown M10) (fun r11 => if r11 = r3 then if r3 = 0 then if (al O5 2000 (Int32.toNatClampNeg (0 : Int32))) = r8 then F_l_law_473 nL xs k23 x4 S M10 O5 else some ((0 : Int32), S, M10, O5) else F_l_law_473 nL xs k23 x4 S M10 O5 else some ((0 : Int32), S, M10, O5))))))))
set_option maxRecDepth 100000 in
theorem X_l_law_409 {nL : Nat} {xs : Nat → Int32} {d : Nat} (hd : 98 ≤ d) {K : Nat} {k23 : Int32 → Sto → Sto → Sto → Option (Int32 × Sto × Sto × Sto)} (hk23 : ∀ (x4 : Int32) (S : Sto) (M : Sto) (O : Sto) (r : Int32) (S' : Sto) (M' : Sto) (O' : Sto), k23 x4 S M O = some (r, S', M', O') → EX nL xs K MI_281 d 23 [some (.ref 2500), some (.ref 0), some (.ref 1000), some (.ref 2000), some (.int x4), none, none, none] [] (S, M, O) (.inl (some (.int r))) (S', M', O')) : ∀ (x4 : Int32) (S : Sto) (M : Sto) (O : Sto) (r : Int32) (S' : Sto) (M' : Sto) (O' : Sto), F_l_law_409 nL xs k23 x4 S M O = some (r, S', M', O') → EX nL xs (K + 1) MI_281 d 409 [some (.ref 2500), some (.ref 0), some (.ref 1000), some (.ref 2000), some (.int x4), none, none, none] [] (S, M, O) (.inl (some (.int r))) (S', M', O') := by
  intro x4 S M O r S' M' O' hF
  unfold F_l_law_409 at hF
  refine Ex_go 5 (pc' := 415) (L' := [some (.ref 2500), some (.ref 0), some (.ref 1000), some (.ref 2000), some (.int x4), none, none, none]) (st' := [.int (x4 + (1 : Int32)), .ref 2500, .ref 0]) (σ' := (S, M, O)) (rfl) ?_
  obtain ⟨hc1, hF⟩ := ck_i hF
  refine Ex_chk (b := ib (x4 + (1 : Int32)) nL) (pc' := 416) (L' := [some (.ref 2500), some (.ref 0), some (.ref 1000), some (.ref 2000), some (.int x4), none, none, none]) (st' := [.int (xs (Int32.toNatClampNeg (x4 + (1 : Int32)))), .ref 0]) (σ' := (S, M, O)) rfl hc1 ?_
  refine Ex_go 4 (pc' := 421) (L' := [some (.ref 2500), some (.ref 0), some (.ref 1000), some (.ref 2000), some (.int x4), none, none, none]) (st' := [.int (x4 + (2 : Int32)), .ref 2500, .int (xs (Int32.toNatClampNeg (x4 + (1 : Int32)))), .ref 0]) (σ' := (S, M, O)) (rfl) ?_
  obtain ⟨hc2, hF⟩ := ck_i hF
  refine Ex_chk (b := ib (x4 + (2 : Int32)) nL) (pc' := 422) (L' := [some (.ref 2500), some (.ref 0), some (.ref 1000), some (.ref 2000), some (.int x4), none, none, none]) (st' := [.int (xs (Int32.toNatClampNeg (x4 + (2 : Int32)))), .int (xs (Int32.toNatClampNeg (x4 + (1 : Int32)))), .ref 0]) (σ' := (S, M, O)) rfl hc2 ?_
  refine Ex_go 1 (pc' := 423) (L' := [some (.ref 2500), some (.ref 0), some (.ref 1000), some (.ref 2000), some (.int x4), none, none, none]) (st' := [.ref 2000, .int (xs (Int32.toNatClampNeg (x4 + (2 : Int32)))), .int (xs (Int32.toNatClampNeg (x4 + (1 : Int32)))), .ref 0]) (σ' := (S, M, O)) (rfl) ?_
  obtain ⟨r3, O5, hx4, hF⟩ := b2_i hF
  refine Ex_callK (K1 := 1) (K2 := K) (kind := 4) (y := 90) (as := [.ref 0, .int (xs (Int32.toNatClampNeg (x4 + (1 : Int32)))), .int (xs (Int32.toNatClampNeg (x4 + (2 : Int32)))), .ref 2000]) (rest := []) (L0 := [some (.ref 0), some (.int (xs (Int32.toNatClampNeg (x4 + (1 : Int32))))), some (.int (xs (Int32.toNatClampNeg (x4 + (2 : Int32))))), some (.ref 2000), none]) (d' := 9) (v := some (.int r3)) (σ1 := (S, M, O5)) rfl rfl mt_90 rfl rfl (by omega) (X_l_net (Nat.le_refl _) _ _ _ _ _ _ hx4) (Ex_st (st2 := [.int r3]) rfl ?_) (by omega)
  refine Ex_go 6 (pc' := 434) (L' := [some (.ref 2500), some (.ref 0), some (.ref 1000), some (.ref 2000), some (.int x4), some (.int r3), none, none]) (st' := [.int (x4 + (1 : Int32)), .ref 2500, .ref 1000]) (σ' := (S, M, O5)) (rfl) ?_
  obtain ⟨hc6, hF⟩ := ck_i hF
  refine Ex_chk (b := ib (x4 + (1 : Int32)) nL) (pc' := 435) (L' := [some (.ref 2500), some (.ref 0), some (.ref 1000), some (.ref 2000), some (.int x4), some (.int r3), none, none]) (st' := [.int (xs (Int32.toNatClampNeg (x4 + (1 : Int32)))), .ref 1000]) (σ' := (S, M, O5)) rfl hc6 ?_
  refine Ex_go 4 (pc' := 440) (L' := [some (.ref 2500), some (.ref 0), some (.ref 1000), some (.ref 2000), some (.int x4), some (.int r3), none, none]) (st' := [.int (x4 + (2 : Int32)), .ref 2500, .int (xs (Int32.toNatClampNeg (x4 + (1 : Int32)))), .ref 1000]) (σ' := (S, M, O5)) (rfl) ?_
  obtain ⟨hc7, hF⟩ := ck_i hF
  refine Ex_chk (b := ib (x4 + (2 : Int32)) nL) (pc' := 441) (L' := [some (.ref 2500), some (.ref 0), some (.ref 1000), some (.ref 2000), some (.int x4), some (.int r3), none, none]) (st' := [.int (xs (Int32.toNatClampNeg (x4 + (2 : Int32)))), .int (xs (Int32.toNatClampNeg (x4 + (1 : Int32)))), .ref 1000]) (σ' := (S, M, O5)) rfl hc7 ?_
  obtain ⟨r8, M10, hx9, hF⟩ := b2_i hF
  refine Ex_callK (K1 := 0) (K2 := K) (kind := 2) (y := 94) (as := [.ref 1000, .int (xs (Int32.toNatClampNeg (x4 + (1 : Int32)))), .int (xs (Int32.toNatClampNeg (x4 + (2 : Int32))))]) (rest := []) (L0 := [some (.ref 1000), some (.int (xs (Int32.toNatClampNeg (x4 + (1 : Int32))))), some (.int (xs (Int32.toNatClampNeg (x4 + (2 : Int32)))))]) (d' := 2) (v := some (.long r8)) (σ1 := (S, M10, O5)) rfl rfl mt_94 rfl rfl (by omega) (X_m_net (Nat.le_refl _) _ _ _ _ _ hx9) (Ex_st (st2 := [.long r8]) rfl ?_) (by omega)
  refine Ex_go 2 (pc' := 447) (L' := [some (.ref 2500), some (.ref 0), some (.ref 1000), some (.ref 2000), some (.int x4), some (.int r3), some (.long r8), none]) (st' := [.ref 1000]) (σ' := (S, M10, O5)) (rfl) ?_
  obtain ⟨r11, hx12, hF⟩ := b1_i hF
  refine Ex_callK (K1 := 0) (K2 := K) (kind := 2) (y := 77) (as := [.ref 1000]) (rest := []) (L0 := [some (.ref 1000)]) (d' := 1) (v := some (.int r11)) (σ1 := (S, M10, O5)) rfl rfl mt_77 rfl rfl (by omega) (X_m_thrown (Nat.le_refl _) _ _ hx12) (Ex_st (st2 := [.int r11]) rfl ?_) (by omega)
  refine Ex_go 2 (pc' := if r11 = r3 then 457 else 455) (L' := [some (.ref 2500), some (.ref 0), some (.ref 1000), some (.ref 2000), some (.int x4), some (.int r3), some (.long r8), none]) (st' := []) (σ' := (S, M10, O5)) (rfl) ?_
  refine Ex_br (fun hc => ?_) (fun hc => ?_)
  · rw [if_pos hc] at hF
    refine Ex_go 2 (pc' := if ¬ r3 = 0 then 473 else 462) (L' := [some (.ref 2500), some (.ref 0), some (.ref 1000), some (.ref 2000), some (.int x4), some (.int r3), some (.long r8), none]) (st' := []) (σ' := (S, M10, O5)) (rfl) ?_
    refine Ex_brN (fun hc => ?_) (fun hc => ?_)
    · rw [if_pos hc] at hF
      refine Ex_go 2 (pc' := 464) (L' := [some (.ref 2500), some (.ref 0), some (.ref 1000), some (.ref 2000), some (.int x4), some (.int r3), some (.long r8), none]) (st' := [.int (0 : Int32), .ref 2000]) (σ' := (S, M10, O5)) (rfl) ?_
      refine Ex_chk (b := ib (0 : Int32) 1) (pc' := 465) (L' := [some (.ref 2500), some (.ref 0), some (.ref 1000), some (.ref 2000), some (.int x4), some (.int r3), some (.long r8), none]) (st' := [.long (al O5 2000 (Int32.toNatClampNeg (0 : Int32)))]) (σ' := (S, M10, O5)) rfl (by decide) ?_
      refine Ex_go 3 (pc' := if (lg_cmp (al O5 2000 (Int32.toNatClampNeg (0 : Int32))) r8) = 0 then 473 else 471) (L' := [some (.ref 2500), some (.ref 0), some (.ref 1000), some (.ref 2000), some (.int x4), some (.int r3), some (.long r8), none]) (st' := []) (σ' := (S, M10, O5)) (rfl) ?_
      refine Ex_brI lc_eq (fun hc => ?_) (fun hc => ?_)
      · rw [if_pos hc] at hF
        exact Ex_mono (L := [some (.ref 2500), some (.ref 0), some (.ref 1000), some (.ref 2000), some (.int x4), none, none, none]) (Le_s (Le_s (Le_s (Le_s (Le_s (Le_n (Le_n (Le_n (Le_0))))))))) (X_l_law_473 hd hk23 _ _ _ _ _ _ _ _ hF) (Nat.le_refl _) (by omega)
      · rw [if_neg hc] at hF
        refine Ex_go 1 (pc' := 472) (L' := [some (.ref 2500), some (.ref 0), some (.ref 1000), some (.ref 2000), some (.int x4), some (.int r3), some (.long r8), none]) (st' := [.int (0 : Int32)]) (σ' := (S, M10, O5)) (rfl) ?_
        cases hF
        exact Ex_fin rfl
    · rw [if_neg hc] at hF
      exact Ex_mono (L := [some (.ref 2500), some (.ref 0), some (.ref 1000), some (.ref 2000), some (.int x4), none, none, none]) (Le_s (Le_s (Le_s (Le_s (Le_s (Le_n (Le_n (Le_n (Le_0))))))))) (X_l_law_473 hd hk23 _ _ _ _ _ _ _ _ hF) (Nat.le_refl _) (by omega)
  · rw [if_neg hc] at hF
    refine Ex_go 1 (pc' := 456) (L' := [some (.ref 2500), some (.ref 0), some (.ref 1000), some (.ref 2000), some (.int x4), some (.int r3), some (.long r8), none]) (st' := [.int (0 : Int32)]) (σ' := (S, M10, O5)) (rfl) ?_
    cases hF
    exact Ex_fin rfl
def F_l_law_536 (nL : Nat) (xs : Nat → Int32) (k23 : Int32 → Sto → Sto → Sto → Option (Int32 × Sto × Sto × Sto)) (x4 : Int32) (S : Sto) (M : Sto) (O : Sto) : Option (Int32 × Sto × Sto × Sto) := F_l_law_2537 nL xs k23 x4 S M O
set_option maxRecDepth 100000 in
theorem X_l_law_536 {nL : Nat} {xs : Nat → Int32} {d : Nat} (hd : 98 ≤ d) {K : Nat} {k23 : Int32 → Sto → Sto → Sto → Option (Int32 × Sto × Sto × Sto)} (hk23 : ∀ (x4 : Int32) (S : Sto) (M : Sto) (O : Sto) (r : Int32) (S' : Sto) (M' : Sto) (O' : Sto), k23 x4 S M O = some (r, S', M', O') → EX nL xs K MI_281 d 23 [some (.ref 2500), some (.ref 0), some (.ref 1000), some (.ref 2000), some (.int x4), none, none, none] [] (S, M, O) (.inl (some (.int r))) (S', M', O')) : ∀ (x4 : Int32) (S : Sto) (M : Sto) (O : Sto) (r : Int32) (S' : Sto) (M' : Sto) (O' : Sto), F_l_law_536 nL xs k23 x4 S M O = some (r, S', M', O') → EX nL xs K MI_281 d 536 [some (.ref 2500), some (.ref 0), some (.ref 1000), some (.ref 2000), some (.int x4), none, none, none] [] (S, M, O) (.inl (some (.int r))) (S', M', O') := by
  intro x4 S M O r S' M' O' hF
  unfold F_l_law_536 at hF
  refine Ex_go 1 (pc' := 2537) (L' := [some (.ref 2500), some (.ref 0), some (.ref 1000), some (.ref 2000), some (.int x4), none, none, none]) (st' := []) (σ' := (S, M, O)) (rfl) ?_
  exact Ex_mono (L := [some (.ref 2500), some (.ref 0), some (.ref 1000), some (.ref 2000), some (.int x4), none, none, none]) (Le_s (Le_s (Le_s (Le_s (Le_s (Le_n (Le_n (Le_n (Le_0))))))))) (X_l_law_2537 hd hk23 _ _ _ _ _ _ _ _ hF) (Nat.le_refl _) (by omega)
def F_l_law_530 (nL : Nat) (xs : Nat → Int32) (k23 : Int32 → Sto → Sto → Sto → Option (Int32 × Sto × Sto × Sto)) (x4 : Int32) (s0 : Int64) (s1 : Int64) (S : Sto) (M : Sto) (O : Sto) : Option (Int32 × Sto × Sto × Sto) := if s0 = s1 then F_l_law_536 nL xs k23 x4 S M O else some ((0 : Int32), S, M, O)
set_option maxRecDepth 100000 in
theorem X_l_law_530 {nL : Nat} {xs : Nat → Int32} {d : Nat} (hd : 98 ≤ d) {K : Nat} {k23 : Int32 → Sto → Sto → Sto → Option (Int32 × Sto × Sto × Sto)} (hk23 : ∀ (x4 : Int32) (S : Sto) (M : Sto) (O : Sto) (r : Int32) (S' : Sto) (M' : Sto) (O' : Sto), k23 x4 S M O = some (r, S', M', O') → EX nL xs K MI_281 d 23 [some (.ref 2500), some (.ref 0), some (.ref 1000), some (.ref 2000), some (.int x4), none, none, none] [] (S, M, O) (.inl (some (.int r))) (S', M', O')) : ∀ (x4 : Int32) (s0 : Int64) (s1 : Int64) (S : Sto) (M : Sto) (O : Sto) (r : Int32) (S' : Sto) (M' : Sto) (O' : Sto), F_l_law_530 nL xs k23 x4 s0 s1 S M O = some (r, S', M', O') → EX nL xs K MI_281 d 530 [some (.ref 2500), some (.ref 0), some (.ref 1000), some (.ref 2000), some (.int x4), none, none, none] [.long s1, .long s0] (S, M, O) (.inl (some (.int r))) (S', M', O') := by
  intro x4 s0 s1 S M O r S' M' O' hF
  unfold F_l_law_530 at hF
  refine Ex_go 2 (pc' := if (lg_cmp s0 s1) = 0 then 536 else 534) (L' := [some (.ref 2500), some (.ref 0), some (.ref 1000), some (.ref 2000), some (.int x4), none, none, none]) (st' := []) (σ' := (S, M, O)) (rfl) ?_
  refine Ex_brI lc_eq (fun hc => ?_) (fun hc => ?_)
  · rw [if_pos hc] at hF
    exact Ex_mono (L := [some (.ref 2500), some (.ref 0), some (.ref 1000), some (.ref 2000), some (.int x4), none, none, none]) (Le_s (Le_s (Le_s (Le_s (Le_s (Le_n (Le_n (Le_n (Le_0))))))))) (X_l_law_536 hd hk23 _ _ _ _ _ _ _ _ hF) (Nat.le_refl _) (by omega)
  · rw [if_neg hc] at hF
    refine Ex_go 1 (pc' := 535) (L' := [some (.ref 2500), some (.ref 0), some (.ref 1000), some (.ref 2000), some (.int x4), none, none, none]) (st' := [.int (0 : Int32)]) (σ' := (S, M, O)) (rfl) ?_
    cases hF
    exact Ex_fin rfl
def F_l_law_476 (nL : Nat) (xs : Nat → Int32) (k23 : Int32 → Sto → Sto → Sto → Option (Int32 × Sto × Sto × Sto)) (x4 : Int32) (S : Sto) (M : Sto) (O : Sto) : Option (Int32 × Sto × Sto × Sto) := ck (ib (x4 + (1 : Int32)) nL) (b2 (F_l_pond (xs (Int32.toNatClampNeg (x4 + (1 : Int32)))) S O) (fun r2 O4 => ck (ib (x4 + (1 : Int32)) nL) (b2 (F_m_pond (xs (Int32.toNatClampNeg (x4 + (1 : Int32)))) M) (fun r6 M8 => b1 (F_m_thrown M8) (fun r9 => if r9 = r2 then if r2 = 0 then if r6 = 0 then F_l_law_530 nL xs k23 x4 (al O4 2000 (Int32.toNatClampNeg (0 : Int32))) (0 : Int64) S M8 O4 else F_l_law_530 nL xs k23 x4 (al O4 2000 (Int32.toNatClampNeg (0 : Int32))) (1 : Int64) S M8 O4 else F_l_law_536 nL xs k23 x4 S M8 O4 else some ((0 : Int32), S, M8, O4))))))
set_option maxRecDepth 100000 in
theorem X_l_law_476 {nL : Nat} {xs : Nat → Int32} {d : Nat} (hd : 98 ≤ d) {K : Nat} {k23 : Int32 → Sto → Sto → Sto → Option (Int32 × Sto × Sto × Sto)} (hk23 : ∀ (x4 : Int32) (S : Sto) (M : Sto) (O : Sto) (r : Int32) (S' : Sto) (M' : Sto) (O' : Sto), k23 x4 S M O = some (r, S', M', O') → EX nL xs K MI_281 d 23 [some (.ref 2500), some (.ref 0), some (.ref 1000), some (.ref 2000), some (.int x4), none, none, none] [] (S, M, O) (.inl (some (.int r))) (S', M', O')) : ∀ (x4 : Int32) (S : Sto) (M : Sto) (O : Sto) (r : Int32) (S' : Sto) (M' : Sto) (O' : Sto), F_l_law_476 nL xs k23 x4 S M O = some (r, S', M', O') → EX nL xs (K + 1) MI_281 d 476 [some (.ref 2500), some (.ref 0), some (.ref 1000), some (.ref 2000), some (.int x4), none, none, none] [] (S, M, O) (.inl (some (.int r))) (S', M', O') := by
  intro x4 S M O r S' M' O' hF
  unfold F_l_law_476 at hF
  refine Ex_go 5 (pc' := 482) (L' := [some (.ref 2500), some (.ref 0), some (.ref 1000), some (.ref 2000), some (.int x4), none, none, none]) (st' := [.int (x4 + (1 : Int32)), .ref 2500, .ref 0]) (σ' := (S, M, O)) (rfl) ?_
  obtain ⟨hc1, hF⟩ := ck_i hF
  refine Ex_chk (b := ib (x4 + (1 : Int32)) nL) (pc' := 483) (L' := [some (.ref 2500), some (.ref 0), some (.ref 1000), some (.ref 2000), some (.int x4), none, none, none]) (st' := [.int (xs (Int32.toNatClampNeg (x4 + (1 : Int32)))), .ref 0]) (σ' := (S, M, O)) rfl hc1 ?_
  refine Ex_go 1 (pc' := 484) (L' := [some (.ref 2500), some (.ref 0), some (.ref 1000), some (.ref 2000), some (.int x4), none, none, none]) (st' := [.ref 2000, .int (xs (Int32.toNatClampNeg (x4 + (1 : Int32)))), .ref 0]) (σ' := (S, M, O)) (rfl) ?_
  obtain ⟨r2, O4, hx3, hF⟩ := b2_i hF
  refine Ex_callK (K1 := 1) (K2 := K) (kind := 4) (y := 96) (as := [.ref 0, .int (xs (Int32.toNatClampNeg (x4 + (1 : Int32)))), .ref 2000]) (rest := []) (L0 := [some (.ref 0), some (.int (xs (Int32.toNatClampNeg (x4 + (1 : Int32))))), some (.ref 2000), none]) (d' := 9) (v := some (.int r2)) (σ1 := (S, M, O4)) rfl rfl mt_96 rfl rfl (by omega) (X_l_pond (Nat.le_refl _) _ _ _ _ _ hx3) (Ex_st (st2 := [.int r2]) rfl ?_) (by omega)
  refine Ex_go 6 (pc' := 495) (L' := [some (.ref 2500), some (.ref 0), some (.ref 1000), some (.ref 2000), some (.int x4), some (.int r2), none, none]) (st' := [.int (x4 + (1 : Int32)), .ref 2500, .ref 1000]) (σ' := (S, M, O4)) (rfl) ?_
  obtain ⟨hc5, hF⟩ := ck_i hF
  refine Ex_chk (b := ib (x4 + (1 : Int32)) nL) (pc' := 496) (L' := [some (.ref 2500), some (.ref 0), some (.ref 1000), some (.ref 2000), some (.int x4), some (.int r2), none, none]) (st' := [.int (xs (Int32.toNatClampNeg (x4 + (1 : Int32)))), .ref 1000]) (σ' := (S, M, O4)) rfl hc5 ?_
  obtain ⟨r6, M8, hx7, hF⟩ := b2_i hF
  refine Ex_callK (K1 := 0) (K2 := K) (kind := 2) (y := 97) (as := [.ref 1000, .int (xs (Int32.toNatClampNeg (x4 + (1 : Int32))))]) (rest := []) (L0 := [some (.ref 1000), some (.int (xs (Int32.toNatClampNeg (x4 + (1 : Int32)))))]) (d' := 2) (v := some (.int r6)) (σ1 := (S, M8, O4)) rfl rfl mt_97 rfl rfl (by omega) (X_m_pond (Nat.le_refl _) _ _ _ _ hx7) (Ex_st (st2 := [.int r6]) rfl ?_) (by omega)
  refine Ex_go 2 (pc' := 502) (L' := [some (.ref 2500), some (.ref 0), some (.ref 1000), some (.ref 2000), some (.int x4), some (.int r2), some (.int r6), none]) (st' := [.ref 1000]) (σ' := (S, M8, O4)) (rfl) ?_
  obtain ⟨r9, hx10, hF⟩ := b1_i hF
  refine Ex_callK (K1 := 0) (K2 := K) (kind := 2) (y := 77) (as := [.ref 1000]) (rest := []) (L0 := [some (.ref 1000)]) (d' := 1) (v := some (.int r9)) (σ1 := (S, M8, O4)) rfl rfl mt_77 rfl rfl (by omega) (X_m_thrown (Nat.le_refl _) _ _ hx10) (Ex_st (st2 := [.int r9]) rfl ?_) (by omega)
  refine Ex_go 2 (pc' := if r9 = r2 then 512 else 510) (L' := [some (.ref 2500), some (.ref 0), some (.ref 1000), some (.ref 2000), some (.int x4), some (.int r2), some (.int r6), none]) (st' := []) (σ' := (S, M8, O4)) (rfl) ?_
  refine Ex_br (fun hc => ?_) (fun hc => ?_)
  · rw [if_pos hc] at hF
    refine Ex_go 2 (pc' := if ¬ r2 = 0 then 536 else 517) (L' := [some (.ref 2500), some (.ref 0), some (.ref 1000), some (.ref 2000), some (.int x4), some (.int r2), some (.int r6), none]) (st' := []) (σ' := (S, M8, O4)) (rfl) ?_
    refine Ex_brN (fun hc => ?_) (fun hc => ?_)
    · rw [if_pos hc] at hF
      refine Ex_go 2 (pc' := 519) (L' := [some (.ref 2500), some (.ref 0), some (.ref 1000), some (.ref 2000), some (.int x4), some (.int r2), some (.int r6), none]) (st' := [.int (0 : Int32), .ref 2000]) (σ' := (S, M8, O4)) (rfl) ?_
      refine Ex_chk (b := ib (0 : Int32) 1) (pc' := 520) (L' := [some (.ref 2500), some (.ref 0), some (.ref 1000), some (.ref 2000), some (.int x4), some (.int r2), some (.int r6), none]) (st' := [.long (al O4 2000 (Int32.toNatClampNeg (0 : Int32)))]) (σ' := (S, M8, O4)) rfl (by decide) ?_
      refine Ex_go 2 (pc' := if r6 = 0 then 529 else 525) (L' := [some (.ref 2500), some (.ref 0), some (.ref 1000), some (.ref 2000), some (.int x4), some (.int r2), some (.int r6), none]) (st' := [.long (al O4 2000 (Int32.toNatClampNeg (0 : Int32)))]) (σ' := (S, M8, O4)) (rfl) ?_
      refine Ex_br (fun hc => ?_) (fun hc => ?_)
      · rw [if_pos hc] at hF
        refine Ex_go 1 (pc' := 530) (L' := [some (.ref 2500), some (.ref 0), some (.ref 1000), some (.ref 2000), some (.int x4), some (.int r2), some (.int r6), none]) (st' := [.long (0 : Int64), .long (al O4 2000 (Int32.toNatClampNeg (0 : Int32)))]) (σ' := (S, M8, O4)) (rfl) ?_
        exact Ex_mono (L := [some (.ref 2500), some (.ref 0), some (.ref 1000), some (.ref 2000), some (.int x4), none, none, none]) (Le_s (Le_s (Le_s (Le_s (Le_s (Le_n (Le_n (Le_n (Le_0))))))))) (X_l_law_530 hd hk23 _ _ _ _ _ _ _ _ _ _ hF) (Nat.le_refl _) (by omega)
      · rw [if_neg hc] at hF
        refine Ex_go 2 (pc' := 530) (L' := [some (.ref 2500), some (.ref 0), some (.ref 1000), some (.ref 2000), some (.int x4), some (.int r2), some (.int r6), none]) (st' := [.long (1 : Int64), .long (al O4 2000 (Int32.toNatClampNeg (0 : Int32)))]) (σ' := (S, M8, O4)) (rfl) ?_
        exact Ex_mono (L := [some (.ref 2500), some (.ref 0), some (.ref 1000), some (.ref 2000), some (.int x4), none, none, none]) (Le_s (Le_s (Le_s (Le_s (Le_s (Le_n (Le_n (Le_n (Le_0))))))))) (X_l_law_530 hd hk23 _ _ _ _ _ _ _ _ _ _ hF) (Nat.le_refl _) (by omega)
    · rw [if_neg hc] at hF
      exact Ex_mono (L := [some (.ref 2500), some (.ref 0), some (.ref 1000), some (.ref 2000), some (.int x4), none, none, none]) (Le_s (Le_s (Le_s (Le_s (Le_s (Le_n (Le_n (Le_n (Le_0))))))))) (X_l_law_536 hd hk23 _ _ _ _ _ _ _ _ hF) (Nat.le_refl _) (by omega)
  · rw [if_neg hc] at hF
    refine Ex_go 1 (pc' := 511) (L' := [some (.ref 2500), some (.ref 0), some (.ref 1000), some (.ref 2000), some (.int x4), some (.int r2), some (.int r6), none]) (st' := [.int (0 : Int32)]) (σ' := (S, M8, O4)) (rfl) ?_
    cases hF
    exact Ex_fin rfl
def F_l_law_539 (nL : Nat) (xs : Nat → Int32) (k23 : Int32 → Sto → Sto → Sto → Option (Int32 × Sto × Sto × Sto)) (x4 : Int32) (S : Sto) (M : Sto) (O : Sto) : Option (Int32 × Sto × Sto × Sto) := ck (ib (x4 + (1 : Int32)) nL) (ck (ib (x4 + (2 : Int32)) nL) (ck (ib (x4 + (3 : Int32)) nL) (ck (ib (x4 + (4 : Int32)) nL) (b2 (F_w_waters (((Int32.toInt64 (xs (Int32.toNatClampNeg (x4 + (1 : Int32))))) <<< (Int32.toInt64 (32 : Int32) &&& 63)) ||| ((Int32.toInt64 (xs (Int32.toNatClampNeg (x4 + (2 : Int32))))) &&& (4294967295 : Int64))) (((Int32.toInt64 (xs (Int32.toNatClampNeg (x4 + (3 : Int32))))) <<< (Int32.toInt64 (32 : Int32) &&& 63)) ||| ((Int32.toInt64 (xs (Int32.toNatClampNeg (x4 + (4 : Int32))))) &&& (4294967295 : Int64))) S) (fun r5 S7 => ck (ib (x4 + (1 : Int32)) nL) (ck (ib (x4 + (2 : Int32)) nL) (ck (ib (x4 + (3 : Int32)) nL) (ck (ib (x4 + (4 : Int32)) nL) (b2 (F_m_waters (((Int32.toInt64 (xs (Int32.toNatClampNeg (x4 + (1 : Int32))))) <<< (Int32.toInt64 (32 : Int32) &&& 63)) ||| ((Int32.toInt64 (xs (Int32.toNatClampNeg (x4 + (2 : Int32))))) &&& (4294967295 : Int64))) (((Int32.toInt64 (xs (Int32.toNatClampNeg (x4 + (3 : Int32))))) <<< (Int32.toInt64 (32 : Int32) &&& 63)) ||| ((Int32.toInt64 (xs (Int32.toNatClampNeg (x4 + (4 : Int32))))) &&& (4294967295 : Int64))) M) (fun r12 M14 => if r5 = r12 then F_l_law_2537 nL xs k23 x4 S7 M14 O else some ((0 : Int32), S7, M14, O)))))))))))
set_option maxRecDepth 100000 in
theorem X_l_law_539 {nL : Nat} {xs : Nat → Int32} {d : Nat} (hd : 98 ≤ d) {K : Nat} {k23 : Int32 → Sto → Sto → Sto → Option (Int32 × Sto × Sto × Sto)} (hk23 : ∀ (x4 : Int32) (S : Sto) (M : Sto) (O : Sto) (r : Int32) (S' : Sto) (M' : Sto) (O' : Sto), k23 x4 S M O = some (r, S', M', O') → EX nL xs K MI_281 d 23 [some (.ref 2500), some (.ref 0), some (.ref 1000), some (.ref 2000), some (.int x4), none, none, none] [] (S, M, O) (.inl (some (.int r))) (S', M', O')) : ∀ (x4 : Int32) (S : Sto) (M : Sto) (O : Sto) (r : Int32) (S' : Sto) (M' : Sto) (O' : Sto), F_l_law_539 nL xs k23 x4 S M O = some (r, S', M', O') → EX nL xs K MI_281 d 539 [some (.ref 2500), some (.ref 0), some (.ref 1000), some (.ref 2000), some (.int x4), none, none, none] [] (S, M, O) (.inl (some (.int r))) (S', M', O') := by
  intro x4 S M O r S' M' O' hF
  unfold F_l_law_539 at hF
  refine Ex_go 5 (pc' := 545) (L' := [some (.ref 2500), some (.ref 0), some (.ref 1000), some (.ref 2000), some (.int x4), none, none, none]) (st' := [.int (x4 + (1 : Int32)), .ref 2500, .ref 0]) (σ' := (S, M, O)) (rfl) ?_
  obtain ⟨hc1, hF⟩ := ck_i hF
  refine Ex_chk (b := ib (x4 + (1 : Int32)) nL) (pc' := 546) (L' := [some (.ref 2500), some (.ref 0), some (.ref 1000), some (.ref 2000), some (.int x4), none, none, none]) (st' := [.int (xs (Int32.toNatClampNeg (x4 + (1 : Int32)))), .ref 0]) (σ' := (S, M, O)) rfl hc1 ?_
  refine Ex_go 7 (pc' := 555) (L' := [some (.ref 2500), some (.ref 0), some (.ref 1000), some (.ref 2000), some (.int x4), none, none, none]) (st' := [.int (x4 + (2 : Int32)), .ref 2500, .long ((Int32.toInt64 (xs (Int32.toNatClampNeg (x4 + (1 : Int32))))) <<< (Int32.toInt64 (32 : Int32) &&& 63)), .ref 0]) (σ' := (S, M, O)) (rfl) ?_
  obtain ⟨hc2, hF⟩ := ck_i hF
  refine Ex_chk (b := ib (x4 + (2 : Int32)) nL) (pc' := 556) (L' := [some (.ref 2500), some (.ref 0), some (.ref 1000), some (.ref 2000), some (.int x4), none, none, none]) (st' := [.int (xs (Int32.toNatClampNeg (x4 + (2 : Int32)))), .long ((Int32.toInt64 (xs (Int32.toNatClampNeg (x4 + (1 : Int32))))) <<< (Int32.toInt64 (32 : Int32) &&& 63)), .ref 0]) (σ' := (S, M, O)) rfl hc2 ?_
  refine Ex_go 8 (pc' := 567) (L' := [some (.ref 2500), some (.ref 0), some (.ref 1000), some (.ref 2000), some (.int x4), none, none, none]) (st' := [.int (x4 + (3 : Int32)), .ref 2500, .long (((Int32.toInt64 (xs (Int32.toNatClampNeg (x4 + (1 : Int32))))) <<< (Int32.toInt64 (32 : Int32) &&& 63)) ||| ((Int32.toInt64 (xs (Int32.toNatClampNeg (x4 + (2 : Int32))))) &&& (4294967295 : Int64))), .ref 0]) (σ' := (S, M, O)) (rfl) ?_
  obtain ⟨hc3, hF⟩ := ck_i hF
  refine Ex_chk (b := ib (x4 + (3 : Int32)) nL) (pc' := 568) (L' := [some (.ref 2500), some (.ref 0), some (.ref 1000), some (.ref 2000), some (.int x4), none, none, none]) (st' := [.int (xs (Int32.toNatClampNeg (x4 + (3 : Int32)))), .long (((Int32.toInt64 (xs (Int32.toNatClampNeg (x4 + (1 : Int32))))) <<< (Int32.toInt64 (32 : Int32) &&& 63)) ||| ((Int32.toInt64 (xs (Int32.toNatClampNeg (x4 + (2 : Int32))))) &&& (4294967295 : Int64))), .ref 0]) (σ' := (S, M, O)) rfl hc3 ?_
  refine Ex_go 7 (pc' := 577) (L' := [some (.ref 2500), some (.ref 0), some (.ref 1000), some (.ref 2000), some (.int x4), none, none, none]) (st' := [.int (x4 + (4 : Int32)), .ref 2500, .long ((Int32.toInt64 (xs (Int32.toNatClampNeg (x4 + (3 : Int32))))) <<< (Int32.toInt64 (32 : Int32) &&& 63)), .long (((Int32.toInt64 (xs (Int32.toNatClampNeg (x4 + (1 : Int32))))) <<< (Int32.toInt64 (32 : Int32) &&& 63)) ||| ((Int32.toInt64 (xs (Int32.toNatClampNeg (x4 + (2 : Int32))))) &&& (4294967295 : Int64))), .ref 0]) (σ' := (S, M, O)) (rfl) ?_
  obtain ⟨hc4, hF⟩ := ck_i hF
  refine Ex_chk (b := ib (x4 + (4 : Int32)) nL) (pc' := 578) (L' := [some (.ref 2500), some (.ref 0), some (.ref 1000), some (.ref 2000), some (.int x4), none, none, none]) (st' := [.int (xs (Int32.toNatClampNeg (x4 + (4 : Int32)))), .long ((Int32.toInt64 (xs (Int32.toNatClampNeg (x4 + (3 : Int32))))) <<< (Int32.toInt64 (32 : Int32) &&& 63)), .long (((Int32.toInt64 (xs (Int32.toNatClampNeg (x4 + (1 : Int32))))) <<< (Int32.toInt64 (32 : Int32) &&& 63)) ||| ((Int32.toInt64 (xs (Int32.toNatClampNeg (x4 + (2 : Int32))))) &&& (4294967295 : Int64))), .ref 0]) (σ' := (S, M, O)) rfl hc4 ?_
  refine Ex_go 4 (pc' := 584) (L' := [some (.ref 2500), some (.ref 0), some (.ref 1000), some (.ref 2000), some (.int x4), none, none, none]) (st' := [.long (((Int32.toInt64 (xs (Int32.toNatClampNeg (x4 + (3 : Int32))))) <<< (Int32.toInt64 (32 : Int32) &&& 63)) ||| ((Int32.toInt64 (xs (Int32.toNatClampNeg (x4 + (4 : Int32))))) &&& (4294967295 : Int64))), .long (((Int32.toInt64 (xs (Int32.toNatClampNeg (x4 + (1 : Int32))))) <<< (Int32.toInt64 (32 : Int32) &&& 63)) ||| ((Int32.toInt64 (xs (Int32.toNatClampNeg (x4 + (2 : Int32))))) &&& (4294967295 : Int64))), .ref 0]) (σ' := (S, M, O)) (rfl) ?_
  obtain ⟨r5, S7, hx6, hF⟩ := b2_i hF
  refine Ex_callK (K1 := 0) (K2 := K) (kind := 2) (y := 100) (as := [.ref 0, .long (((Int32.toInt64 (xs (Int32.toNatClampNeg (x4 + (1 : Int32))))) <<< (Int32.toInt64 (32 : Int32) &&& 63)) ||| ((Int32.toInt64 (xs (Int32.toNatClampNeg (x4 + (2 : Int32))))) &&& (4294967295 : Int64))), .long (((Int32.toInt64 (xs (Int32.toNatClampNeg (x4 + (3 : Int32))))) <<< (Int32.toInt64 (32 : Int32) &&& 63)) ||| ((Int32.toInt64 (xs (Int32.toNatClampNeg (x4 + (4 : Int32))))) &&& (4294967295 : Int64)))]) (rest := []) (L0 := [some (.ref 0), some (.long (((Int32.toInt64 (xs (Int32.toNatClampNeg (x4 + (1 : Int32))))) <<< (Int32.toInt64 (32 : Int32) &&& 63)) ||| ((Int32.toInt64 (xs (Int32.toNatClampNeg (x4 + (2 : Int32))))) &&& (4294967295 : Int64)))), none, some (.long (((Int32.toInt64 (xs (Int32.toNatClampNeg (x4 + (3 : Int32))))) <<< (Int32.toInt64 (32 : Int32) &&& 63)) ||| ((Int32.toInt64 (xs (Int32.toNatClampNeg (x4 + (4 : Int32))))) &&& (4294967295 : Int64)))), none]) (d' := 2) (v := some (.int r5)) (σ1 := (S7, M, O)) rfl rfl mt_100 rfl rfl (by omega) (X_w_waters (Nat.le_refl _) _ _ _ _ _ hx6) (Ex_st (st2 := [.int r5]) rfl ?_) (by omega)
  refine Ex_go 5 (pc' := 593) (L' := [some (.ref 2500), some (.ref 0), some (.ref 1000), some (.ref 2000), some (.int x4), none, none, none]) (st' := [.int (x4 + (1 : Int32)), .ref 2500, .ref 1000, .int r5]) (σ' := (S7, M, O)) (rfl) ?_
  obtain ⟨hc8, hF⟩ := ck_i hF
  refine Ex_chk (b := ib (x4 + (1 : Int32)) nL) (pc' := 594) (L' := [some (.ref 2500), some (.ref 0), some (.ref 1000), some (.ref 2000), some (.int x4), none, none, none]) (st' := [.int (xs (Int32.toNatClampNeg (x4 + (1 : Int32)))), .ref 1000, .int r5]) (σ' := (S7, M, O)) rfl hc8 ?_
  refine Ex_go 7 (pc' := 603) (L' := [some (.ref 2500), some (.ref 0), some (.ref 1000), some (.ref 2000), some (.int x4), none, none, none]) (st' := [.int (x4 + (2 : Int32)), .ref 2500, .long ((Int32.toInt64 (xs (Int32.toNatClampNeg (x4 + (1 : Int32))))) <<< (Int32.toInt64 (32 : Int32) &&& 63)), .ref 1000, .int r5]) (σ' := (S7, M, O)) (rfl) ?_
  obtain ⟨hc9, hF⟩ := ck_i hF
  refine Ex_chk (b := ib (x4 + (2 : Int32)) nL) (pc' := 604) (L' := [some (.ref 2500), some (.ref 0), some (.ref 1000), some (.ref 2000), some (.int x4), none, none, none]) (st' := [.int (xs (Int32.toNatClampNeg (x4 + (2 : Int32)))), .long ((Int32.toInt64 (xs (Int32.toNatClampNeg (x4 + (1 : Int32))))) <<< (Int32.toInt64 (32 : Int32) &&& 63)), .ref 1000, .int r5]) (σ' := (S7, M, O)) rfl hc9 ?_
  refine Ex_go 8 (pc' := 615) (L' := [some (.ref 2500), some (.ref 0), some (.ref 1000), some (.ref 2000), some (.int x4), none, none, none]) (st' := [.int (x4 + (3 : Int32)), .ref 2500, .long (((Int32.toInt64 (xs (Int32.toNatClampNeg (x4 + (1 : Int32))))) <<< (Int32.toInt64 (32 : Int32) &&& 63)) ||| ((Int32.toInt64 (xs (Int32.toNatClampNeg (x4 + (2 : Int32))))) &&& (4294967295 : Int64))), .ref 1000, .int r5]) (σ' := (S7, M, O)) (rfl) ?_
  obtain ⟨hc10, hF⟩ := ck_i hF
  refine Ex_chk (b := ib (x4 + (3 : Int32)) nL) (pc' := 616) (L' := [some (.ref 2500), some (.ref 0), some (.ref 1000), some (.ref 2000), some (.int x4), none, none, none]) (st' := [.int (xs (Int32.toNatClampNeg (x4 + (3 : Int32)))), .long (((Int32.toInt64 (xs (Int32.toNatClampNeg (x4 + (1 : Int32))))) <<< (Int32.toInt64 (32 : Int32) &&& 63)) ||| ((Int32.toInt64 (xs (Int32.toNatClampNeg (x4 + (2 : Int32))))) &&& (4294967295 : Int64))), .ref 1000, .int r5]) (σ' := (S7, M, O)) rfl hc10 ?_
  refine Ex_go 7 (pc' := 625) (L' := [some (.ref 2500), some (.ref 0), some (.ref 1000), some (.ref 2000), some (.int x4), none, none, none]) (st' := [.int (x4 + (4 : Int32)), .ref 2500, .long ((Int32.toInt64 (xs (Int32.toNatClampNeg (x4 + (3 : Int32))))) <<< (Int32.toInt64 (32 : Int32) &&& 63)), .long (((Int32.toInt64 (xs (Int32.toNatClampNeg (x4 + (1 : Int32))))) <<< (Int32.toInt64 (32 : Int32) &&& 63)) ||| ((Int32.toInt64 (xs (Int32.toNatClampNeg (x4 + (2 : Int32))))) &&& (4294967295 : Int64))), .ref 1000, .int r5]) (σ' := (S7, M, O)) (rfl) ?_
  obtain ⟨hc11, hF⟩ := ck_i hF
  refine Ex_chk (b := ib (x4 + (4 : Int32)) nL) (pc' := 626) (L' := [some (.ref 2500), some (.ref 0), some (.ref 1000), some (.ref 2000), some (.int x4), none, none, none]) (st' := [.int (xs (Int32.toNatClampNeg (x4 + (4 : Int32)))), .long ((Int32.toInt64 (xs (Int32.toNatClampNeg (x4 + (3 : Int32))))) <<< (Int32.toInt64 (32 : Int32) &&& 63)), .long (((Int32.toInt64 (xs (Int32.toNatClampNeg (x4 + (1 : Int32))))) <<< (Int32.toInt64 (32 : Int32) &&& 63)) ||| ((Int32.toInt64 (xs (Int32.toNatClampNeg (x4 + (2 : Int32))))) &&& (4294967295 : Int64))), .ref 1000, .int r5]) (σ' := (S7, M, O)) rfl hc11 ?_
  refine Ex_go 4 (pc' := 632) (L' := [some (.ref 2500), some (.ref 0), some (.ref 1000), some (.ref 2000), some (.int x4), none, none, none]) (st' := [.long (((Int32.toInt64 (xs (Int32.toNatClampNeg (x4 + (3 : Int32))))) <<< (Int32.toInt64 (32 : Int32) &&& 63)) ||| ((Int32.toInt64 (xs (Int32.toNatClampNeg (x4 + (4 : Int32))))) &&& (4294967295 : Int64))), .long (((Int32.toInt64 (xs (Int32.toNatClampNeg (x4 + (1 : Int32))))) <<< (Int32.toInt64 (32 : Int32) &&& 63)) ||| ((Int32.toInt64 (xs (Int32.toNatClampNeg (x4 + (2 : Int32))))) &&& (4294967295 : Int64))), .ref 1000, .int r5]) (σ' := (S7, M, O)) (rfl) ?_
  obtain ⟨r12, M14, hx13, hF⟩ := b2_i hF
  refine Ex_callK (K1 := 0) (K2 := K) (kind := 2) (y := 104) (as := [.ref 1000, .long (((Int32.toInt64 (xs (Int32.toNatClampNeg (x4 + (1 : Int32))))) <<< (Int32.toInt64 (32 : Int32) &&& 63)) ||| ((Int32.toInt64 (xs (Int32.toNatClampNeg (x4 + (2 : Int32))))) &&& (4294967295 : Int64))), .long (((Int32.toInt64 (xs (Int32.toNatClampNeg (x4 + (3 : Int32))))) <<< (Int32.toInt64 (32 : Int32) &&& 63)) ||| ((Int32.toInt64 (xs (Int32.toNatClampNeg (x4 + (4 : Int32))))) &&& (4294967295 : Int64)))]) (rest := [.int r5]) (L0 := [some (.ref 1000), some (.long (((Int32.toInt64 (xs (Int32.toNatClampNeg (x4 + (1 : Int32))))) <<< (Int32.toInt64 (32 : Int32) &&& 63)) ||| ((Int32.toInt64 (xs (Int32.toNatClampNeg (x4 + (2 : Int32))))) &&& (4294967295 : Int64)))), none, some (.long (((Int32.toInt64 (xs (Int32.toNatClampNeg (x4 + (3 : Int32))))) <<< (Int32.toInt64 (32 : Int32) &&& 63)) ||| ((Int32.toInt64 (xs (Int32.toNatClampNeg (x4 + (4 : Int32))))) &&& (4294967295 : Int64)))), none]) (d' := 3) (v := some (.int r12)) (σ1 := (S7, M14, O)) rfl rfl mt_104 rfl rfl (by omega) (X_m_waters (Nat.le_refl _) _ _ _ _ _ hx13) (Ex_st (st2 := [.int r12, .int r5]) rfl ?_) (by omega)
  refine Ex_go 1 (pc' := if r5 = r12 then 2537 else 638) (L' := [some (.ref 2500), some (.ref 0), some (.ref 1000), some (.ref 2000), some (.int x4), none, none, none]) (st' := []) (σ' := (S7, M14, O)) (rfl) ?_
  refine Ex_br (fun hc => ?_) (fun hc => ?_)
  · rw [if_pos hc] at hF
    exact Ex_mono (L := [some (.ref 2500), some (.ref 0), some (.ref 1000), some (.ref 2000), some (.int x4), none, none, none]) (Le_s (Le_s (Le_s (Le_s (Le_s (Le_n (Le_n (Le_n (Le_0))))))))) (X_l_law_2537 hd hk23 _ _ _ _ _ _ _ _ hF) (Nat.le_refl _) (by omega)
  · rw [if_neg hc] at hF
    refine Ex_go 1 (pc' := 639) (L' := [some (.ref 2500), some (.ref 0), some (.ref 1000), some (.ref 2000), some (.int x4), none, none, none]) (st' := [.int (0 : Int32)]) (σ' := (S7, M14, O)) (rfl) ?_
    cases hF
    exact Ex_fin rfl
def F_l_law_728 (nL : Nat) (xs : Nat → Int32) (k23 : Int32 → Sto → Sto → Sto → Option (Int32 × Sto × Sto × Sto)) (x4 : Int32) (S : Sto) (M : Sto) (O : Sto) : Option (Int32 × Sto × Sto × Sto) := F_l_law_2537 nL xs k23 x4 S M O
set_option maxRecDepth 100000 in
theorem X_l_law_728 {nL : Nat} {xs : Nat → Int32} {d : Nat} (hd : 98 ≤ d) {K : Nat} {k23 : Int32 → Sto → Sto → Sto → Option (Int32 × Sto × Sto × Sto)} (hk23 : ∀ (x4 : Int32) (S : Sto) (M : Sto) (O : Sto) (r : Int32) (S' : Sto) (M' : Sto) (O' : Sto), k23 x4 S M O = some (r, S', M', O') → EX nL xs K MI_281 d 23 [some (.ref 2500), some (.ref 0), some (.ref 1000), some (.ref 2000), some (.int x4), none, none, none] [] (S, M, O) (.inl (some (.int r))) (S', M', O')) : ∀ (x4 : Int32) (S : Sto) (M : Sto) (O : Sto) (r : Int32) (S' : Sto) (M' : Sto) (O' : Sto), F_l_law_728 nL xs k23 x4 S M O = some (r, S', M', O') → EX nL xs K MI_281 d 728 [some (.ref 2500), some (.ref 0), some (.ref 1000), some (.ref 2000), some (.int x4), none, none, none] [] (S, M, O) (.inl (some (.int r))) (S', M', O') := by
  intro x4 S M O r S' M' O' hF
  unfold F_l_law_728 at hF
  refine Ex_go 1 (pc' := 2537) (L' := [some (.ref 2500), some (.ref 0), some (.ref 1000), some (.ref 2000), some (.int x4), none, none, none]) (st' := []) (σ' := (S, M, O)) (rfl) ?_
  exact Ex_mono (L := [some (.ref 2500), some (.ref 0), some (.ref 1000), some (.ref 2000), some (.int x4), none, none, none]) (Le_s (Le_s (Le_s (Le_s (Le_s (Le_n (Le_n (Le_n (Le_0))))))))) (X_l_law_2537 hd hk23 _ _ _ _ _ _ _ _ hF) (Nat.le_refl _) (by omega)
def F_l_law_722 (nL : Nat) (xs : Nat → Int32) (k23 : Int32 → Sto → Sto → Sto → Option (Int32 × Sto × Sto × Sto)) (x4 : Int32) (s0 : Int64) (s1 : Int64) (S : Sto) (M : Sto) (O : Sto) : Option (Int32 × Sto × Sto × Sto) := if s0 = s1 then F_l_law_728 nL xs k23 x4 S M O else some ((0 : Int32), S, M, O)
set_option maxRecDepth 100000 in
theorem X_l_law_722 {nL : Nat} {xs : Nat → Int32} {d : Nat} (hd : 98 ≤ d) {K : Nat} {k23 : Int32 → Sto → Sto → Sto → Option (Int32 × Sto × Sto × Sto)} (hk23 : ∀ (x4 : Int32) (S : Sto) (M : Sto) (O : Sto) (r : Int32) (S' : Sto) (M' : Sto) (O' : Sto), k23 x4 S M O = some (r, S', M', O') → EX nL xs K MI_281 d 23 [some (.ref 2500), some (.ref 0), some (.ref 1000), some (.ref 2000), some (.int x4), none, none, none] [] (S, M, O) (.inl (some (.int r))) (S', M', O')) : ∀ (x4 : Int32) (s0 : Int64) (s1 : Int64) (S : Sto) (M : Sto) (O : Sto) (r : Int32) (S' : Sto) (M' : Sto) (O' : Sto), F_l_law_722 nL xs k23 x4 s0 s1 S M O = some (r, S', M', O') → EX nL xs K MI_281 d 722 [some (.ref 2500), some (.ref 0), some (.ref 1000), some (.ref 2000), some (.int x4), none, none, none] [.long s1, .long s0] (S, M, O) (.inl (some (.int r))) (S', M', O') := by
  intro x4 s0 s1 S M O r S' M' O' hF
  unfold F_l_law_722 at hF
  refine Ex_go 2 (pc' := if (lg_cmp s0 s1) = 0 then 728 else 726) (L' := [some (.ref 2500), some (.ref 0), some (.ref 1000), some (.ref 2000), some (.int x4), none, none, none]) (st' := []) (σ' := (S, M, O)) (rfl) ?_
  refine Ex_brI lc_eq (fun hc => ?_) (fun hc => ?_)
  · rw [if_pos hc] at hF
    exact Ex_mono (L := [some (.ref 2500), some (.ref 0), some (.ref 1000), some (.ref 2000), some (.int x4), none, none, none]) (Le_s (Le_s (Le_s (Le_s (Le_s (Le_n (Le_n (Le_n (Le_0))))))))) (X_l_law_728 hd hk23 _ _ _ _ _ _ _ _ hF) (Nat.le_refl _) (by omega)
  · rw [if_neg hc] at hF
    refine Ex_go 1 (pc' := 727) (L' := [some (.ref 2500), some (.ref 0), some (.ref 1000), some (.ref 2000), some (.int x4), none, none, none]) (st' := [.int (0 : Int32)]) (σ' := (S, M, O)) (rfl) ?_
    cases hF
    exact Ex_fin rfl
def F_l_law_688 (nL : Nat) (xs : Nat → Int32) (k23 : Int32 → Sto → Sto → Sto → Option (Int32 × Sto × Sto × Sto)) (x4 : Int32) (x5 : Int32) (s1 : Int32) (s2 : Int32) (S : Sto) (M : Sto) (O : Sto) : Option (Int32 × Sto × Sto × Sto) := b2 (F_m_lower s1 s2 M) (fun r1 M3 => b1 (F_m_thrown M3) (fun r4 => if r4 = x5 then if x5 = 0 then if r1 = 0 then F_l_law_722 nL xs k23 x4 (al O 2000 (Int32.toNatClampNeg (0 : Int32))) (0 : Int64) S M3 O else F_l_law_722 nL xs k23 x4 (al O 2000 (Int32.toNatClampNeg (0 : Int32))) (1 : Int64) S M3 O else F_l_law_728 nL xs k23 x4 S M3 O else some ((0 : Int32), S, M3, O)))
set_option maxRecDepth 100000 in
theorem X_l_law_688 {nL : Nat} {xs : Nat → Int32} {d : Nat} (hd : 98 ≤ d) {K : Nat} {k23 : Int32 → Sto → Sto → Sto → Option (Int32 × Sto × Sto × Sto)} (hk23 : ∀ (x4 : Int32) (S : Sto) (M : Sto) (O : Sto) (r : Int32) (S' : Sto) (M' : Sto) (O' : Sto), k23 x4 S M O = some (r, S', M', O') → EX nL xs K MI_281 d 23 [some (.ref 2500), some (.ref 0), some (.ref 1000), some (.ref 2000), some (.int x4), none, none, none] [] (S, M, O) (.inl (some (.int r))) (S', M', O')) : ∀ (x4 : Int32) (x5 : Int32) (s1 : Int32) (s2 : Int32) (S : Sto) (M : Sto) (O : Sto) (r : Int32) (S' : Sto) (M' : Sto) (O' : Sto), F_l_law_688 nL xs k23 x4 x5 s1 s2 S M O = some (r, S', M', O') → EX nL xs K MI_281 d 688 [some (.ref 2500), some (.ref 0), some (.ref 1000), some (.ref 2000), some (.int x4), some (.int x5), none, none] [.int s2, .int s1, .ref 1000] (S, M, O) (.inl (some (.int r))) (S', M', O') := by
  intro x4 x5 s1 s2 S M O r S' M' O' hF
  unfold F_l_law_688 at hF
  obtain ⟨r1, M3, hx2, hF⟩ := b2_i hF
  refine Ex_callK (K1 := 0) (K2 := K) (kind := 2) (y := 107) (as := [.ref 1000, .int s1, .int s2]) (rest := []) (L0 := [some (.ref 1000), some (.int s1), some (.int s2)]) (d' := 3) (v := some (.int r1)) (σ1 := (S, M3, O)) rfl rfl mt_107 rfl rfl (by omega) (X_m_lower (Nat.le_refl _) _ _ _ _ _ hx2) (Ex_st (st2 := [.int r1]) rfl ?_) (by omega)
  refine Ex_go 2 (pc' := 694) (L' := [some (.ref 2500), some (.ref 0), some (.ref 1000), some (.ref 2000), some (.int x4), some (.int x5), some (.int r1), none]) (st' := [.ref 1000]) (σ' := (S, M3, O)) (rfl) ?_
  obtain ⟨r4, hx5, hF⟩ := b1_i hF
  refine Ex_callK (K1 := 0) (K2 := K) (kind := 2) (y := 77) (as := [.ref 1000]) (rest := []) (L0 := [some (.ref 1000)]) (d' := 1) (v := some (.int r4)) (σ1 := (S, M3, O)) rfl rfl mt_77 rfl rfl (by omega) (X_m_thrown (Nat.le_refl _) _ _ hx5) (Ex_st (st2 := [.int r4]) rfl ?_) (by omega)
  refine Ex_go 2 (pc' := if r4 = x5 then 704 else 702) (L' := [some (.ref 2500), some (.ref 0), some (.ref 1000), some (.ref 2000), some (.int x4), some (.int x5), some (.int r1), none]) (st' := []) (σ' := (S, M3, O)) (rfl) ?_
  refine Ex_br (fun hc => ?_) (fun hc => ?_)
  · rw [if_pos hc] at hF
    refine Ex_go 2 (pc' := if ¬ x5 = 0 then 728 else 709) (L' := [some (.ref 2500), some (.ref 0), some (.ref 1000), some (.ref 2000), some (.int x4), some (.int x5), some (.int r1), none]) (st' := []) (σ' := (S, M3, O)) (rfl) ?_
    refine Ex_brN (fun hc => ?_) (fun hc => ?_)
    · rw [if_pos hc] at hF
      refine Ex_go 2 (pc' := 711) (L' := [some (.ref 2500), some (.ref 0), some (.ref 1000), some (.ref 2000), some (.int x4), some (.int x5), some (.int r1), none]) (st' := [.int (0 : Int32), .ref 2000]) (σ' := (S, M3, O)) (rfl) ?_
      refine Ex_chk (b := ib (0 : Int32) 1) (pc' := 712) (L' := [some (.ref 2500), some (.ref 0), some (.ref 1000), some (.ref 2000), some (.int x4), some (.int x5), some (.int r1), none]) (st' := [.long (al O 2000 (Int32.toNatClampNeg (0 : Int32)))]) (σ' := (S, M3, O)) rfl (by decide) ?_
      refine Ex_go 2 (pc' := if r1 = 0 then 721 else 717) (L' := [some (.ref 2500), some (.ref 0), some (.ref 1000), some (.ref 2000), some (.int x4), some (.int x5), some (.int r1), none]) (st' := [.long (al O 2000 (Int32.toNatClampNeg (0 : Int32)))]) (σ' := (S, M3, O)) (rfl) ?_
      refine Ex_br (fun hc => ?_) (fun hc => ?_)
      · rw [if_pos hc] at hF
        refine Ex_go 1 (pc' := 722) (L' := [some (.ref 2500), some (.ref 0), some (.ref 1000), some (.ref 2000), some (.int x4), some (.int x5), some (.int r1), none]) (st' := [.long (0 : Int64), .long (al O 2000 (Int32.toNatClampNeg (0 : Int32)))]) (σ' := (S, M3, O)) (rfl) ?_
        exact Ex_mono (L := [some (.ref 2500), some (.ref 0), some (.ref 1000), some (.ref 2000), some (.int x4), none, none, none]) (Le_s (Le_s (Le_s (Le_s (Le_s (Le_n (Le_n (Le_n (Le_0))))))))) (X_l_law_722 hd hk23 _ _ _ _ _ _ _ _ _ _ hF) (Nat.le_refl _) (by omega)
      · rw [if_neg hc] at hF
        refine Ex_go 2 (pc' := 722) (L' := [some (.ref 2500), some (.ref 0), some (.ref 1000), some (.ref 2000), some (.int x4), some (.int x5), some (.int r1), none]) (st' := [.long (1 : Int64), .long (al O 2000 (Int32.toNatClampNeg (0 : Int32)))]) (σ' := (S, M3, O)) (rfl) ?_
        exact Ex_mono (L := [some (.ref 2500), some (.ref 0), some (.ref 1000), some (.ref 2000), some (.int x4), none, none, none]) (Le_s (Le_s (Le_s (Le_s (Le_s (Le_n (Le_n (Le_n (Le_0))))))))) (X_l_law_722 hd hk23 _ _ _ _ _ _ _ _ _ _ hF) (Nat.le_refl _) (by omega)
    · rw [if_neg hc] at hF
      exact Ex_mono (L := [some (.ref 2500), some (.ref 0), some (.ref 1000), some (.ref 2000), some (.int x4), none, none, none]) (Le_s (Le_s (Le_s (Le_s (Le_s (Le_n (Le_n (Le_n (Le_0))))))))) (X_l_law_728 hd hk23 _ _ _ _ _ _ _ _ hF) (Nat.le_refl _) (by omega)
  · rw [if_neg hc] at hF
    refine Ex_go 1 (pc' := 703) (L' := [some (.ref 2500), some (.ref 0), some (.ref 1000), some (.ref 2000), some (.int x4), some (.int x5), some (.int r1), none]) (st' := [.int (0 : Int32)]) (σ' := (S, M3, O)) (rfl) ?_
    cases hF
    exact Ex_fin rfl
def F_l_law_661 (nL : Nat) (xs : Nat → Int32) (k23 : Int32 → Sto → Sto → Sto → Option (Int32 × Sto × Sto × Sto)) (x4 : Int32) (s1 : Int32) (s2 : Int32) (S : Sto) (M : Sto) (O : Sto) : Option (Int32 × Sto × Sto × Sto) := b3 (F_l_lower s1 s2 S O) (fun r1 S3 O4 => ck (ib (x4 + (1 : Int32)) nL) (ck (ib (x4 + (2 : Int32)) nL) (if (xs (Int32.toNatClampNeg (x4 + (2 : Int32)))) = 0 then F_l_law_688 nL xs k23 x4 r1 (xs (Int32.toNatClampNeg (x4 + (1 : Int32)))) (0 : Int32) S3 M O4 else F_l_law_688 nL xs k23 x4 r1 (xs (Int32.toNatClampNeg (x4 + (1 : Int32)))) (1 : Int32) S3 M O4)))
set_option maxRecDepth 100000 in
theorem X_l_law_661 {nL : Nat} {xs : Nat → Int32} {d : Nat} (hd : 98 ≤ d) {K : Nat} {k23 : Int32 → Sto → Sto → Sto → Option (Int32 × Sto × Sto × Sto)} (hk23 : ∀ (x4 : Int32) (S : Sto) (M : Sto) (O : Sto) (r : Int32) (S' : Sto) (M' : Sto) (O' : Sto), k23 x4 S M O = some (r, S', M', O') → EX nL xs K MI_281 d 23 [some (.ref 2500), some (.ref 0), some (.ref 1000), some (.ref 2000), some (.int x4), none, none, none] [] (S, M, O) (.inl (some (.int r))) (S', M', O')) : ∀ (x4 : Int32) (s1 : Int32) (s2 : Int32) (S : Sto) (M : Sto) (O : Sto) (r : Int32) (S' : Sto) (M' : Sto) (O' : Sto), F_l_law_661 nL xs k23 x4 s1 s2 S M O = some (r, S', M', O') → EX nL xs (K + 1) MI_281 d 661 [some (.ref 2500), some (.ref 0), some (.ref 1000), some (.ref 2000), some (.int x4), none, none, none] [.int s2, .int s1, .ref 0] (S, M, O) (.inl (some (.int r))) (S', M', O') := by
  intro x4 s1 s2 S M O r S' M' O' hF
  unfold F_l_law_661 at hF
  refine Ex_go 1 (pc' := 662) (L' := [some (.ref 2500), some (.ref 0), some (.ref 1000), some (.ref 2000), some (.int x4), none, none, none]) (st' := [.ref 2000, .int s2, .int s1, .ref 0]) (σ' := (S, M, O)) (rfl) ?_
  obtain ⟨r1, S3, O4, hx2, hF⟩ := b3_i hF
  refine Ex_callK (K1 := 1) (K2 := K) (kind := 4) (y := 106) (as := [.ref 0, .int s1, .int s2, .ref 2000]) (rest := []) (L0 := [some (.ref 0), some (.int s1), some (.int s2), some (.ref 2000), none]) (d' := 9) (v := some (.int r1)) (σ1 := (S3, M, O4)) rfl rfl mt_106 rfl rfl (by omega) (X_l_lower (Nat.le_refl _) _ _ _ _ _ _ _ hx2) (Ex_st (st2 := [.int r1]) rfl ?_) (by omega)
  refine Ex_go 6 (pc' := 673) (L' := [some (.ref 2500), some (.ref 0), some (.ref 1000), some (.ref 2000), some (.int x4), some (.int r1), none, none]) (st' := [.int (x4 + (1 : Int32)), .ref 2500, .ref 1000]) (σ' := (S3, M, O4)) (rfl) ?_
  obtain ⟨hc5, hF⟩ := ck_i hF
  refine Ex_chk (b := ib (x4 + (1 : Int32)) nL) (pc' := 674) (L' := [some (.ref 2500), some (.ref 0), some (.ref 1000), some (.ref 2000), some (.int x4), some (.int r1), none, none]) (st' := [.int (xs (Int32.toNatClampNeg (x4 + (1 : Int32)))), .ref 1000]) (σ' := (S3, M, O4)) rfl hc5 ?_
  refine Ex_go 4 (pc' := 679) (L' := [some (.ref 2500), some (.ref 0), some (.ref 1000), some (.ref 2000), some (.int x4), some (.int r1), none, none]) (st' := [.int (x4 + (2 : Int32)), .ref 2500, .int (xs (Int32.toNatClampNeg (x4 + (1 : Int32)))), .ref 1000]) (σ' := (S3, M, O4)) (rfl) ?_
  obtain ⟨hc6, hF⟩ := ck_i hF
  refine Ex_chk (b := ib (x4 + (2 : Int32)) nL) (pc' := 680) (L' := [some (.ref 2500), some (.ref 0), some (.ref 1000), some (.ref 2000), some (.int x4), some (.int r1), none, none]) (st' := [.int (xs (Int32.toNatClampNeg (x4 + (2 : Int32)))), .int (xs (Int32.toNatClampNeg (x4 + (1 : Int32)))), .ref 1000]) (σ' := (S3, M, O4)) rfl hc6 ?_
  refine Ex_go 1 (pc' := if (xs (Int32.toNatClampNeg (x4 + (2 : Int32)))) = 0 then 687 else 683) (L' := [some (.ref 2500), some (.ref 0), some (.ref 1000), some (.ref 2000), some (.int x4), some (.int r1), none, none]) (st' := [.int (xs (Int32.toNatClampNeg (x4 + (1 : Int32)))), .ref 1000]) (σ' := (S3, M, O4)) (rfl) ?_
  refine Ex_br (fun hc => ?_) (fun hc => ?_)
  · rw [if_pos hc] at hF
    refine Ex_go 1 (pc' := 688) (L' := [some (.ref 2500), some (.ref 0), some (.ref 1000), some (.ref 2000), some (.int x4), some (.int r1), none, none]) (st' := [.int (0 : Int32), .int (xs (Int32.toNatClampNeg (x4 + (1 : Int32)))), .ref 1000]) (σ' := (S3, M, O4)) (rfl) ?_
    exact Ex_mono (L := [some (.ref 2500), some (.ref 0), some (.ref 1000), some (.ref 2000), some (.int x4), some (.int r1), none, none]) (Le_s (Le_s (Le_s (Le_s (Le_s (Le_s (Le_n (Le_n (Le_0))))))))) (X_l_law_688 hd hk23 _ _ _ _ _ _ _ _ _ _ _ hF) (Nat.le_refl _) (by omega)
  · rw [if_neg hc] at hF
    refine Ex_go 2 (pc' := 688) (L' := [some (.ref 2500), some (.ref 0), some (.ref 1000), some (.ref 2000), some (.int x4), some (.int r1), none, none]) (st' := [.int (1 : Int32), .int (xs (Int32.toNatClampNeg (x4 + (1 : Int32)))), .ref 1000]) (σ' := (S3, M, O4)) (rfl) ?_
    exact Ex_mono (L := [some (.ref 2500), some (.ref 0), some (.ref 1000), some (.ref 2000), some (.int x4), some (.int r1), none, none]) (Le_s (Le_s (Le_s (Le_s (Le_s (Le_s (Le_n (Le_n (Le_0))))))))) (X_l_law_688 hd hk23 _ _ _ _ _ _ _ _ _ _ _ hF) (Nat.le_refl _) (by omega)
def F_l_law_640 (nL : Nat) (xs : Nat → Int32) (k23 : Int32 → Sto → Sto → Sto → Option (Int32 × Sto × Sto × Sto)) (x4 : Int32) (S : Sto) (M : Sto) (O : Sto) : Option (Int32 × Sto × Sto × Sto) := ck (ib (x4 + (1 : Int32)) nL) (ck (ib (x4 + (2 : Int32)) nL) (if (xs (Int32.toNatClampNeg (x4 + (2 : Int32)))) = 0 then F_l_law_661 nL xs k23 x4 (xs (Int32.toNatClampNeg (x4 + (1 : Int32)))) (0 : Int32) S M O else F_l_law_661 nL xs k23 x4 (xs (Int32.toNatClampNeg (x4 + (1 : Int32)))) (1 : Int32) S M O))
set_option maxRecDepth 100000 in
theorem X_l_law_640 {nL : Nat} {xs : Nat → Int32} {d : Nat} (hd : 98 ≤ d) {K : Nat} {k23 : Int32 → Sto → Sto → Sto → Option (Int32 × Sto × Sto × Sto)} (hk23 : ∀ (x4 : Int32) (S : Sto) (M : Sto) (O : Sto) (r : Int32) (S' : Sto) (M' : Sto) (O' : Sto), k23 x4 S M O = some (r, S', M', O') → EX nL xs K MI_281 d 23 [some (.ref 2500), some (.ref 0), some (.ref 1000), some (.ref 2000), some (.int x4), none, none, none] [] (S, M, O) (.inl (some (.int r))) (S', M', O')) : ∀ (x4 : Int32) (S : Sto) (M : Sto) (O : Sto) (r : Int32) (S' : Sto) (M' : Sto) (O' : Sto), F_l_law_640 nL xs k23 x4 S M O = some (r, S', M', O') → EX nL xs (K + 1) MI_281 d 640 [some (.ref 2500), some (.ref 0), some (.ref 1000), some (.ref 2000), some (.int x4), none, none, none] [] (S, M, O) (.inl (some (.int r))) (S', M', O') := by
  intro x4 S M O r S' M' O' hF
  unfold F_l_law_640 at hF
  refine Ex_go 5 (pc' := 646) (L' := [some (.ref 2500), some (.ref 0), some (.ref 1000), some (.ref 2000), some (.int x4), none, none, none]) (st' := [.int (x4 + (1 : Int32)), .ref 2500, .ref 0]) (σ' := (S, M, O)) (rfl) ?_
  obtain ⟨hc1, hF⟩ := ck_i hF
  refine Ex_chk (b := ib (x4 + (1 : Int32)) nL) (pc' := 647) (L' := [some (.ref 2500), some (.ref 0), some (.ref 1000), some (.ref 2000), some (.int x4), none, none, none]) (st' := [.int (xs (Int32.toNatClampNeg (x4 + (1 : Int32)))), .ref 0]) (σ' := (S, M, O)) rfl hc1 ?_
  refine Ex_go 4 (pc' := 652) (L' := [some (.ref 2500), some (.ref 0), some (.ref 1000), some (.ref 2000), some (.int x4), none, none, none]) (st' := [.int (x4 + (2 : Int32)), .ref 2500, .int (xs (Int32.toNatClampNeg (x4 + (1 : Int32)))), .ref 0]) (σ' := (S, M, O)) (rfl) ?_
  obtain ⟨hc2, hF⟩ := ck_i hF
  refine Ex_chk (b := ib (x4 + (2 : Int32)) nL) (pc' := 653) (L' := [some (.ref 2500), some (.ref 0), some (.ref 1000), some (.ref 2000), some (.int x4), none, none, none]) (st' := [.int (xs (Int32.toNatClampNeg (x4 + (2 : Int32)))), .int (xs (Int32.toNatClampNeg (x4 + (1 : Int32)))), .ref 0]) (σ' := (S, M, O)) rfl hc2 ?_
  refine Ex_go 1 (pc' := if (xs (Int32.toNatClampNeg (x4 + (2 : Int32)))) = 0 then 660 else 656) (L' := [some (.ref 2500), some (.ref 0), some (.ref 1000), some (.ref 2000), some (.int x4), none, none, none]) (st' := [.int (xs (Int32.toNatClampNeg (x4 + (1 : Int32)))), .ref 0]) (σ' := (S, M, O)) (rfl) ?_
  refine Ex_br (fun hc => ?_) (fun hc => ?_)
  · rw [if_pos hc] at hF
    refine Ex_go 1 (pc' := 661) (L' := [some (.ref 2500), some (.ref 0), some (.ref 1000), some (.ref 2000), some (.int x4), none, none, none]) (st' := [.int (0 : Int32), .int (xs (Int32.toNatClampNeg (x4 + (1 : Int32)))), .ref 0]) (σ' := (S, M, O)) (rfl) ?_
    exact Ex_mono (L := [some (.ref 2500), some (.ref 0), some (.ref 1000), some (.ref 2000), some (.int x4), none, none, none]) (Le_s (Le_s (Le_s (Le_s (Le_s (Le_n (Le_n (Le_n (Le_0))))))))) (X_l_law_661 hd hk23 _ _ _ _ _ _ _ _ _ _ hF) (Nat.le_refl _) (by omega)
  · rw [if_neg hc] at hF
    refine Ex_go 2 (pc' := 661) (L' := [some (.ref 2500), some (.ref 0), some (.ref 1000), some (.ref 2000), some (.int x4), none, none, none]) (st' := [.int (1 : Int32), .int (xs (Int32.toNatClampNeg (x4 + (1 : Int32)))), .ref 0]) (σ' := (S, M, O)) (rfl) ?_
    exact Ex_mono (L := [some (.ref 2500), some (.ref 0), some (.ref 1000), some (.ref 2000), some (.int x4), none, none, none]) (Le_s (Le_s (Le_s (Le_s (Le_s (Le_n (Le_n (Le_n (Le_0))))))))) (X_l_law_661 hd hk23 _ _ _ _ _ _ _ _ _ _ hF) (Nat.le_refl _) (by omega)
def F_l_law_731 (nL : Nat) (xs : Nat → Int32) (k23 : Int32 → Sto → Sto → Sto → Option (Int32 × Sto × Sto × Sto)) (x4 : Int32) (S : Sto) (M : Sto) (O : Sto) : Option (Int32 × Sto × Sto × Sto) := ck (ib (x4 + (1 : Int32)) nL) (b2 (F_w_years (xs (Int32.toNatClampNeg (x4 + (1 : Int32)))) S) (fun r2 S4 => ck (ib (x4 + (1 : Int32)) nL) (b2 (F_m_years (xs (Int32.toNatClampNeg (x4 + (1 : Int32)))) M) (fun r6 M8 => if r2 = r6 then F_l_law_2537 nL xs k23 x4 S4 M8 O else some ((0 : Int32), S4, M8, O)))))
set_option maxRecDepth 100000 in
theorem X_l_law_731 {nL : Nat} {xs : Nat → Int32} {d : Nat} (hd : 98 ≤ d) {K : Nat} {k23 : Int32 → Sto → Sto → Sto → Option (Int32 × Sto × Sto × Sto)} (hk23 : ∀ (x4 : Int32) (S : Sto) (M : Sto) (O : Sto) (r : Int32) (S' : Sto) (M' : Sto) (O' : Sto), k23 x4 S M O = some (r, S', M', O') → EX nL xs K MI_281 d 23 [some (.ref 2500), some (.ref 0), some (.ref 1000), some (.ref 2000), some (.int x4), none, none, none] [] (S, M, O) (.inl (some (.int r))) (S', M', O')) : ∀ (x4 : Int32) (S : Sto) (M : Sto) (O : Sto) (r : Int32) (S' : Sto) (M' : Sto) (O' : Sto), F_l_law_731 nL xs k23 x4 S M O = some (r, S', M', O') → EX nL xs K MI_281 d 731 [some (.ref 2500), some (.ref 0), some (.ref 1000), some (.ref 2000), some (.int x4), none, none, none] [] (S, M, O) (.inl (some (.int r))) (S', M', O') := by
  intro x4 S M O r S' M' O' hF
  unfold F_l_law_731 at hF
  refine Ex_go 5 (pc' := 737) (L' := [some (.ref 2500), some (.ref 0), some (.ref 1000), some (.ref 2000), some (.int x4), none, none, none]) (st' := [.int (x4 + (1 : Int32)), .ref 2500, .ref 0]) (σ' := (S, M, O)) (rfl) ?_
  obtain ⟨hc1, hF⟩ := ck_i hF
  refine Ex_chk (b := ib (x4 + (1 : Int32)) nL) (pc' := 738) (L' := [some (.ref 2500), some (.ref 0), some (.ref 1000), some (.ref 2000), some (.int x4), none, none, none]) (st' := [.int (xs (Int32.toNatClampNeg (x4 + (1 : Int32)))), .ref 0]) (σ' := (S, M, O)) rfl hc1 ?_
  obtain ⟨r2, S4, hx3, hF⟩ := b2_i hF
  refine Ex_callK (K1 := 0) (K2 := K) (kind := 2) (y := 113) (as := [.ref 0, .int (xs (Int32.toNatClampNeg (x4 + (1 : Int32))))]) (rest := []) (L0 := [some (.ref 0), some (.int (xs (Int32.toNatClampNeg (x4 + (1 : Int32))))), none]) (d' := 4) (v := some (.int r2)) (σ1 := (S4, M, O)) rfl rfl mt_113 rfl rfl (by omega) (X_w_years (Nat.le_refl _) _ _ _ _ hx3) (Ex_st (st2 := [.int r2]) rfl ?_) (by omega)
  refine Ex_go 5 (pc' := 747) (L' := [some (.ref 2500), some (.ref 0), some (.ref 1000), some (.ref 2000), some (.int x4), none, none, none]) (st' := [.int (x4 + (1 : Int32)), .ref 2500, .ref 1000, .int r2]) (σ' := (S4, M, O)) (rfl) ?_
  obtain ⟨hc5, hF⟩ := ck_i hF
  refine Ex_chk (b := ib (x4 + (1 : Int32)) nL) (pc' := 748) (L' := [some (.ref 2500), some (.ref 0), some (.ref 1000), some (.ref 2000), some (.int x4), none, none, none]) (st' := [.int (xs (Int32.toNatClampNeg (x4 + (1 : Int32)))), .ref 1000, .int r2]) (σ' := (S4, M, O)) rfl hc5 ?_
  obtain ⟨r6, M8, hx7, hF⟩ := b2_i hF
  refine Ex_callK (K1 := 0) (K2 := K) (kind := 2) (y := 119) (as := [.ref 1000, .int (xs (Int32.toNatClampNeg (x4 + (1 : Int32))))]) (rest := [.int r2]) (L0 := [some (.ref 1000), some (.int (xs (Int32.toNatClampNeg (x4 + (1 : Int32))))), none]) (d' := 4) (v := some (.int r6)) (σ1 := (S4, M8, O)) rfl rfl mt_119 rfl rfl (by omega) (X_m_years (Nat.le_refl _) _ _ _ _ hx7) (Ex_st (st2 := [.int r6, .int r2]) rfl ?_) (by omega)
  refine Ex_go 1 (pc' := if r2 = r6 then 2537 else 754) (L' := [some (.ref 2500), some (.ref 0), some (.ref 1000), some (.ref 2000), some (.int x4), none, none, none]) (st' := []) (σ' := (S4, M8, O)) (rfl) ?_
  refine Ex_br (fun hc => ?_) (fun hc => ?_)
  · rw [if_pos hc] at hF
    exact Ex_mono (L := [some (.ref 2500), some (.ref 0), some (.ref 1000), some (.ref 2000), some (.int x4), none, none, none]) (Le_s (Le_s (Le_s (Le_s (Le_s (Le_n (Le_n (Le_n (Le_0))))))))) (X_l_law_2537 hd hk23 _ _ _ _ _ _ _ _ hF) (Nat.le_refl _) (by omega)
  · rw [if_neg hc] at hF
    refine Ex_go 1 (pc' := 755) (L' := [some (.ref 2500), some (.ref 0), some (.ref 1000), some (.ref 2000), some (.int x4), none, none, none]) (st' := [.int (0 : Int32)]) (σ' := (S4, M8, O)) (rfl) ?_
    cases hF
    exact Ex_fin rfl
def F_l_law_756 (nL : Nat) (xs : Nat → Int32) (k23 : Int32 → Sto → Sto → Sto → Option (Int32 × Sto × Sto × Sto)) (x4 : Int32) (S : Sto) (M : Sto) (O : Sto) : Option (Int32 × Sto × Sto × Sto) := b2 (F_w_undo S) (fun r1 S3 => b2 (F_m_undo M) (fun r4 M6 => if r1 = r4 then F_l_law_2537 nL xs k23 x4 S3 M6 O else some ((0 : Int32), S3, M6, O)))
set_option maxRecDepth 100000 in
theorem X_l_law_756 {nL : Nat} {xs : Nat → Int32} {d : Nat} (hd : 98 ≤ d) {K : Nat} {k23 : Int32 → Sto → Sto → Sto → Option (Int32 × Sto × Sto × Sto)} (hk23 : ∀ (x4 : Int32) (S : Sto) (M : Sto) (O : Sto) (r : Int32) (S' : Sto) (M' : Sto) (O' : Sto), k23 x4 S M O = some (r, S', M', O') → EX nL xs K MI_281 d 23 [some (.ref 2500), some (.ref 0), some (.ref 1000), some (.ref 2000), some (.int x4), none, none, none] [] (S, M, O) (.inl (some (.int r))) (S', M', O')) : ∀ (x4 : Int32) (S : Sto) (M : Sto) (O : Sto) (r : Int32) (S' : Sto) (M' : Sto) (O' : Sto), F_l_law_756 nL xs k23 x4 S M O = some (r, S', M', O') → EX nL xs K MI_281 d 756 [some (.ref 2500), some (.ref 0), some (.ref 1000), some (.ref 2000), some (.int x4), none, none, none] [] (S, M, O) (.inl (some (.int r))) (S', M', O') := by
  intro x4 S M O r S' M' O' hF
  unfold F_l_law_756 at hF
  refine Ex_go 1 (pc' := 757) (L' := [some (.ref 2500), some (.ref 0), some (.ref 1000), some (.ref 2000), some (.int x4), none, none, none]) (st' := [.ref 0]) (σ' := (S, M, O)) (rfl) ?_
  obtain ⟨r1, S3, hx2, hF⟩ := b2_i hF
  refine Ex_callK (K1 := 0) (K2 := K) (kind := 2) (y := 121) (as := [.ref 0]) (rest := []) (L0 := [some (.ref 0)]) (d' := 2) (v := some (.int r1)) (σ1 := (S3, M, O)) rfl rfl mt_121 rfl rfl (by omega) (X_w_undo (Nat.le_refl _) _ _ _ hx2) (Ex_st (st2 := [.int r1]) rfl ?_) (by omega)
  refine Ex_go 1 (pc' := 761) (L' := [some (.ref 2500), some (.ref 0), some (.ref 1000), some (.ref 2000), some (.int x4), none, none, none]) (st' := [.ref 1000, .int r1]) (σ' := (S3, M, O)) (rfl) ?_
  obtain ⟨r4, M6, hx5, hF⟩ := b2_i hF
  refine Ex_callK (K1 := 0) (K2 := K) (kind := 2) (y := 123) (as := [.ref 1000]) (rest := [.int r1]) (L0 := [some (.ref 1000)]) (d' := 2) (v := some (.int r4)) (σ1 := (S3, M6, O)) rfl rfl mt_123 rfl rfl (by omega) (X_m_undo (Nat.le_refl _) _ _ _ hx5) (Ex_st (st2 := [.int r4, .int r1]) rfl ?_) (by omega)
  refine Ex_go 1 (pc' := if r1 = r4 then 2537 else 767) (L' := [some (.ref 2500), some (.ref 0), some (.ref 1000), some (.ref 2000), some (.int x4), none, none, none]) (st' := []) (σ' := (S3, M6, O)) (rfl) ?_
  refine Ex_br (fun hc => ?_) (fun hc => ?_)
  · rw [if_pos hc] at hF
    exact Ex_mono (L := [some (.ref 2500), some (.ref 0), some (.ref 1000), some (.ref 2000), some (.int x4), none, none, none]) (Le_s (Le_s (Le_s (Le_s (Le_s (Le_n (Le_n (Le_n (Le_0))))))))) (X_l_law_2537 hd hk23 _ _ _ _ _ _ _ _ hF) (Nat.le_refl _) (by omega)
  · rw [if_neg hc] at hF
    refine Ex_go 1 (pc' := 768) (L' := [some (.ref 2500), some (.ref 0), some (.ref 1000), some (.ref 2000), some (.int x4), none, none, none]) (st' := [.int (0 : Int32)]) (σ' := (S3, M6, O)) (rfl) ?_
    cases hF
    exact Ex_fin rfl
def F_l_law_854 (nL : Nat) (xs : Nat → Int32) (k23 : Int32 → Sto → Sto → Sto → Option (Int32 × Sto × Sto × Sto)) (x4 : Int32) (S : Sto) (M : Sto) (O : Sto) : Option (Int32 × Sto × Sto × Sto) := F_l_law_2537 nL xs k23 x4 S M O
set_option maxRecDepth 100000 in
theorem X_l_law_854 {nL : Nat} {xs : Nat → Int32} {d : Nat} (hd : 98 ≤ d) {K : Nat} {k23 : Int32 → Sto → Sto → Sto → Option (Int32 × Sto × Sto × Sto)} (hk23 : ∀ (x4 : Int32) (S : Sto) (M : Sto) (O : Sto) (r : Int32) (S' : Sto) (M' : Sto) (O' : Sto), k23 x4 S M O = some (r, S', M', O') → EX nL xs K MI_281 d 23 [some (.ref 2500), some (.ref 0), some (.ref 1000), some (.ref 2000), some (.int x4), none, none, none] [] (S, M, O) (.inl (some (.int r))) (S', M', O')) : ∀ (x4 : Int32) (S : Sto) (M : Sto) (O : Sto) (r : Int32) (S' : Sto) (M' : Sto) (O' : Sto), F_l_law_854 nL xs k23 x4 S M O = some (r, S', M', O') → EX nL xs K MI_281 d 854 [some (.ref 2500), some (.ref 0), some (.ref 1000), some (.ref 2000), some (.int x4), none, none, none] [] (S, M, O) (.inl (some (.int r))) (S', M', O') := by
  intro x4 S M O r S' M' O' hF
  unfold F_l_law_854 at hF
  refine Ex_go 1 (pc' := 2537) (L' := [some (.ref 2500), some (.ref 0), some (.ref 1000), some (.ref 2000), some (.int x4), none, none, none]) (st' := []) (σ' := (S, M, O)) (rfl) ?_
  exact Ex_mono (L := [some (.ref 2500), some (.ref 0), some (.ref 1000), some (.ref 2000), some (.int x4), none, none, none]) (Le_s (Le_s (Le_s (Le_s (Le_s (Le_n (Le_n (Le_n (Le_0))))))))) (X_l_law_2537 hd hk23 _ _ _ _ _ _ _ _ hF) (Nat.le_refl _) (by omega)
def F_l_law_769 (nL : Nat) (xs : Nat → Int32) (k23 : Int32 → Sto → Sto → Sto → Option (Int32 × Sto × Sto × Sto)) (x4 : Int32) (S : Sto) (M : Sto) (O : Sto) : Option (Int32 × Sto × Sto × Sto) := ck (ib (x4 + (1 : Int32)) nL) (ck (ib (x4 + (2 : Int32)) nL) (b2 (F_l_nets (((Int32.toInt64 (xs (Int32.toNatClampNeg (x4 + (1 : Int32))))) <<< (Int32.toInt64 (32 : Int32) &&& 63)) ||| ((Int32.toInt64 (xs (Int32.toNatClampNeg (x4 + (2 : Int32))))) &&& (4294967295 : Int64))) S O) (fun r3 O5 => ck (ib (x4 + (1 : Int32)) nL) (ck (ib (x4 + (2 : Int32)) nL) (b2 (F_m_nets (((Int32.toInt64 (xs (Int32.toNatClampNeg (x4 + (1 : Int32))))) <<< (Int32.toInt64 (32 : Int32) &&& 63)) ||| ((Int32.toInt64 (xs (Int32.toNatClampNeg (x4 + (2 : Int32))))) &&& (4294967295 : Int64))) M) (fun r8 M10 => b1 (F_m_thrown M10) (fun r11 => if r11 = r3 then if r3 = 0 then if (al O5 2000 (Int32.toNatClampNeg (0 : Int32))) = (Int32.toInt64 r8) then F_l_law_854 nL xs k23 x4 S M10 O5 else some ((0 : Int32), S, M10, O5) else F_l_law_854 nL xs k23 x4 S M10 O5 else some ((0 : Int32), S, M10, O5))))))))
set_option maxRecDepth 100000 in
theorem X_l_law_769 {nL : Nat} {xs : Nat → Int32} {d : Nat} (hd : 98 ≤ d) {K : Nat} {k23 : Int32 → Sto → Sto → Sto → Option (Int32 × Sto × Sto × Sto)} (hk23 : ∀ (x4 : Int32) (S : Sto) (M : Sto) (O : Sto) (r : Int32) (S' : Sto) (M' : Sto) (O' : Sto), k23 x4 S M O = some (r, S', M', O') → EX nL xs K MI_281 d 23 [some (.ref 2500), some (.ref 0), some (.ref 1000), some (.ref 2000), some (.int x4), none, none, none] [] (S, M, O) (.inl (some (.int r))) (S', M', O')) : ∀ (x4 : Int32) (S : Sto) (M : Sto) (O : Sto) (r : Int32) (S' : Sto) (M' : Sto) (O' : Sto), F_l_law_769 nL xs k23 x4 S M O = some (r, S', M', O') → EX nL xs (K + 1) MI_281 d 769 [some (.ref 2500), some (.ref 0), some (.ref 1000), some (.ref 2000), some (.int x4), none, none, none] [] (S, M, O) (.inl (some (.int r))) (S', M', O') := by
  intro x4 S M O r S' M' O' hF
  unfold F_l_law_769 at hF
  refine Ex_go 5 (pc' := 775) (L' := [some (.ref 2500), some (.ref 0), some (.ref 1000), some (.ref 2000), some (.int x4), none, none, none]) (st' := [.int (x4 + (1 : Int32)), .ref 2500, .ref 0]) (σ' := (S, M, O)) (rfl) ?_
  obtain ⟨hc1, hF⟩ := ck_i hF
  refine Ex_chk (b := ib (x4 + (1 : Int32)) nL) (pc' := 776) (L' := [some (.ref 2500), some (.ref 0), some (.ref 1000), some (.ref 2000), some (.int x4), none, none, none]) (st' := [.int (xs (Int32.toNatClampNeg (x4 + (1 : Int32)))), .ref 0]) (σ' := (S, M, O)) rfl hc1 ?_
  refine Ex_go 7 (pc' := 785) (L' := [some (.ref 2500), some (.ref 0), some (.ref 1000), some (.ref 2000), some (.int x4), none, none, none]) (st' := [.int (x4 + (2 : Int32)), .ref 2500, .long ((Int32.toInt64 (xs (Int32.toNatClampNeg (x4 + (1 : Int32))))) <<< (Int32.toInt64 (32 : Int32) &&& 63)), .ref 0]) (σ' := (S, M, O)) (rfl) ?_
  obtain ⟨hc2, hF⟩ := ck_i hF
  refine Ex_chk (b := ib (x4 + (2 : Int32)) nL) (pc' := 786) (L' := [some (.ref 2500), some (.ref 0), some (.ref 1000), some (.ref 2000), some (.int x4), none, none, none]) (st' := [.int (xs (Int32.toNatClampNeg (x4 + (2 : Int32)))), .long ((Int32.toInt64 (xs (Int32.toNatClampNeg (x4 + (1 : Int32))))) <<< (Int32.toInt64 (32 : Int32) &&& 63)), .ref 0]) (σ' := (S, M, O)) rfl hc2 ?_
  refine Ex_go 5 (pc' := 793) (L' := [some (.ref 2500), some (.ref 0), some (.ref 1000), some (.ref 2000), some (.int x4), none, none, none]) (st' := [.ref 2000, .long (((Int32.toInt64 (xs (Int32.toNatClampNeg (x4 + (1 : Int32))))) <<< (Int32.toInt64 (32 : Int32) &&& 63)) ||| ((Int32.toInt64 (xs (Int32.toNatClampNeg (x4 + (2 : Int32))))) &&& (4294967295 : Int64))), .ref 0]) (σ' := (S, M, O)) (rfl) ?_
  obtain ⟨r3, O5, hx4, hF⟩ := b2_i hF
  refine Ex_callK (K1 := 1) (K2 := K) (kind := 4) (y := 126) (as := [.ref 0, .long (((Int32.toInt64 (xs (Int32.toNatClampNeg (x4 + (1 : Int32))))) <<< (Int32.toInt64 (32 : Int32) &&& 63)) ||| ((Int32.toInt64 (xs (Int32.toNatClampNeg (x4 + (2 : Int32))))) &&& (4294967295 : Int64))), .ref 2000]) (rest := []) (L0 := [some (.ref 0), some (.long (((Int32.toInt64 (xs (Int32.toNatClampNeg (x4 + (1 : Int32))))) <<< (Int32.toInt64 (32 : Int32) &&& 63)) ||| ((Int32.toInt64 (xs (Int32.toNatClampNeg (x4 + (2 : Int32))))) &&& (4294967295 : Int64)))), none, some (.ref 2000), none]) (d' := 9) (v := some (.int r3)) (σ1 := (S, M, O5)) rfl rfl mt_126 rfl rfl (by omega) (X_l_nets (Nat.le_refl _) _ _ _ _ _ hx4) (Ex_st (st2 := [.int r3]) rfl ?_) (by omega)
  refine Ex_go 6 (pc' := 804) (L' := [some (.ref 2500), some (.ref 0), some (.ref 1000), some (.ref 2000), some (.int x4), some (.int r3), none, none]) (st' := [.int (x4 + (1 : Int32)), .ref 2500, .ref 1000]) (σ' := (S, M, O5)) (rfl) ?_
  obtain ⟨hc6, hF⟩ := ck_i hF
  refine Ex_chk (b := ib (x4 + (1 : Int32)) nL) (pc' := 805) (L' := [some (.ref 2500), some (.ref 0), some (.ref 1000), some (.ref 2000), some (.int x4), some (.int r3), none, none]) (st' := [.int (xs (Int32.toNatClampNeg (x4 + (1 : Int32)))), .ref 1000]) (σ' := (S, M, O5)) rfl hc6 ?_
  refine Ex_go 7 (pc' := 814) (L' := [some (.ref 2500), some (.ref 0), some (.ref 1000), some (.ref 2000), some (.int x4), some (.int r3), none, none]) (st' := [.int (x4 + (2 : Int32)), .ref 2500, .long ((Int32.toInt64 (xs (Int32.toNatClampNeg (x4 + (1 : Int32))))) <<< (Int32.toInt64 (32 : Int32) &&& 63)), .ref 1000]) (σ' := (S, M, O5)) (rfl) ?_
  obtain ⟨hc7, hF⟩ := ck_i hF
  refine Ex_chk (b := ib (x4 + (2 : Int32)) nL) (pc' := 815) (L' := [some (.ref 2500), some (.ref 0), some (.ref 1000), some (.ref 2000), some (.int x4), some (.int r3), none, none]) (st' := [.int (xs (Int32.toNatClampNeg (x4 + (2 : Int32)))), .long ((Int32.toInt64 (xs (Int32.toNatClampNeg (x4 + (1 : Int32))))) <<< (Int32.toInt64 (32 : Int32) &&& 63)), .ref 1000]) (σ' := (S, M, O5)) rfl hc7 ?_
  refine Ex_go 4 (pc' := 821) (L' := [some (.ref 2500), some (.ref 0), some (.ref 1000), some (.ref 2000), some (.int x4), some (.int r3), none, none]) (st' := [.long (((Int32.toInt64 (xs (Int32.toNatClampNeg (x4 + (1 : Int32))))) <<< (Int32.toInt64 (32 : Int32) &&& 63)) ||| ((Int32.toInt64 (xs (Int32.toNatClampNeg (x4 + (2 : Int32))))) &&& (4294967295 : Int64))), .ref 1000]) (σ' := (S, M, O5)) (rfl) ?_
  obtain ⟨r8, M10, hx9, hF⟩ := b2_i hF
  refine Ex_callK (K1 := 0) (K2 := K) (kind := 2) (y := 129) (as := [.ref 1000, .long (((Int32.toInt64 (xs (Int32.toNatClampNeg (x4 + (1 : Int32))))) <<< (Int32.toInt64 (32 : Int32) &&& 63)) ||| ((Int32.toInt64 (xs (Int32.toNatClampNeg (x4 + (2 : Int32))))) &&& (4294967295 : Int64)))]) (rest := []) (L0 := [some (.ref 1000), some (.long (((Int32.toInt64 (xs (Int32.toNatClampNeg (x4 + (1 : Int32))))) <<< (Int32.toInt64 (32 : Int32) &&& 63)) ||| ((Int32.toInt64 (xs (Int32.toNatClampNeg (x4 + (2 : Int32))))) &&& (4294967295 : Int64)))), none]) (d' := 4) (v := some (.int r8)) (σ1 := (S, M10, O5)) rfl rfl mt_129 rfl rfl (by omega) (X_m_nets (Nat.le_refl _) _ _ _ _ hx9) (Ex_st (st2 := [.int r8]) rfl ?_) (by omega)
  refine Ex_go 2 (pc' := 827) (L' := [some (.ref 2500), some (.ref 0), some (.ref 1000), some (.ref 2000), some (.int x4), some (.int r3), some (.int r8), none]) (st' := [.ref 1000]) (σ' := (S, M10, O5)) (rfl) ?_
  obtain ⟨r11, hx12, hF⟩ := b1_i hF
  refine Ex_callK (K1 := 0) (K2 := K) (kind := 2) (y := 77) (as := [.ref 1000]) (rest := []) (L0 := [some (.ref 1000)]) (d' := 1) (v := some (.int r11)) (σ1 := (S, M10, O5)) rfl rfl mt_77 rfl rfl (by omega) (X_m_thrown (Nat.le_refl _) _ _ hx12) (Ex_st (st2 := [.int r11]) rfl ?_) (by omega)
  refine Ex_go 2 (pc' := if r11 = r3 then 837 else 835) (L' := [some (.ref 2500), some (.ref 0), some (.ref 1000), some (.ref 2000), some (.int x4), some (.int r3), some (.int r8), none]) (st' := []) (σ' := (S, M10, O5)) (rfl) ?_
  refine Ex_br (fun hc => ?_) (fun hc => ?_)
  · rw [if_pos hc] at hF
    refine Ex_go 2 (pc' := if ¬ r3 = 0 then 854 else 842) (L' := [some (.ref 2500), some (.ref 0), some (.ref 1000), some (.ref 2000), some (.int x4), some (.int r3), some (.int r8), none]) (st' := []) (σ' := (S, M10, O5)) (rfl) ?_
    refine Ex_brN (fun hc => ?_) (fun hc => ?_)
    · rw [if_pos hc] at hF
      refine Ex_go 2 (pc' := 844) (L' := [some (.ref 2500), some (.ref 0), some (.ref 1000), some (.ref 2000), some (.int x4), some (.int r3), some (.int r8), none]) (st' := [.int (0 : Int32), .ref 2000]) (σ' := (S, M10, O5)) (rfl) ?_
      refine Ex_chk (b := ib (0 : Int32) 1) (pc' := 845) (L' := [some (.ref 2500), some (.ref 0), some (.ref 1000), some (.ref 2000), some (.int x4), some (.int r3), some (.int r8), none]) (st' := [.long (al O5 2000 (Int32.toNatClampNeg (0 : Int32)))]) (σ' := (S, M10, O5)) rfl (by decide) ?_
      refine Ex_go 4 (pc' := if (lg_cmp (al O5 2000 (Int32.toNatClampNeg (0 : Int32))) (Int32.toInt64 r8)) = 0 then 854 else 852) (L' := [some (.ref 2500), some (.ref 0), some (.ref 1000), some (.ref 2000), some (.int x4), some (.int r3), some (.int r8), none]) (st' := []) (σ' := (S, M10, O5)) (rfl) ?_
      refine Ex_brI lc_eq (fun hc => ?_) (fun hc => ?_)
      · rw [if_pos hc] at hF
        exact Ex_mono (L := [some (.ref 2500), some (.ref 0), some (.ref 1000), some (.ref 2000), some (.int x4), none, none, none]) (Le_s (Le_s (Le_s (Le_s (Le_s (Le_n (Le_n (Le_n (Le_0))))))))) (X_l_law_854 hd hk23 _ _ _ _ _ _ _ _ hF) (Nat.le_refl _) (by omega)
      · rw [if_neg hc] at hF
        refine Ex_go 1 (pc' := 853) (L' := [some (.ref 2500), some (.ref 0), some (.ref 1000), some (.ref 2000), some (.int x4), some (.int r3), some (.int r8), none]) (st' := [.int (0 : Int32)]) (σ' := (S, M10, O5)) (rfl) ?_
        cases hF
        exact Ex_fin rfl
    · rw [if_neg hc] at hF
      exact Ex_mono (L := [some (.ref 2500), some (.ref 0), some (.ref 1000), some (.ref 2000), some (.int x4), none, none, none]) (Le_s (Le_s (Le_s (Le_s (Le_s (Le_n (Le_n (Le_n (Le_0))))))))) (X_l_law_854 hd hk23 _ _ _ _ _ _ _ _ hF) (Nat.le_refl _) (by omega)
  · rw [if_neg hc] at hF
    refine Ex_go 1 (pc' := 836) (L' := [some (.ref 2500), some (.ref 0), some (.ref 1000), some (.ref 2000), some (.int x4), some (.int r3), some (.int r8), none]) (st' := [.int (0 : Int32)]) (σ' := (S, M10, O5)) (rfl) ?_
    cases hF
    exact Ex_fin rfl
def F_l_law_909 (nL : Nat) (xs : Nat → Int32) (k23 : Int32 → Sto → Sto → Sto → Option (Int32 × Sto × Sto × Sto)) (x4 : Int32) (S : Sto) (M : Sto) (O : Sto) : Option (Int32 × Sto × Sto × Sto) := F_l_law_2537 nL xs k23 x4 S M O
set_option maxRecDepth 100000 in
theorem X_l_law_909 {nL : Nat} {xs : Nat → Int32} {d : Nat} (hd : 98 ≤ d) {K : Nat} {k23 : Int32 → Sto → Sto → Sto → Option (Int32 × Sto × Sto × Sto)} (hk23 : ∀ (x4 : Int32) (S : Sto) (M : Sto) (O : Sto) (r : Int32) (S' : Sto) (M' : Sto) (O' : Sto), k23 x4 S M O = some (r, S', M', O') → EX nL xs K MI_281 d 23 [some (.ref 2500), some (.ref 0), some (.ref 1000), some (.ref 2000), some (.int x4), none, none, none] [] (S, M, O) (.inl (some (.int r))) (S', M', O')) : ∀ (x4 : Int32) (S : Sto) (M : Sto) (O : Sto) (r : Int32) (S' : Sto) (M' : Sto) (O' : Sto), F_l_law_909 nL xs k23 x4 S M O = some (r, S', M', O') → EX nL xs K MI_281 d 909 [some (.ref 2500), some (.ref 0), some (.ref 1000), some (.ref 2000), some (.int x4), none, none, none] [] (S, M, O) (.inl (some (.int r))) (S', M', O') := by
  intro x4 S M O r S' M' O' hF
  unfold F_l_law_909 at hF
  refine Ex_go 1 (pc' := 2537) (L' := [some (.ref 2500), some (.ref 0), some (.ref 1000), some (.ref 2000), some (.int x4), none, none, none]) (st' := []) (σ' := (S, M, O)) (rfl) ?_
  exact Ex_mono (L := [some (.ref 2500), some (.ref 0), some (.ref 1000), some (.ref 2000), some (.int x4), none, none, none]) (Le_s (Le_s (Le_s (Le_s (Le_s (Le_n (Le_n (Le_n (Le_0))))))))) (X_l_law_2537 hd hk23 _ _ _ _ _ _ _ _ hF) (Nat.le_refl _) (by omega)
def F_l_law_857 (nL : Nat) (xs : Nat → Int32) (k23 : Int32 → Sto → Sto → Sto → Option (Int32 × Sto × Sto × Sto)) (x4 : Int32) (S : Sto) (M : Sto) (O : Sto) : Option (Int32 × Sto × Sto × Sto) := ck (ib (x4 + (1 : Int32)) nL) (b2 (F_l_all (xs (Int32.toNatClampNeg (x4 + (1 : Int32)))) S O) (fun r2 O4 => ck (ib (x4 + (1 : Int32)) nL) (b2 (F_m_all (xs (Int32.toNatClampNeg (x4 + (1 : Int32)))) M) (fun r6 M8 => b1 (F_m_thrown M8) (fun r9 => if r9 = r2 then if r2 = 0 then if (al O4 2000 (Int32.toNatClampNeg (0 : Int32))) = r6 then F_l_law_909 nL xs k23 x4 S M8 O4 else some ((0 : Int32), S, M8, O4) else F_l_law_909 nL xs k23 x4 S M8 O4 else some ((0 : Int32), S, M8, O4))))))
set_option maxRecDepth 100000 in
theorem X_l_law_857 {nL : Nat} {xs : Nat → Int32} {d : Nat} (hd : 98 ≤ d) {K : Nat} {k23 : Int32 → Sto → Sto → Sto → Option (Int32 × Sto × Sto × Sto)} (hk23 : ∀ (x4 : Int32) (S : Sto) (M : Sto) (O : Sto) (r : Int32) (S' : Sto) (M' : Sto) (O' : Sto), k23 x4 S M O = some (r, S', M', O') → EX nL xs K MI_281 d 23 [some (.ref 2500), some (.ref 0), some (.ref 1000), some (.ref 2000), some (.int x4), none, none, none] [] (S, M, O) (.inl (some (.int r))) (S', M', O')) : ∀ (x4 : Int32) (S : Sto) (M : Sto) (O : Sto) (r : Int32) (S' : Sto) (M' : Sto) (O' : Sto), F_l_law_857 nL xs k23 x4 S M O = some (r, S', M', O') → EX nL xs (K + 1) MI_281 d 857 [some (.ref 2500), some (.ref 0), some (.ref 1000), some (.ref 2000), some (.int x4), none, none, none] [] (S, M, O) (.inl (some (.int r))) (S', M', O') := by
  intro x4 S M O r S' M' O' hF
  unfold F_l_law_857 at hF
  refine Ex_go 5 (pc' := 863) (L' := [some (.ref 2500), some (.ref 0), some (.ref 1000), some (.ref 2000), some (.int x4), none, none, none]) (st' := [.int (x4 + (1 : Int32)), .ref 2500, .ref 0]) (σ' := (S, M, O)) (rfl) ?_
  obtain ⟨hc1, hF⟩ := ck_i hF
  refine Ex_chk (b := ib (x4 + (1 : Int32)) nL) (pc' := 864) (L' := [some (.ref 2500), some (.ref 0), some (.ref 1000), some (.ref 2000), some (.int x4), none, none, none]) (st' := [.int (xs (Int32.toNatClampNeg (x4 + (1 : Int32)))), .ref 0]) (σ' := (S, M, O)) rfl hc1 ?_
  refine Ex_go 1 (pc' := 865) (L' := [some (.ref 2500), some (.ref 0), some (.ref 1000), some (.ref 2000), some (.int x4), none, none, none]) (st' := [.ref 2000, .int (xs (Int32.toNatClampNeg (x4 + (1 : Int32)))), .ref 0]) (σ' := (S, M, O)) (rfl) ?_
  obtain ⟨r2, O4, hx3, hF⟩ := b2_i hF
  refine Ex_callK (K1 := 1) (K2 := K) (kind := 4) (y := 133) (as := [.ref 0, .int (xs (Int32.toNatClampNeg (x4 + (1 : Int32)))), .ref 2000]) (rest := []) (L0 := [some (.ref 0), some (.int (xs (Int32.toNatClampNeg (x4 + (1 : Int32))))), some (.ref 2000), none]) (d' := 9) (v := some (.int r2)) (σ1 := (S, M, O4)) rfl rfl mt_133 rfl rfl (by omega) (X_l_all (Nat.le_refl _) _ _ _ _ _ hx3) (Ex_st (st2 := [.int r2]) rfl ?_) (by omega)
  refine Ex_go 6 (pc' := 876) (L' := [some (.ref 2500), some (.ref 0), some (.ref 1000), some (.ref 2000), some (.int x4), some (.int r2), none, none]) (st' := [.int (x4 + (1 : Int32)), .ref 2500, .ref 1000]) (σ' := (S, M, O4)) (rfl) ?_
  obtain ⟨hc5, hF⟩ := ck_i hF
  refine Ex_chk (b := ib (x4 + (1 : Int32)) nL) (pc' := 877) (L' := [some (.ref 2500), some (.ref 0), some (.ref 1000), some (.ref 2000), some (.int x4), some (.int r2), none, none]) (st' := [.int (xs (Int32.toNatClampNeg (x4 + (1 : Int32)))), .ref 1000]) (σ' := (S, M, O4)) rfl hc5 ?_
  obtain ⟨r6, M8, hx7, hF⟩ := b2_i hF
  refine Ex_callK (K1 := 0) (K2 := K) (kind := 2) (y := 142) (as := [.ref 1000, .int (xs (Int32.toNatClampNeg (x4 + (1 : Int32))))]) (rest := []) (L0 := [some (.ref 1000), some (.int (xs (Int32.toNatClampNeg (x4 + (1 : Int32)))))]) (d' := 9) (v := some (.long r6)) (σ1 := (S, M8, O4)) rfl rfl mt_142 rfl rfl (by omega) (X_m_all (Nat.le_refl _) _ _ _ _ hx7) (Ex_st (st2 := [.long r6]) rfl ?_) (by omega)
  refine Ex_go 2 (pc' := 883) (L' := [some (.ref 2500), some (.ref 0), some (.ref 1000), some (.ref 2000), some (.int x4), some (.int r2), some (.long r6), none]) (st' := [.ref 1000]) (σ' := (S, M8, O4)) (rfl) ?_
  obtain ⟨r9, hx10, hF⟩ := b1_i hF
  refine Ex_callK (K1 := 0) (K2 := K) (kind := 2) (y := 77) (as := [.ref 1000]) (rest := []) (L0 := [some (.ref 1000)]) (d' := 1) (v := some (.int r9)) (σ1 := (S, M8, O4)) rfl rfl mt_77 rfl rfl (by omega) (X_m_thrown (Nat.le_refl _) _ _ hx10) (Ex_st (st2 := [.int r9]) rfl ?_) (by omega)
  refine Ex_go 2 (pc' := if r9 = r2 then 893 else 891) (L' := [some (.ref 2500), some (.ref 0), some (.ref 1000), some (.ref 2000), some (.int x4), some (.int r2), some (.long r6), none]) (st' := []) (σ' := (S, M8, O4)) (rfl) ?_
  refine Ex_br (fun hc => ?_) (fun hc => ?_)
  · rw [if_pos hc] at hF
    refine Ex_go 2 (pc' := if ¬ r2 = 0 then 909 else 898) (L' := [some (.ref 2500), some (.ref 0), some (.ref 1000), some (.ref 2000), some (.int x4), some (.int r2), some (.long r6), none]) (st' := []) (σ' := (S, M8, O4)) (rfl) ?_
    refine Ex_brN (fun hc => ?_) (fun hc => ?_)
    · rw [if_pos hc] at hF
      refine Ex_go 2 (pc' := 900) (L' := [some (.ref 2500), some (.ref 0), some (.ref 1000), some (.ref 2000), some (.int x4), some (.int r2), some (.long r6), none]) (st' := [.int (0 : Int32), .ref 2000]) (σ' := (S, M8, O4)) (rfl) ?_
      refine Ex_chk (b := ib (0 : Int32) 1) (pc' := 901) (L' := [some (.ref 2500), some (.ref 0), some (.ref 1000), some (.ref 2000), some (.int x4), some (.int r2), some (.long r6), none]) (st' := [.long (al O4 2000 (Int32.toNatClampNeg (0 : Int32)))]) (σ' := (S, M8, O4)) rfl (by decide) ?_
      refine Ex_go 3 (pc' := if (lg_cmp (al O4 2000 (Int32.toNatClampNeg (0 : Int32))) r6) = 0 then 909 else 907) (L' := [some (.ref 2500), some (.ref 0), some (.ref 1000), some (.ref 2000), some (.int x4), some (.int r2), some (.long r6), none]) (st' := []) (σ' := (S, M8, O4)) (rfl) ?_
      refine Ex_brI lc_eq (fun hc => ?_) (fun hc => ?_)
      · rw [if_pos hc] at hF
        exact Ex_mono (L := [some (.ref 2500), some (.ref 0), some (.ref 1000), some (.ref 2000), some (.int x4), none, none, none]) (Le_s (Le_s (Le_s (Le_s (Le_s (Le_n (Le_n (Le_n (Le_0))))))))) (X_l_law_909 hd hk23 _ _ _ _ _ _ _ _ hF) (Nat.le_refl _) (by omega)
      · rw [if_neg hc] at hF
        refine Ex_go 1 (pc' := 908) (L' := [some (.ref 2500), some (.ref 0), some (.ref 1000), some (.ref 2000), some (.int x4), some (.int r2), some (.long r6), none]) (st' := [.int (0 : Int32)]) (σ' := (S, M8, O4)) (rfl) ?_
        cases hF
        exact Ex_fin rfl
    · rw [if_neg hc] at hF
      exact Ex_mono (L := [some (.ref 2500), some (.ref 0), some (.ref 1000), some (.ref 2000), some (.int x4), none, none, none]) (Le_s (Le_s (Le_s (Le_s (Le_s (Le_n (Le_n (Le_n (Le_0))))))))) (X_l_law_909 hd hk23 _ _ _ _ _ _ _ _ hF) (Nat.le_refl _) (by omega)
  · rw [if_neg hc] at hF
    refine Ex_go 1 (pc' := 892) (L' := [some (.ref 2500), some (.ref 0), some (.ref 1000), some (.ref 2000), some (.int x4), some (.int r2), some (.long r6), none]) (st' := [.int (0 : Int32)]) (σ' := (S, M8, O4)) (rfl) ?_
    cases hF
    exact Ex_fin rfl
def F_l_law_964 (nL : Nat) (xs : Nat → Int32) (k23 : Int32 → Sto → Sto → Sto → Option (Int32 × Sto × Sto × Sto)) (x4 : Int32) (S : Sto) (M : Sto) (O : Sto) : Option (Int32 × Sto × Sto × Sto) := F_l_law_2537 nL xs k23 x4 S M O
set_option maxRecDepth 100000 in
theorem X_l_law_964 {nL : Nat} {xs : Nat → Int32} {d : Nat} (hd : 98 ≤ d) {K : Nat} {k23 : Int32 → Sto → Sto → Sto → Option (Int32 × Sto × Sto × Sto)} (hk23 : ∀ (x4 : Int32) (S : Sto) (M : Sto) (O : Sto) (r : Int32) (S' : Sto) (M' : Sto) (O' : Sto), k23 x4 S M O = some (r, S', M', O') → EX nL xs K MI_281 d 23 [some (.ref 2500), some (.ref 0), some (.ref 1000), some (.ref 2000), some (.int x4), none, none, none] [] (S, M, O) (.inl (some (.int r))) (S', M', O')) : ∀ (x4 : Int32) (S : Sto) (M : Sto) (O : Sto) (r : Int32) (S' : Sto) (M' : Sto) (O' : Sto), F_l_law_964 nL xs k23 x4 S M O = some (r, S', M', O') → EX nL xs K MI_281 d 964 [some (.ref 2500), some (.ref 0), some (.ref 1000), some (.ref 2000), some (.int x4), none, none, none] [] (S, M, O) (.inl (some (.int r))) (S', M', O') := by
  intro x4 S M O r S' M' O' hF
  unfold F_l_law_964 at hF
  refine Ex_go 1 (pc' := 2537) (L' := [some (.ref 2500), some (.ref 0), some (.ref 1000), some (.ref 2000), some (.int x4), none, none, none]) (st' := []) (σ' := (S, M, O)) (rfl) ?_
  exact Ex_mono (L := [some (.ref 2500), some (.ref 0), some (.ref 1000), some (.ref 2000), some (.int x4), none, none, none]) (Le_s (Le_s (Le_s (Le_s (Le_s (Le_n (Le_n (Le_n (Le_0))))))))) (X_l_law_2537 hd hk23 _ _ _ _ _ _ _ _ hF) (Nat.le_refl _) (by omega)
def F_l_law_912 (nL : Nat) (xs : Nat → Int32) (k23 : Int32 → Sto → Sto → Sto → Option (Int32 × Sto × Sto × Sto)) (x4 : Int32) (S : Sto) (M : Sto) (O : Sto) : Option (Int32 × Sto × Sto × Sto) := ck (ib (x4 + (1 : Int32)) nL) (b3 (F_l_some (xs (Int32.toNatClampNeg (x4 + (1 : Int32)))) S O) (fun r2 S4 O5 => ck (ib (x4 + (1 : Int32)) nL) (b2 (F_m_some (xs (Int32.toNatClampNeg (x4 + (1 : Int32)))) M) (fun r7 M9 => b1 (F_m_thrown M9) (fun r10 => if r10 = r2 then if r2 = 0 then if (al O5 2000 (Int32.toNatClampNeg (0 : Int32))) = r7 then F_l_law_964 nL xs k23 x4 S4 M9 O5 else some ((0 : Int32), S4, M9, O5) else F_l_law_964 nL xs k23 x4 S4 M9 O5 else some ((0 : Int32), S4, M9, O5))))))
set_option maxRecDepth 100000 in
theorem X_l_law_912 {nL : Nat} {xs : Nat → Int32} {d : Nat} (hd : 98 ≤ d) {K : Nat} {k23 : Int32 → Sto → Sto → Sto → Option (Int32 × Sto × Sto × Sto)} (hk23 : ∀ (x4 : Int32) (S : Sto) (M : Sto) (O : Sto) (r : Int32) (S' : Sto) (M' : Sto) (O' : Sto), k23 x4 S M O = some (r, S', M', O') → EX nL xs K MI_281 d 23 [some (.ref 2500), some (.ref 0), some (.ref 1000), some (.ref 2000), some (.int x4), none, none, none] [] (S, M, O) (.inl (some (.int r))) (S', M', O')) : ∀ (x4 : Int32) (S : Sto) (M : Sto) (O : Sto) (r : Int32) (S' : Sto) (M' : Sto) (O' : Sto), F_l_law_912 nL xs k23 x4 S M O = some (r, S', M', O') → EX nL xs (K + 1) MI_281 d 912 [some (.ref 2500), some (.ref 0), some (.ref 1000), some (.ref 2000), some (.int x4), none, none, none] [] (S, M, O) (.inl (some (.int r))) (S', M', O') := by
  intro x4 S M O r S' M' O' hF
  unfold F_l_law_912 at hF
  refine Ex_go 5 (pc' := 918) (L' := [some (.ref 2500), some (.ref 0), some (.ref 1000), some (.ref 2000), some (.int x4), none, none, none]) (st' := [.int (x4 + (1 : Int32)), .ref 2500, .ref 0]) (σ' := (S, M, O)) (rfl) ?_
  obtain ⟨hc1, hF⟩ := ck_i hF
  refine Ex_chk (b := ib (x4 + (1 : Int32)) nL) (pc' := 919) (L' := [some (.ref 2500), some (.ref 0), some (.ref 1000), some (.ref 2000), some (.int x4), none, none, none]) (st' := [.int (xs (Int32.toNatClampNeg (x4 + (1 : Int32)))), .ref 0]) (σ' := (S, M, O)) rfl hc1 ?_
  refine Ex_go 1 (pc' := 920) (L' := [some (.ref 2500), some (.ref 0), some (.ref 1000), some (.ref 2000), some (.int x4), none, none, none]) (st' := [.ref 2000, .int (xs (Int32.toNatClampNeg (x4 + (1 : Int32)))), .ref 0]) (σ' := (S, M, O)) (rfl) ?_
  obtain ⟨r2, S4, O5, hx3, hF⟩ := b3_i hF
  refine Ex_callK (K1 := 1) (K2 := K) (kind := 4) (y := 147) (as := [.ref 0, .int (xs (Int32.toNatClampNeg (x4 + (1 : Int32)))), .ref 2000]) (rest := []) (L0 := [some (.ref 0), some (.int (xs (Int32.toNatClampNeg (x4 + (1 : Int32))))), some (.ref 2000), none]) (d' := 10) (v := some (.int r2)) (σ1 := (S4, M, O5)) rfl rfl mt_147 rfl rfl (by omega) (X_l_some (Nat.le_refl _) _ _ _ _ _ _ hx3) (Ex_st (st2 := [.int r2]) rfl ?_) (by omega)
  refine Ex_go 6 (pc' := 931) (L' := [some (.ref 2500), some (.ref 0), some (.ref 1000), some (.ref 2000), some (.int x4), some (.int r2), none, none]) (st' := [.int (x4 + (1 : Int32)), .ref 2500, .ref 1000]) (σ' := (S4, M, O5)) (rfl) ?_
  obtain ⟨hc6, hF⟩ := ck_i hF
  refine Ex_chk (b := ib (x4 + (1 : Int32)) nL) (pc' := 932) (L' := [some (.ref 2500), some (.ref 0), some (.ref 1000), some (.ref 2000), some (.int x4), some (.int r2), none, none]) (st' := [.int (xs (Int32.toNatClampNeg (x4 + (1 : Int32)))), .ref 1000]) (σ' := (S4, M, O5)) rfl hc6 ?_
  obtain ⟨r7, M9, hx8, hF⟩ := b2_i hF
  refine Ex_callK (K1 := 0) (K2 := K) (kind := 2) (y := 151) (as := [.ref 1000, .int (xs (Int32.toNatClampNeg (x4 + (1 : Int32))))]) (rest := []) (L0 := [some (.ref 1000), some (.int (xs (Int32.toNatClampNeg (x4 + (1 : Int32)))))]) (d' := 11) (v := some (.long r7)) (σ1 := (S4, M9, O5)) rfl rfl mt_151 rfl rfl (by omega) (X_m_some (Nat.le_refl _) _ _ _ _ hx8) (Ex_st (st2 := [.long r7]) rfl ?_) (by omega)
  refine Ex_go 2 (pc' := 938) (L' := [some (.ref 2500), some (.ref 0), some (.ref 1000), some (.ref 2000), some (.int x4), some (.int r2), some (.long r7), none]) (st' := [.ref 1000]) (σ' := (S4, M9, O5)) (rfl) ?_
  obtain ⟨r10, hx11, hF⟩ := b1_i hF
  refine Ex_callK (K1 := 0) (K2 := K) (kind := 2) (y := 77) (as := [.ref 1000]) (rest := []) (L0 := [some (.ref 1000)]) (d' := 1) (v := some (.int r10)) (σ1 := (S4, M9, O5)) rfl rfl mt_77 rfl rfl (by omega) (X_m_thrown (Nat.le_refl _) _ _ hx11) (Ex_st (st2 := [.int r10]) rfl ?_) (by omega)
  refine Ex_go 2 (pc' := if r10 = r2 then 948 else 946) (L' := [some (.ref 2500), some (.ref 0), some (.ref 1000), some (.ref 2000), some (.int x4), some (.int r2), some (.long r7), none]) (st' := []) (σ' := (S4, M9, O5)) (rfl) ?_
  refine Ex_br (fun hc => ?_) (fun hc => ?_)
  · rw [if_pos hc] at hF
    refine Ex_go 2 (pc' := if ¬ r2 = 0 then 964 else 953) (L' := [some (.ref 2500), some (.ref 0), some (.ref 1000), some (.ref 2000), some (.int x4), some (.int r2), some (.long r7), none]) (st' := []) (σ' := (S4, M9, O5)) (rfl) ?_
    refine Ex_brN (fun hc => ?_) (fun hc => ?_)
    · rw [if_pos hc] at hF
      refine Ex_go 2 (pc' := 955) (L' := [some (.ref 2500), some (.ref 0), some (.ref 1000), some (.ref 2000), some (.int x4), some (.int r2), some (.long r7), none]) (st' := [.int (0 : Int32), .ref 2000]) (σ' := (S4, M9, O5)) (rfl) ?_
      refine Ex_chk (b := ib (0 : Int32) 1) (pc' := 956) (L' := [some (.ref 2500), some (.ref 0), some (.ref 1000), some (.ref 2000), some (.int x4), some (.int r2), some (.long r7), none]) (st' := [.long (al O5 2000 (Int32.toNatClampNeg (0 : Int32)))]) (σ' := (S4, M9, O5)) rfl (by decide) ?_
      refine Ex_go 3 (pc' := if (lg_cmp (al O5 2000 (Int32.toNatClampNeg (0 : Int32))) r7) = 0 then 964 else 962) (L' := [some (.ref 2500), some (.ref 0), some (.ref 1000), some (.ref 2000), some (.int x4), some (.int r2), some (.long r7), none]) (st' := []) (σ' := (S4, M9, O5)) (rfl) ?_
      refine Ex_brI lc_eq (fun hc => ?_) (fun hc => ?_)
      · rw [if_pos hc] at hF
        exact Ex_mono (L := [some (.ref 2500), some (.ref 0), some (.ref 1000), some (.ref 2000), some (.int x4), none, none, none]) (Le_s (Le_s (Le_s (Le_s (Le_s (Le_n (Le_n (Le_n (Le_0))))))))) (X_l_law_964 hd hk23 _ _ _ _ _ _ _ _ hF) (Nat.le_refl _) (by omega)
      · rw [if_neg hc] at hF
        refine Ex_go 1 (pc' := 963) (L' := [some (.ref 2500), some (.ref 0), some (.ref 1000), some (.ref 2000), some (.int x4), some (.int r2), some (.long r7), none]) (st' := [.int (0 : Int32)]) (σ' := (S4, M9, O5)) (rfl) ?_
        cases hF
        exact Ex_fin rfl
    · rw [if_neg hc] at hF
      exact Ex_mono (L := [some (.ref 2500), some (.ref 0), some (.ref 1000), some (.ref 2000), some (.int x4), none, none, none]) (Le_s (Le_s (Le_s (Le_s (Le_s (Le_n (Le_n (Le_n (Le_0))))))))) (X_l_law_964 hd hk23 _ _ _ _ _ _ _ _ hF) (Nat.le_refl _) (by omega)
  · rw [if_neg hc] at hF
    refine Ex_go 1 (pc' := 947) (L' := [some (.ref 2500), some (.ref 0), some (.ref 1000), some (.ref 2000), some (.int x4), some (.int r2), some (.long r7), none]) (st' := [.int (0 : Int32)]) (σ' := (S4, M9, O5)) (rfl) ?_
    cases hF
    exact Ex_fin rfl
def F_l_law_1031 (nL : Nat) (xs : Nat → Int32) (k23 : Int32 → Sto → Sto → Sto → Option (Int32 × Sto × Sto × Sto)) (x4 : Int32) (S : Sto) (M : Sto) (O : Sto) : Option (Int32 × Sto × Sto × Sto) := F_l_law_2537 nL xs k23 x4 S M O
set_option maxRecDepth 100000 in
theorem X_l_law_1031 {nL : Nat} {xs : Nat → Int32} {d : Nat} (hd : 98 ≤ d) {K : Nat} {k23 : Int32 → Sto → Sto → Sto → Option (Int32 × Sto × Sto × Sto)} (hk23 : ∀ (x4 : Int32) (S : Sto) (M : Sto) (O : Sto) (r : Int32) (S' : Sto) (M' : Sto) (O' : Sto), k23 x4 S M O = some (r, S', M', O') → EX nL xs K MI_281 d 23 [some (.ref 2500), some (.ref 0), some (.ref 1000), some (.ref 2000), some (.int x4), none, none, none] [] (S, M, O) (.inl (some (.int r))) (S', M', O')) : ∀ (x4 : Int32) (S : Sto) (M : Sto) (O : Sto) (r : Int32) (S' : Sto) (M' : Sto) (O' : Sto), F_l_law_1031 nL xs k23 x4 S M O = some (r, S', M', O') → EX nL xs K MI_281 d 1031 [some (.ref 2500), some (.ref 0), some (.ref 1000), some (.ref 2000), some (.int x4), none, none, none] [] (S, M, O) (.inl (some (.int r))) (S', M', O') := by
  intro x4 S M O r S' M' O' hF
  unfold F_l_law_1031 at hF
  refine Ex_go 1 (pc' := 2537) (L' := [some (.ref 2500), some (.ref 0), some (.ref 1000), some (.ref 2000), some (.int x4), none, none, none]) (st' := []) (σ' := (S, M, O)) (rfl) ?_
  exact Ex_mono (L := [some (.ref 2500), some (.ref 0), some (.ref 1000), some (.ref 2000), some (.int x4), none, none, none]) (Le_s (Le_s (Le_s (Le_s (Le_s (Le_n (Le_n (Le_n (Le_0))))))))) (X_l_law_2537 hd hk23 _ _ _ _ _ _ _ _ hF) (Nat.le_refl _) (by omega)
def F_l_law_967 (nL : Nat) (xs : Nat → Int32) (k23 : Int32 → Sto → Sto → Sto → Option (Int32 × Sto × Sto × Sto)) (x4 : Int32) (S : Sto) (M : Sto) (O : Sto) : Option (Int32 × Sto × Sto × Sto) := ck (ib (x4 + (1 : Int32)) nL) (ck (ib (x4 + (2 : Int32)) nL) (b3 (F_l_just (xs (Int32.toNatClampNeg (x4 + (1 : Int32)))) (xs (Int32.toNatClampNeg (x4 + (2 : Int32)))) S O) (fun r3 S5 O6 => ck (ib (x4 + (1 : Int32)) nL) (ck (ib (x4 + (2 : Int32)) nL) (b2 (F_m_just (xs (Int32.toNatClampNeg (x4 + (1 : Int32)))) (xs (Int32.toNatClampNeg (x4 + (2 : Int32)))) M) (fun r9 M11 => b1 (F_m_thrown M11) (fun r12 => if r12 = r3 then if r3 = 0 then if (al O6 2000 (Int32.toNatClampNeg (0 : Int32))) = r9 then F_l_law_1031 nL xs k23 x4 S5 M11 O6 else some ((0 : Int32), S5, M11, O6) else F_l_law_1031 nL xs k23 x4 S5 M11 O6 else some ((0 : Int32), S5, M11, O6))))))))
set_option maxRecDepth 100000 in
theorem X_l_law_967 {nL : Nat} {xs : Nat → Int32} {d : Nat} (hd : 98 ≤ d) {K : Nat} {k23 : Int32 → Sto → Sto → Sto → Option (Int32 × Sto × Sto × Sto)} (hk23 : ∀ (x4 : Int32) (S : Sto) (M : Sto) (O : Sto) (r : Int32) (S' : Sto) (M' : Sto) (O' : Sto), k23 x4 S M O = some (r, S', M', O') → EX nL xs K MI_281 d 23 [some (.ref 2500), some (.ref 0), some (.ref 1000), some (.ref 2000), some (.int x4), none, none, none] [] (S, M, O) (.inl (some (.int r))) (S', M', O')) : ∀ (x4 : Int32) (S : Sto) (M : Sto) (O : Sto) (r : Int32) (S' : Sto) (M' : Sto) (O' : Sto), F_l_law_967 nL xs k23 x4 S M O = some (r, S', M', O') → EX nL xs (K + 1) MI_281 d 967 [some (.ref 2500), some (.ref 0), some (.ref 1000), some (.ref 2000), some (.int x4), none, none, none] [] (S, M, O) (.inl (some (.int r))) (S', M', O') := by
  intro x4 S M O r S' M' O' hF
  unfold F_l_law_967 at hF
  refine Ex_go 5 (pc' := 973) (L' := [some (.ref 2500), some (.ref 0), some (.ref 1000), some (.ref 2000), some (.int x4), none, none, none]) (st' := [.int (x4 + (1 : Int32)), .ref 2500, .ref 0]) (σ' := (S, M, O)) (rfl) ?_
  obtain ⟨hc1, hF⟩ := ck_i hF
  refine Ex_chk (b := ib (x4 + (1 : Int32)) nL) (pc' := 974) (L' := [some (.ref 2500), some (.ref 0), some (.ref 1000), some (.ref 2000), some (.int x4), none, none, none]) (st' := [.int (xs (Int32.toNatClampNeg (x4 + (1 : Int32)))), .ref 0]) (σ' := (S, M, O)) rfl hc1 ?_
  refine Ex_go 4 (pc' := 979) (L' := [some (.ref 2500), some (.ref 0), some (.ref 1000), some (.ref 2000), some (.int x4), none, none, none]) (st' := [.int (x4 + (2 : Int32)), .ref 2500, .int (xs (Int32.toNatClampNeg (x4 + (1 : Int32)))), .ref 0]) (σ' := (S, M, O)) (rfl) ?_
  obtain ⟨hc2, hF⟩ := ck_i hF
  refine Ex_chk (b := ib (x4 + (2 : Int32)) nL) (pc' := 980) (L' := [some (.ref 2500), some (.ref 0), some (.ref 1000), some (.ref 2000), some (.int x4), none, none, none]) (st' := [.int (xs (Int32.toNatClampNeg (x4 + (2 : Int32)))), .int (xs (Int32.toNatClampNeg (x4 + (1 : Int32)))), .ref 0]) (σ' := (S, M, O)) rfl hc2 ?_
  refine Ex_go 1 (pc' := 981) (L' := [some (.ref 2500), some (.ref 0), some (.ref 1000), some (.ref 2000), some (.int x4), none, none, none]) (st' := [.ref 2000, .int (xs (Int32.toNatClampNeg (x4 + (2 : Int32)))), .int (xs (Int32.toNatClampNeg (x4 + (1 : Int32)))), .ref 0]) (σ' := (S, M, O)) (rfl) ?_
  obtain ⟨r3, S5, O6, hx4, hF⟩ := b3_i hF
  refine Ex_callK (K1 := 1) (K2 := K) (kind := 4) (y := 155) (as := [.ref 0, .int (xs (Int32.toNatClampNeg (x4 + (1 : Int32)))), .int (xs (Int32.toNatClampNeg (x4 + (2 : Int32)))), .ref 2000]) (rest := []) (L0 := [some (.ref 0), some (.int (xs (Int32.toNatClampNeg (x4 + (1 : Int32))))), some (.int (xs (Int32.toNatClampNeg (x4 + (2 : Int32))))), some (.ref 2000), none]) (d' := 10) (v := some (.int r3)) (σ1 := (S5, M, O6)) rfl rfl mt_155 rfl rfl (by omega) (X_l_just (Nat.le_refl _) _ _ _ _ _ _ _ hx4) (Ex_st (st2 := [.int r3]) rfl ?_) (by omega)
  refine Ex_go 6 (pc' := 992) (L' := [some (.ref 2500), some (.ref 0), some (.ref 1000), some (.ref 2000), some (.int x4), some (.int r3), none, none]) (st' := [.int (x4 + (1 : Int32)), .ref 2500, .ref 1000]) (σ' := (S5, M, O6)) (rfl) ?_
  obtain ⟨hc7, hF⟩ := ck_i hF
  refine Ex_chk (b := ib (x4 + (1 : Int32)) nL) (pc' := 993) (L' := [some (.ref 2500), some (.ref 0), some (.ref 1000), some (.ref 2000), some (.int x4), some (.int r3), none, none]) (st' := [.int (xs (Int32.toNatClampNeg (x4 + (1 : Int32)))), .ref 1000]) (σ' := (S5, M, O6)) rfl hc7 ?_
  refine Ex_go 4 (pc' := 998) (L' := [some (.ref 2500), some (.ref 0), some (.ref 1000), some (.ref 2000), some (.int x4), some (.int r3), none, none]) (st' := [.int (x4 + (2 : Int32)), .ref 2500, .int (xs (Int32.toNatClampNeg (x4 + (1 : Int32)))), .ref 1000]) (σ' := (S5, M, O6)) (rfl) ?_
  obtain ⟨hc8, hF⟩ := ck_i hF
  refine Ex_chk (b := ib (x4 + (2 : Int32)) nL) (pc' := 999) (L' := [some (.ref 2500), some (.ref 0), some (.ref 1000), some (.ref 2000), some (.int x4), some (.int r3), none, none]) (st' := [.int (xs (Int32.toNatClampNeg (x4 + (2 : Int32)))), .int (xs (Int32.toNatClampNeg (x4 + (1 : Int32)))), .ref 1000]) (σ' := (S5, M, O6)) rfl hc8 ?_
  obtain ⟨r9, M11, hx10, hF⟩ := b2_i hF
  refine Ex_callK (K1 := 0) (K2 := K) (kind := 2) (y := 156) (as := [.ref 1000, .int (xs (Int32.toNatClampNeg (x4 + (1 : Int32)))), .int (xs (Int32.toNatClampNeg (x4 + (2 : Int32))))]) (rest := []) (L0 := [some (.ref 1000), some (.int (xs (Int32.toNatClampNeg (x4 + (1 : Int32))))), some (.int (xs (Int32.toNatClampNeg (x4 + (2 : Int32)))))]) (d' := 10) (v := some (.long r9)) (σ1 := (S5, M11, O6)) rfl rfl mt_156 rfl rfl (by omega) (X_m_just (Nat.le_refl _) _ _ _ _ _ hx10) (Ex_st (st2 := [.long r9]) rfl ?_) (by omega)
  refine Ex_go 2 (pc' := 1005) (L' := [some (.ref 2500), some (.ref 0), some (.ref 1000), some (.ref 2000), some (.int x4), some (.int r3), some (.long r9), none]) (st' := [.ref 1000]) (σ' := (S5, M11, O6)) (rfl) ?_
  obtain ⟨r12, hx13, hF⟩ := b1_i hF
  refine Ex_callK (K1 := 0) (K2 := K) (kind := 2) (y := 77) (as := [.ref 1000]) (rest := []) (L0 := [some (.ref 1000)]) (d' := 1) (v := some (.int r12)) (σ1 := (S5, M11, O6)) rfl rfl mt_77 rfl rfl (by omega) (X_m_thrown (Nat.le_refl _) _ _ hx13) (Ex_st (st2 := [.int r12]) rfl ?_) (by omega)
  refine Ex_go 2 (pc' := if r12 = r3 then 1015 else 1013) (L' := [some (.ref 2500), some (.ref 0), some (.ref 1000), some (.ref 2000), some (.int x4), some (.int r3), some (.long r9), none]) (st' := []) (σ' := (S5, M11, O6)) (rfl) ?_
  refine Ex_br (fun hc => ?_) (fun hc => ?_)
  · rw [if_pos hc] at hF
    refine Ex_go 2 (pc' := if ¬ r3 = 0 then 1031 else 1020) (L' := [some (.ref 2500), some (.ref 0), some (.ref 1000), some (.ref 2000), some (.int x4), some (.int r3), some (.long r9), none]) (st' := []) (σ' := (S5, M11, O6)) (rfl) ?_
    refine Ex_brN (fun hc => ?_) (fun hc => ?_)
    · rw [if_pos hc] at hF
      refine Ex_go 2 (pc' := 1022) (L' := [some (.ref 2500), some (.ref 0), some (.ref 1000), some (.ref 2000), some (.int x4), some (.int r3), some (.long r9), none]) (st' := [.int (0 : Int32), .ref 2000]) (σ' := (S5, M11, O6)) (rfl) ?_
      refine Ex_chk (b := ib (0 : Int32) 1) (pc' := 1023) (L' := [some (.ref 2500), some (.ref 0), some (.ref 1000), some (.ref 2000), some (.int x4), some (.int r3), some (.long r9), none]) (st' := [.long (al O6 2000 (Int32.toNatClampNeg (0 : Int32)))]) (σ' := (S5, M11, O6)) rfl (by decide) ?_
      refine Ex_go 3 (pc' := if (lg_cmp (al O6 2000 (Int32.toNatClampNeg (0 : Int32))) r9) = 0 then 1031 else 1029) (L' := [some (.ref 2500), some (.ref 0), some (.ref 1000), some (.ref 2000), some (.int x4), some (.int r3), some (.long r9), none]) (st' := []) (σ' := (S5, M11, O6)) (rfl) ?_
      refine Ex_brI lc_eq (fun hc => ?_) (fun hc => ?_)
      · rw [if_pos hc] at hF
        exact Ex_mono (L := [some (.ref 2500), some (.ref 0), some (.ref 1000), some (.ref 2000), some (.int x4), none, none, none]) (Le_s (Le_s (Le_s (Le_s (Le_s (Le_n (Le_n (Le_n (Le_0))))))))) (X_l_law_1031 hd hk23 _ _ _ _ _ _ _ _ hF) (Nat.le_refl _) (by omega)
      · rw [if_neg hc] at hF
        refine Ex_go 1 (pc' := 1030) (L' := [some (.ref 2500), some (.ref 0), some (.ref 1000), some (.ref 2000), some (.int x4), some (.int r3), some (.long r9), none]) (st' := [.int (0 : Int32)]) (σ' := (S5, M11, O6)) (rfl) ?_
        cases hF
        exact Ex_fin rfl
    · rw [if_neg hc] at hF
      exact Ex_mono (L := [some (.ref 2500), some (.ref 0), some (.ref 1000), some (.ref 2000), some (.int x4), none, none, none]) (Le_s (Le_s (Le_s (Le_s (Le_s (Le_n (Le_n (Le_n (Le_0))))))))) (X_l_law_1031 hd hk23 _ _ _ _ _ _ _ _ hF) (Nat.le_refl _) (by omega)
  · rw [if_neg hc] at hF
    refine Ex_go 1 (pc' := 1014) (L' := [some (.ref 2500), some (.ref 0), some (.ref 1000), some (.ref 2000), some (.int x4), some (.int r3), some (.long r9), none]) (st' := [.int (0 : Int32)]) (σ' := (S5, M11, O6)) (rfl) ?_
    cases hF
    exact Ex_fin rfl
def F_l_law_1034 (nL : Nat) (xs : Nat → Int32) (k23 : Int32 → Sto → Sto → Sto → Option (Int32 × Sto × Sto × Sto)) (x4 : Int32) (S : Sto) (M : Sto) (O : Sto) : Option (Int32 × Sto × Sto × Sto) := b2 (F_w_haul S) (fun r1 S3 => b2 (F_m_haul M) (fun r4 M6 => if r1 = r4 then F_l_law_2537 nL xs k23 x4 S3 M6 O else some ((0 : Int32), S3, M6, O)))
set_option maxRecDepth 100000 in
theorem X_l_law_1034 {nL : Nat} {xs : Nat → Int32} {d : Nat} (hd : 98 ≤ d) {K : Nat} {k23 : Int32 → Sto → Sto → Sto → Option (Int32 × Sto × Sto × Sto)} (hk23 : ∀ (x4 : Int32) (S : Sto) (M : Sto) (O : Sto) (r : Int32) (S' : Sto) (M' : Sto) (O' : Sto), k23 x4 S M O = some (r, S', M', O') → EX nL xs K MI_281 d 23 [some (.ref 2500), some (.ref 0), some (.ref 1000), some (.ref 2000), some (.int x4), none, none, none] [] (S, M, O) (.inl (some (.int r))) (S', M', O')) : ∀ (x4 : Int32) (S : Sto) (M : Sto) (O : Sto) (r : Int32) (S' : Sto) (M' : Sto) (O' : Sto), F_l_law_1034 nL xs k23 x4 S M O = some (r, S', M', O') → EX nL xs K MI_281 d 1034 [some (.ref 2500), some (.ref 0), some (.ref 1000), some (.ref 2000), some (.int x4), none, none, none] [] (S, M, O) (.inl (some (.int r))) (S', M', O') := by
  intro x4 S M O r S' M' O' hF
  unfold F_l_law_1034 at hF
  refine Ex_go 1 (pc' := 1035) (L' := [some (.ref 2500), some (.ref 0), some (.ref 1000), some (.ref 2000), some (.int x4), none, none, none]) (st' := [.ref 0]) (σ' := (S, M, O)) (rfl) ?_
  obtain ⟨r1, S3, hx2, hF⟩ := b2_i hF
  refine Ex_callK (K1 := 0) (K2 := K) (kind := 2) (y := 157) (as := [.ref 0]) (rest := []) (L0 := [some (.ref 0)]) (d' := 9) (v := some (.long r1)) (σ1 := (S3, M, O)) rfl rfl mt_157 rfl rfl (by omega) (X_w_haul (Nat.le_refl _) _ _ _ hx2) (Ex_st (st2 := [.long r1]) rfl ?_) (by omega)
  refine Ex_go 1 (pc' := 1039) (L' := [some (.ref 2500), some (.ref 0), some (.ref 1000), some (.ref 2000), some (.int x4), none, none, none]) (st' := [.ref 1000, .long r1]) (σ' := (S3, M, O)) (rfl) ?_
  obtain ⟨r4, M6, hx5, hF⟩ := b2_i hF
  refine Ex_callK (K1 := 0) (K2 := K) (kind := 2) (y := 158) (as := [.ref 1000]) (rest := [.long r1]) (L0 := [some (.ref 1000)]) (d' := 11) (v := some (.long r4)) (σ1 := (S3, M6, O)) rfl rfl mt_158 rfl rfl (by omega) (X_m_haul (Nat.le_refl _) _ _ _ hx5) (Ex_st (st2 := [.long r4, .long r1]) rfl ?_) (by omega)
  refine Ex_go 2 (pc' := if (lg_cmp r1 r4) = 0 then 2537 else 1046) (L' := [some (.ref 2500), some (.ref 0), some (.ref 1000), some (.ref 2000), some (.int x4), none, none, none]) (st' := []) (σ' := (S3, M6, O)) (rfl) ?_
  refine Ex_brI lc_eq (fun hc => ?_) (fun hc => ?_)
  · rw [if_pos hc] at hF
    exact Ex_mono (L := [some (.ref 2500), some (.ref 0), some (.ref 1000), some (.ref 2000), some (.int x4), none, none, none]) (Le_s (Le_s (Le_s (Le_s (Le_s (Le_n (Le_n (Le_n (Le_0))))))))) (X_l_law_2537 hd hk23 _ _ _ _ _ _ _ _ hF) (Nat.le_refl _) (by omega)
  · rw [if_neg hc] at hF
    refine Ex_go 1 (pc' := 1047) (L' := [some (.ref 2500), some (.ref 0), some (.ref 1000), some (.ref 2000), some (.int x4), none, none, none]) (st' := [.int (0 : Int32)]) (σ' := (S3, M6, O)) (rfl) ?_
    cases hF
    exact Ex_fin rfl
def F_l_law_1144 (nL : Nat) (xs : Nat → Int32) (k23 : Int32 → Sto → Sto → Sto → Option (Int32 × Sto × Sto × Sto)) (x4 : Int32) (S : Sto) (M : Sto) (O : Sto) : Option (Int32 × Sto × Sto × Sto) := F_l_law_2537 nL xs k23 x4 S M O
set_option maxRecDepth 100000 in
theorem X_l_law_1144 {nL : Nat} {xs : Nat → Int32} {d : Nat} (hd : 98 ≤ d) {K : Nat} {k23 : Int32 → Sto → Sto → Sto → Option (Int32 × Sto × Sto × Sto)} (hk23 : ∀ (x4 : Int32) (S : Sto) (M : Sto) (O : Sto) (r : Int32) (S' : Sto) (M' : Sto) (O' : Sto), k23 x4 S M O = some (r, S', M', O') → EX nL xs K MI_281 d 23 [some (.ref 2500), some (.ref 0), some (.ref 1000), some (.ref 2000), some (.int x4), none, none, none] [] (S, M, O) (.inl (some (.int r))) (S', M', O')) : ∀ (x4 : Int32) (S : Sto) (M : Sto) (O : Sto) (r : Int32) (S' : Sto) (M' : Sto) (O' : Sto), F_l_law_1144 nL xs k23 x4 S M O = some (r, S', M', O') → EX nL xs K MI_281 d 1144 [some (.ref 2500), some (.ref 0), some (.ref 1000), some (.ref 2000), some (.int x4), none, none, none] [] (S, M, O) (.inl (some (.int r))) (S', M', O') := by
  intro x4 S M O r S' M' O' hF
  unfold F_l_law_1144 at hF
  refine Ex_go 1 (pc' := 2537) (L' := [some (.ref 2500), some (.ref 0), some (.ref 1000), some (.ref 2000), some (.int x4), none, none, none]) (st' := []) (σ' := (S, M, O)) (rfl) ?_
  exact Ex_mono (L := [some (.ref 2500), some (.ref 0), some (.ref 1000), some (.ref 2000), some (.int x4), none, none, none]) (Le_s (Le_s (Le_s (Le_s (Le_s (Le_n (Le_n (Le_n (Le_0))))))))) (X_l_law_2537 hd hk23 _ _ _ _ _ _ _ _ hF) (Nat.le_refl _) (by omega)
def F_l_law_1048 (nL : Nat) (xs : Nat → Int32) (k23 : Int32 → Sto → Sto → Sto → Option (Int32 × Sto × Sto × Sto)) (x4 : Int32) (S : Sto) (M : Sto) (O : Sto) : Option (Int32 × Sto × Sto × Sto) := ck (ib (x4 + (1 : Int32)) nL) (ck (ib (x4 + (2 : Int32)) nL) (ck (ib (x4 + (3 : Int32)) nL) (b2 (F_l_next (xs (Int32.toNatClampNeg (x4 + (1 : Int32)))) (((Int32.toInt64 (xs (Int32.toNatClampNeg (x4 + (2 : Int32))))) <<< (Int32.toInt64 (32 : Int32) &&& 63)) ||| ((Int32.toInt64 (xs (Int32.toNatClampNeg (x4 + (3 : Int32))))) &&& (4294967295 : Int64))) S O) (fun r4 O6 => ck (ib (x4 + (1 : Int32)) nL) (ck (ib (x4 + (2 : Int32)) nL) (ck (ib (x4 + (3 : Int32)) nL) (b2 (F_m_next (xs (Int32.toNatClampNeg (x4 + (1 : Int32)))) (((Int32.toInt64 (xs (Int32.toNatClampNeg (x4 + (2 : Int32))))) <<< (Int32.toInt64 (32 : Int32) &&& 63)) ||| ((Int32.toInt64 (xs (Int32.toNatClampNeg (x4 + (3 : Int32))))) &&& (4294967295 : Int64))) M) (fun r10 M12 => b1 (F_m_thrown M12) (fun r13 => if r13 = r4 then if r4 = 0 then if (al O6 2000 (Int32.toNatClampNeg (0 : Int32))) = r10 then F_l_law_1144 nL xs k23 x4 S M12 O6 else some ((0 : Int32), S, M12, O6) else F_l_law_1144 nL xs k23 x4 S M12 O6 else some ((0 : Int32), S, M12, O6))))))))))
set_option maxRecDepth 100000 in
theorem X_l_law_1048 {nL : Nat} {xs : Nat → Int32} {d : Nat} (hd : 98 ≤ d) {K : Nat} {k23 : Int32 → Sto → Sto → Sto → Option (Int32 × Sto × Sto × Sto)} (hk23 : ∀ (x4 : Int32) (S : Sto) (M : Sto) (O : Sto) (r : Int32) (S' : Sto) (M' : Sto) (O' : Sto), k23 x4 S M O = some (r, S', M', O') → EX nL xs K MI_281 d 23 [some (.ref 2500), some (.ref 0), some (.ref 1000), some (.ref 2000), some (.int x4), none, none, none] [] (S, M, O) (.inl (some (.int r))) (S', M', O')) : ∀ (x4 : Int32) (S : Sto) (M : Sto) (O : Sto) (r : Int32) (S' : Sto) (M' : Sto) (O' : Sto), F_l_law_1048 nL xs k23 x4 S M O = some (r, S', M', O') → EX nL xs (K + 1) MI_281 d 1048 [some (.ref 2500), some (.ref 0), some (.ref 1000), some (.ref 2000), some (.int x4), none, none, none] [] (S, M, O) (.inl (some (.int r))) (S', M', O') := by
  intro x4 S M O r S' M' O' hF
  unfold F_l_law_1048 at hF
  refine Ex_go 5 (pc' := 1054) (L' := [some (.ref 2500), some (.ref 0), some (.ref 1000), some (.ref 2000), some (.int x4), none, none, none]) (st' := [.int (x4 + (1 : Int32)), .ref 2500, .ref 0]) (σ' := (S, M, O)) (rfl) ?_
  obtain ⟨hc1, hF⟩ := ck_i hF
  refine Ex_chk (b := ib (x4 + (1 : Int32)) nL) (pc' := 1055) (L' := [some (.ref 2500), some (.ref 0), some (.ref 1000), some (.ref 2000), some (.int x4), none, none, none]) (st' := [.int (xs (Int32.toNatClampNeg (x4 + (1 : Int32)))), .ref 0]) (σ' := (S, M, O)) rfl hc1 ?_
  refine Ex_go 4 (pc' := 1060) (L' := [some (.ref 2500), some (.ref 0), some (.ref 1000), some (.ref 2000), some (.int x4), none, none, none]) (st' := [.int (x4 + (2 : Int32)), .ref 2500, .int (xs (Int32.toNatClampNeg (x4 + (1 : Int32)))), .ref 0]) (σ' := (S, M, O)) (rfl) ?_
  obtain ⟨hc2, hF⟩ := ck_i hF
  refine Ex_chk (b := ib (x4 + (2 : Int32)) nL) (pc' := 1061) (L' := [some (.ref 2500), some (.ref 0), some (.ref 1000), some (.ref 2000), some (.int x4), none, none, none]) (st' := [.int (xs (Int32.toNatClampNeg (x4 + (2 : Int32)))), .int (xs (Int32.toNatClampNeg (x4 + (1 : Int32)))), .ref 0]) (σ' := (S, M, O)) rfl hc2 ?_
  refine Ex_go 7 (pc' := 1070) (L' := [some (.ref 2500), some (.ref 0), some (.ref 1000), some (.ref 2000), some (.int x4), none, none, none]) (st' := [.int (x4 + (3 : Int32)), .ref 2500, .long ((Int32.toInt64 (xs (Int32.toNatClampNeg (x4 + (2 : Int32))))) <<< (Int32.toInt64 (32 : Int32) &&& 63)), .int (xs (Int32.toNatClampNeg (x4 + (1 : Int32)))), .ref 0]) (σ' := (S, M, O)) (rfl) ?_
  obtain ⟨hc3, hF⟩ := ck_i hF
  refine Ex_chk (b := ib (x4 + (3 : Int32)) nL) (pc' := 1071) (L' := [some (.ref 2500), some (.ref 0), some (.ref 1000), some (.ref 2000), some (.int x4), none, none, none]) (st' := [.int (xs (Int32.toNatClampNeg (x4 + (3 : Int32)))), .long ((Int32.toInt64 (xs (Int32.toNatClampNeg (x4 + (2 : Int32))))) <<< (Int32.toInt64 (32 : Int32) &&& 63)), .int (xs (Int32.toNatClampNeg (x4 + (1 : Int32)))), .ref 0]) (σ' := (S, M, O)) rfl hc3 ?_
  refine Ex_go 5 (pc' := 1078) (L' := [some (.ref 2500), some (.ref 0), some (.ref 1000), some (.ref 2000), some (.int x4), none, none, none]) (st' := [.ref 2000, .long (((Int32.toInt64 (xs (Int32.toNatClampNeg (x4 + (2 : Int32))))) <<< (Int32.toInt64 (32 : Int32) &&& 63)) ||| ((Int32.toInt64 (xs (Int32.toNatClampNeg (x4 + (3 : Int32))))) &&& (4294967295 : Int64))), .int (xs (Int32.toNatClampNeg (x4 + (1 : Int32)))), .ref 0]) (σ' := (S, M, O)) (rfl) ?_
  obtain ⟨r4, O6, hx5, hF⟩ := b2_i hF
  refine Ex_callK (K1 := 1) (K2 := K) (kind := 4) (y := 161) (as := [.ref 0, .int (xs (Int32.toNatClampNeg (x4 + (1 : Int32)))), .long (((Int32.toInt64 (xs (Int32.toNatClampNeg (x4 + (2 : Int32))))) <<< (Int32.toInt64 (32 : Int32) &&& 63)) ||| ((Int32.toInt64 (xs (Int32.toNatClampNeg (x4 + (3 : Int32))))) &&& (4294967295 : Int64))), .ref 2000]) (rest := []) (L0 := [some (.ref 0), some (.int (xs (Int32.toNatClampNeg (x4 + (1 : Int32))))), some (.long (((Int32.toInt64 (xs (Int32.toNatClampNeg (x4 + (2 : Int32))))) <<< (Int32.toInt64 (32 : Int32) &&& 63)) ||| ((Int32.toInt64 (xs (Int32.toNatClampNeg (x4 + (3 : Int32))))) &&& (4294967295 : Int64)))), none, some (.ref 2000), none]) (d' := 10) (v := some (.int r4)) (σ1 := (S, M, O6)) rfl rfl mt_161 rfl rfl (by omega) (X_l_next (Nat.le_refl _) _ _ _ _ _ _ hx5) (Ex_st (st2 := [.int r4]) rfl ?_) (by omega)
  refine Ex_go 6 (pc' := 1089) (L' := [some (.ref 2500), some (.ref 0), some (.ref 1000), some (.ref 2000), some (.int x4), some (.int r4), none, none]) (st' := [.int (x4 + (1 : Int32)), .ref 2500, .ref 1000]) (σ' := (S, M, O6)) (rfl) ?_
  obtain ⟨hc7, hF⟩ := ck_i hF
  refine Ex_chk (b := ib (x4 + (1 : Int32)) nL) (pc' := 1090) (L' := [some (.ref 2500), some (.ref 0), some (.ref 1000), some (.ref 2000), some (.int x4), some (.int r4), none, none]) (st' := [.int (xs (Int32.toNatClampNeg (x4 + (1 : Int32)))), .ref 1000]) (σ' := (S, M, O6)) rfl hc7 ?_
  refine Ex_go 4 (pc' := 1095) (L' := [some (.ref 2500), some (.ref 0), some (.ref 1000), some (.ref 2000), some (.int x4), some (.int r4), none, none]) (st' := [.int (x4 + (2 : Int32)), .ref 2500, .int (xs (Int32.toNatClampNeg (x4 + (1 : Int32)))), .ref 1000]) (σ' := (S, M, O6)) (rfl) ?_
  obtain ⟨hc8, hF⟩ := ck_i hF
  refine Ex_chk (b := ib (x4 + (2 : Int32)) nL) (pc' := 1096) (L' := [some (.ref 2500), some (.ref 0), some (.ref 1000), some (.ref 2000), some (.int x4), some (.int r4), none, none]) (st' := [.int (xs (Int32.toNatClampNeg (x4 + (2 : Int32)))), .int (xs (Int32.toNatClampNeg (x4 + (1 : Int32)))), .ref 1000]) (σ' := (S, M, O6)) rfl hc8 ?_
  refine Ex_go 7 (pc' := 1105) (L' := [some (.ref 2500), some (.ref 0), some (.ref 1000), some (.ref 2000), some (.int x4), some (.int r4), none, none]) (st' := [.int (x4 + (3 : Int32)), .ref 2500, .long ((Int32.toInt64 (xs (Int32.toNatClampNeg (x4 + (2 : Int32))))) <<< (Int32.toInt64 (32 : Int32) &&& 63)), .int (xs (Int32.toNatClampNeg (x4 + (1 : Int32)))), .ref 1000]) (σ' := (S, M, O6)) (rfl) ?_
  obtain ⟨hc9, hF⟩ := ck_i hF
  refine Ex_chk (b := ib (x4 + (3 : Int32)) nL) (pc' := 1106) (L' := [some (.ref 2500), some (.ref 0), some (.ref 1000), some (.ref 2000), some (.int x4), some (.int r4), none, none]) (st' := [.int (xs (Int32.toNatClampNeg (x4 + (3 : Int32)))), .long ((Int32.toInt64 (xs (Int32.toNatClampNeg (x4 + (2 : Int32))))) <<< (Int32.toInt64 (32 : Int32) &&& 63)), .int (xs (Int32.toNatClampNeg (x4 + (1 : Int32)))), .ref 1000]) (σ' := (S, M, O6)) rfl hc9 ?_
  refine Ex_go 4 (pc' := 1112) (L' := [some (.ref 2500), some (.ref 0), some (.ref 1000), some (.ref 2000), some (.int x4), some (.int r4), none, none]) (st' := [.long (((Int32.toInt64 (xs (Int32.toNatClampNeg (x4 + (2 : Int32))))) <<< (Int32.toInt64 (32 : Int32) &&& 63)) ||| ((Int32.toInt64 (xs (Int32.toNatClampNeg (x4 + (3 : Int32))))) &&& (4294967295 : Int64))), .int (xs (Int32.toNatClampNeg (x4 + (1 : Int32)))), .ref 1000]) (σ' := (S, M, O6)) (rfl) ?_
  obtain ⟨r10, M12, hx11, hF⟩ := b2_i hF
  refine Ex_callK (K1 := 0) (K2 := K) (kind := 2) (y := 162) (as := [.ref 1000, .int (xs (Int32.toNatClampNeg (x4 + (1 : Int32)))), .long (((Int32.toInt64 (xs (Int32.toNatClampNeg (x4 + (2 : Int32))))) <<< (Int32.toInt64 (32 : Int32) &&& 63)) ||| ((Int32.toInt64 (xs (Int32.toNatClampNeg (x4 + (3 : Int32))))) &&& (4294967295 : Int64)))]) (rest := []) (L0 := [some (.ref 1000), some (.int (xs (Int32.toNatClampNeg (x4 + (1 : Int32))))), some (.long (((Int32.toInt64 (xs (Int32.toNatClampNeg (x4 + (2 : Int32))))) <<< (Int32.toInt64 (32 : Int32) &&& 63)) ||| ((Int32.toInt64 (xs (Int32.toNatClampNeg (x4 + (3 : Int32))))) &&& (4294967295 : Int64)))), none]) (d' := 8) (v := some (.long r10)) (σ1 := (S, M12, O6)) rfl rfl mt_162 rfl rfl (by omega) (X_m_next (Nat.le_refl _) _ _ _ _ _ hx11) (Ex_st (st2 := [.long r10]) rfl ?_) (by omega)
  refine Ex_go 2 (pc' := 1118) (L' := [some (.ref 2500), some (.ref 0), some (.ref 1000), some (.ref 2000), some (.int x4), some (.int r4), some (.long r10), none]) (st' := [.ref 1000]) (σ' := (S, M12, O6)) (rfl) ?_
  obtain ⟨r13, hx14, hF⟩ := b1_i hF
  refine Ex_callK (K1 := 0) (K2 := K) (kind := 2) (y := 77) (as := [.ref 1000]) (rest := []) (L0 := [some (.ref 1000)]) (d' := 1) (v := some (.int r13)) (σ1 := (S, M12, O6)) rfl rfl mt_77 rfl rfl (by omega) (X_m_thrown (Nat.le_refl _) _ _ hx14) (Ex_st (st2 := [.int r13]) rfl ?_) (by omega)
  refine Ex_go 2 (pc' := if r13 = r4 then 1128 else 1126) (L' := [some (.ref 2500), some (.ref 0), some (.ref 1000), some (.ref 2000), some (.int x4), some (.int r4), some (.long r10), none]) (st' := []) (σ' := (S, M12, O6)) (rfl) ?_
  refine Ex_br (fun hc => ?_) (fun hc => ?_)
  · rw [if_pos hc] at hF
    refine Ex_go 2 (pc' := if ¬ r4 = 0 then 1144 else 1133) (L' := [some (.ref 2500), some (.ref 0), some (.ref 1000), some (.ref 2000), some (.int x4), some (.int r4), some (.long r10), none]) (st' := []) (σ' := (S, M12, O6)) (rfl) ?_
    refine Ex_brN (fun hc => ?_) (fun hc => ?_)
    · rw [if_pos hc] at hF
      refine Ex_go 2 (pc' := 1135) (L' := [some (.ref 2500), some (.ref 0), some (.ref 1000), some (.ref 2000), some (.int x4), some (.int r4), some (.long r10), none]) (st' := [.int (0 : Int32), .ref 2000]) (σ' := (S, M12, O6)) (rfl) ?_
      refine Ex_chk (b := ib (0 : Int32) 1) (pc' := 1136) (L' := [some (.ref 2500), some (.ref 0), some (.ref 1000), some (.ref 2000), some (.int x4), some (.int r4), some (.long r10), none]) (st' := [.long (al O6 2000 (Int32.toNatClampNeg (0 : Int32)))]) (σ' := (S, M12, O6)) rfl (by decide) ?_
      refine Ex_go 3 (pc' := if (lg_cmp (al O6 2000 (Int32.toNatClampNeg (0 : Int32))) r10) = 0 then 1144 else 1142) (L' := [some (.ref 2500), some (.ref 0), some (.ref 1000), some (.ref 2000), some (.int x4), some (.int r4), some (.long r10), none]) (st' := []) (σ' := (S, M12, O6)) (rfl) ?_
      refine Ex_brI lc_eq (fun hc => ?_) (fun hc => ?_)
      · rw [if_pos hc] at hF
        exact Ex_mono (L := [some (.ref 2500), some (.ref 0), some (.ref 1000), some (.ref 2000), some (.int x4), none, none, none]) (Le_s (Le_s (Le_s (Le_s (Le_s (Le_n (Le_n (Le_n (Le_0))))))))) (X_l_law_1144 hd hk23 _ _ _ _ _ _ _ _ hF) (Nat.le_refl _) (by omega)
      · rw [if_neg hc] at hF
        refine Ex_go 1 (pc' := 1143) (L' := [some (.ref 2500), some (.ref 0), some (.ref 1000), some (.ref 2000), some (.int x4), some (.int r4), some (.long r10), none]) (st' := [.int (0 : Int32)]) (σ' := (S, M12, O6)) (rfl) ?_
        cases hF
        exact Ex_fin rfl
    · rw [if_neg hc] at hF
      exact Ex_mono (L := [some (.ref 2500), some (.ref 0), some (.ref 1000), some (.ref 2000), some (.int x4), none, none, none]) (Le_s (Le_s (Le_s (Le_s (Le_s (Le_n (Le_n (Le_n (Le_0))))))))) (X_l_law_1144 hd hk23 _ _ _ _ _ _ _ _ hF) (Nat.le_refl _) (by omega)
  · rw [if_neg hc] at hF
    refine Ex_go 1 (pc' := 1127) (L' := [some (.ref 2500), some (.ref 0), some (.ref 1000), some (.ref 2000), some (.int x4), some (.int r4), some (.long r10), none]) (st' := [.int (0 : Int32)]) (σ' := (S, M12, O6)) (rfl) ?_
    cases hF
    exact Ex_fin rfl
def F_l_law_1243 (nL : Nat) (xs : Nat → Int32) (k23 : Int32 → Sto → Sto → Sto → Option (Int32 × Sto × Sto × Sto)) (x4 : Int32) (S : Sto) (M : Sto) (O : Sto) : Option (Int32 × Sto × Sto × Sto) := F_l_law_2537 nL xs k23 x4 S M O
set_option maxRecDepth 100000 in
theorem X_l_law_1243 {nL : Nat} {xs : Nat → Int32} {d : Nat} (hd : 98 ≤ d) {K : Nat} {k23 : Int32 → Sto → Sto → Sto → Option (Int32 × Sto × Sto × Sto)} (hk23 : ∀ (x4 : Int32) (S : Sto) (M : Sto) (O : Sto) (r : Int32) (S' : Sto) (M' : Sto) (O' : Sto), k23 x4 S M O = some (r, S', M', O') → EX nL xs K MI_281 d 23 [some (.ref 2500), some (.ref 0), some (.ref 1000), some (.ref 2000), some (.int x4), none, none, none] [] (S, M, O) (.inl (some (.int r))) (S', M', O')) : ∀ (x4 : Int32) (S : Sto) (M : Sto) (O : Sto) (r : Int32) (S' : Sto) (M' : Sto) (O' : Sto), F_l_law_1243 nL xs k23 x4 S M O = some (r, S', M', O') → EX nL xs K MI_281 d 1243 [some (.ref 2500), some (.ref 0), some (.ref 1000), some (.ref 2000), some (.int x4), none, none, none] [] (S, M, O) (.inl (some (.int r))) (S', M', O') := by
  intro x4 S M O r S' M' O' hF
  unfold F_l_law_1243 at hF
  refine Ex_go 1 (pc' := 2537) (L' := [some (.ref 2500), some (.ref 0), some (.ref 1000), some (.ref 2000), some (.int x4), none, none, none]) (st' := []) (σ' := (S, M, O)) (rfl) ?_
  exact Ex_mono (L := [some (.ref 2500), some (.ref 0), some (.ref 1000), some (.ref 2000), some (.int x4), none, none, none]) (Le_s (Le_s (Le_s (Le_s (Le_s (Le_n (Le_n (Le_n (Le_0))))))))) (X_l_law_2537 hd hk23 _ _ _ _ _ _ _ _ hF) (Nat.le_refl _) (by omega)
def F_l_law_1147 (nL : Nat) (xs : Nat → Int32) (k23 : Int32 → Sto → Sto → Sto → Option (Int32 × Sto × Sto × Sto)) (x4 : Int32) (S : Sto) (M : Sto) (O : Sto) : Option (Int32 × Sto × Sto × Sto) := ck (ib (x4 + (1 : Int32)) nL) (ck (ib (x4 + (2 : Int32)) nL) (ck (ib (x4 + (3 : Int32)) nL) (b2 (F_l_place (xs (Int32.toNatClampNeg (x4 + (1 : Int32)))) (((Int32.toInt64 (xs (Int32.toNatClampNeg (x4 + (2 : Int32))))) <<< (Int32.toInt64 (32 : Int32) &&& 63)) ||| ((Int32.toInt64 (xs (Int32.toNatClampNeg (x4 + (3 : Int32))))) &&& (4294967295 : Int64))) S O) (fun r4 O6 => ck (ib (x4 + (1 : Int32)) nL) (ck (ib (x4 + (2 : Int32)) nL) (ck (ib (x4 + (3 : Int32)) nL) (b2 (F_m_place (xs (Int32.toNatClampNeg (x4 + (1 : Int32)))) (((Int32.toInt64 (xs (Int32.toNatClampNeg (x4 + (2 : Int32))))) <<< (Int32.toInt64 (32 : Int32) &&& 63)) ||| ((Int32.toInt64 (xs (Int32.toNatClampNeg (x4 + (3 : Int32))))) &&& (4294967295 : Int64))) M) (fun r10 M12 => b1 (F_m_thrown M12) (fun r13 => if r13 = r4 then if r4 = 0 then if (al O6 2000 (Int32.toNatClampNeg (0 : Int32))) = r10 then F_l_law_1243 nL xs k23 x4 S M12 O6 else some ((0 : Int32), S, M12, O6) else F_l_law_1243 nL xs k23 x4 S M12 O6 else some ((0 : Int32), S, M12, O6))))))))))
set_option maxRecDepth 100000 in
theorem X_l_law_1147 {nL : Nat} {xs : Nat → Int32} {d : Nat} (hd : 98 ≤ d) {K : Nat} {k23 : Int32 → Sto → Sto → Sto → Option (Int32 × Sto × Sto × Sto)} (hk23 : ∀ (x4 : Int32) (S : Sto) (M : Sto) (O : Sto) (r : Int32) (S' : Sto) (M' : Sto) (O' : Sto), k23 x4 S M O = some (r, S', M', O') → EX nL xs K MI_281 d 23 [some (.ref 2500), some (.ref 0), some (.ref 1000), some (.ref 2000), some (.int x4), none, none, none] [] (S, M, O) (.inl (some (.int r))) (S', M', O')) : ∀ (x4 : Int32) (S : Sto) (M : Sto) (O : Sto) (r : Int32) (S' : Sto) (M' : Sto) (O' : Sto), F_l_law_1147 nL xs k23 x4 S M O = some (r, S', M', O') → EX nL xs (K + 1) MI_281 d 1147 [some (.ref 2500), some (.ref 0), some (.ref 1000), some (.ref 2000), some (.int x4), none, none, none] [] (S, M, O) (.inl (some (.int r))) (S', M', O') := by
  intro x4 S M O r S' M' O' hF
  unfold F_l_law_1147 at hF
  refine Ex_go 5 (pc' := 1153) (L' := [some (.ref 2500), some (.ref 0), some (.ref 1000), some (.ref 2000), some (.int x4), none, none, none]) (st' := [.int (x4 + (1 : Int32)), .ref 2500, .ref 0]) (σ' := (S, M, O)) (rfl) ?_
  obtain ⟨hc1, hF⟩ := ck_i hF
  refine Ex_chk (b := ib (x4 + (1 : Int32)) nL) (pc' := 1154) (L' := [some (.ref 2500), some (.ref 0), some (.ref 1000), some (.ref 2000), some (.int x4), none, none, none]) (st' := [.int (xs (Int32.toNatClampNeg (x4 + (1 : Int32)))), .ref 0]) (σ' := (S, M, O)) rfl hc1 ?_
  refine Ex_go 4 (pc' := 1159) (L' := [some (.ref 2500), some (.ref 0), some (.ref 1000), some (.ref 2000), some (.int x4), none, none, none]) (st' := [.int (x4 + (2 : Int32)), .ref 2500, .int (xs (Int32.toNatClampNeg (x4 + (1 : Int32)))), .ref 0]) (σ' := (S, M, O)) (rfl) ?_
  obtain ⟨hc2, hF⟩ := ck_i hF
  refine Ex_chk (b := ib (x4 + (2 : Int32)) nL) (pc' := 1160) (L' := [some (.ref 2500), some (.ref 0), some (.ref 1000), some (.ref 2000), some (.int x4), none, none, none]) (st' := [.int (xs (Int32.toNatClampNeg (x4 + (2 : Int32)))), .int (xs (Int32.toNatClampNeg (x4 + (1 : Int32)))), .ref 0]) (σ' := (S, M, O)) rfl hc2 ?_
  refine Ex_go 7 (pc' := 1169) (L' := [some (.ref 2500), some (.ref 0), some (.ref 1000), some (.ref 2000), some (.int x4), none, none, none]) (st' := [.int (x4 + (3 : Int32)), .ref 2500, .long ((Int32.toInt64 (xs (Int32.toNatClampNeg (x4 + (2 : Int32))))) <<< (Int32.toInt64 (32 : Int32) &&& 63)), .int (xs (Int32.toNatClampNeg (x4 + (1 : Int32)))), .ref 0]) (σ' := (S, M, O)) (rfl) ?_
  obtain ⟨hc3, hF⟩ := ck_i hF
  refine Ex_chk (b := ib (x4 + (3 : Int32)) nL) (pc' := 1170) (L' := [some (.ref 2500), some (.ref 0), some (.ref 1000), some (.ref 2000), some (.int x4), none, none, none]) (st' := [.int (xs (Int32.toNatClampNeg (x4 + (3 : Int32)))), .long ((Int32.toInt64 (xs (Int32.toNatClampNeg (x4 + (2 : Int32))))) <<< (Int32.toInt64 (32 : Int32) &&& 63)), .int (xs (Int32.toNatClampNeg (x4 + (1 : Int32)))), .ref 0]) (σ' := (S, M, O)) rfl hc3 ?_
  refine Ex_go 5 (pc' := 1177) (L' := [some (.ref 2500), some (.ref 0), some (.ref 1000), some (.ref 2000), some (.int x4), none, none, none]) (st' := [.ref 2000, .long (((Int32.toInt64 (xs (Int32.toNatClampNeg (x4 + (2 : Int32))))) <<< (Int32.toInt64 (32 : Int32) &&& 63)) ||| ((Int32.toInt64 (xs (Int32.toNatClampNeg (x4 + (3 : Int32))))) &&& (4294967295 : Int64))), .int (xs (Int32.toNatClampNeg (x4 + (1 : Int32)))), .ref 0]) (σ' := (S, M, O)) (rfl) ?_
  obtain ⟨r4, O6, hx5, hF⟩ := b2_i hF
  refine Ex_callK (K1 := 1) (K2 := K) (kind := 4) (y := 164) (as := [.ref 0, .int (xs (Int32.toNatClampNeg (x4 + (1 : Int32)))), .long (((Int32.toInt64 (xs (Int32.toNatClampNeg (x4 + (2 : Int32))))) <<< (Int32.toInt64 (32 : Int32) &&& 63)) ||| ((Int32.toInt64 (xs (Int32.toNatClampNeg (x4 + (3 : Int32))))) &&& (4294967295 : Int64))), .ref 2000]) (rest := []) (L0 := [some (.ref 0), some (.int (xs (Int32.toNatClampNeg (x4 + (1 : Int32))))), some (.long (((Int32.toInt64 (xs (Int32.toNatClampNeg (x4 + (2 : Int32))))) <<< (Int32.toInt64 (32 : Int32) &&& 63)) ||| ((Int32.toInt64 (xs (Int32.toNatClampNeg (x4 + (3 : Int32))))) &&& (4294967295 : Int64)))), none, some (.ref 2000), none]) (d' := 10) (v := some (.int r4)) (σ1 := (S, M, O6)) rfl rfl mt_164 rfl rfl (by omega) (X_l_place (Nat.le_refl _) _ _ _ _ _ _ hx5) (Ex_st (st2 := [.int r4]) rfl ?_) (by omega)
  refine Ex_go 6 (pc' := 1188) (L' := [some (.ref 2500), some (.ref 0), some (.ref 1000), some (.ref 2000), some (.int x4), some (.int r4), none, none]) (st' := [.int (x4 + (1 : Int32)), .ref 2500, .ref 1000]) (σ' := (S, M, O6)) (rfl) ?_
  obtain ⟨hc7, hF⟩ := ck_i hF
  refine Ex_chk (b := ib (x4 + (1 : Int32)) nL) (pc' := 1189) (L' := [some (.ref 2500), some (.ref 0), some (.ref 1000), some (.ref 2000), some (.int x4), some (.int r4), none, none]) (st' := [.int (xs (Int32.toNatClampNeg (x4 + (1 : Int32)))), .ref 1000]) (σ' := (S, M, O6)) rfl hc7 ?_
  refine Ex_go 4 (pc' := 1194) (L' := [some (.ref 2500), some (.ref 0), some (.ref 1000), some (.ref 2000), some (.int x4), some (.int r4), none, none]) (st' := [.int (x4 + (2 : Int32)), .ref 2500, .int (xs (Int32.toNatClampNeg (x4 + (1 : Int32)))), .ref 1000]) (σ' := (S, M, O6)) (rfl) ?_
  obtain ⟨hc8, hF⟩ := ck_i hF
  refine Ex_chk (b := ib (x4 + (2 : Int32)) nL) (pc' := 1195) (L' := [some (.ref 2500), some (.ref 0), some (.ref 1000), some (.ref 2000), some (.int x4), some (.int r4), none, none]) (st' := [.int (xs (Int32.toNatClampNeg (x4 + (2 : Int32)))), .int (xs (Int32.toNatClampNeg (x4 + (1 : Int32)))), .ref 1000]) (σ' := (S, M, O6)) rfl hc8 ?_
  refine Ex_go 7 (pc' := 1204) (L' := [some (.ref 2500), some (.ref 0), some (.ref 1000), some (.ref 2000), some (.int x4), some (.int r4), none, none]) (st' := [.int (x4 + (3 : Int32)), .ref 2500, .long ((Int32.toInt64 (xs (Int32.toNatClampNeg (x4 + (2 : Int32))))) <<< (Int32.toInt64 (32 : Int32) &&& 63)), .int (xs (Int32.toNatClampNeg (x4 + (1 : Int32)))), .ref 1000]) (σ' := (S, M, O6)) (rfl) ?_
  obtain ⟨hc9, hF⟩ := ck_i hF
  refine Ex_chk (b := ib (x4 + (3 : Int32)) nL) (pc' := 1205) (L' := [some (.ref 2500), some (.ref 0), some (.ref 1000), some (.ref 2000), some (.int x4), some (.int r4), none, none]) (st' := [.int (xs (Int32.toNatClampNeg (x4 + (3 : Int32)))), .long ((Int32.toInt64 (xs (Int32.toNatClampNeg (x4 + (2 : Int32))))) <<< (Int32.toInt64 (32 : Int32) &&& 63)), .int (xs (Int32.toNatClampNeg (x4 + (1 : Int32)))), .ref 1000]) (σ' := (S, M, O6)) rfl hc9 ?_
  refine Ex_go 4 (pc' := 1211) (L' := [some (.ref 2500), some (.ref 0), some (.ref 1000), some (.ref 2000), some (.int x4), some (.int r4), none, none]) (st' := [.long (((Int32.toInt64 (xs (Int32.toNatClampNeg (x4 + (2 : Int32))))) <<< (Int32.toInt64 (32 : Int32) &&& 63)) ||| ((Int32.toInt64 (xs (Int32.toNatClampNeg (x4 + (3 : Int32))))) &&& (4294967295 : Int64))), .int (xs (Int32.toNatClampNeg (x4 + (1 : Int32)))), .ref 1000]) (σ' := (S, M, O6)) (rfl) ?_
  obtain ⟨r10, M12, hx11, hF⟩ := b2_i hF
  refine Ex_callK (K1 := 0) (K2 := K) (kind := 2) (y := 165) (as := [.ref 1000, .int (xs (Int32.toNatClampNeg (x4 + (1 : Int32)))), .long (((Int32.toInt64 (xs (Int32.toNatClampNeg (x4 + (2 : Int32))))) <<< (Int32.toInt64 (32 : Int32) &&& 63)) ||| ((Int32.toInt64 (xs (Int32.toNatClampNeg (x4 + (3 : Int32))))) &&& (4294967295 : Int64)))]) (rest := []) (L0 := [some (.ref 1000), some (.int (xs (Int32.toNatClampNeg (x4 + (1 : Int32))))), some (.long (((Int32.toInt64 (xs (Int32.toNatClampNeg (x4 + (2 : Int32))))) <<< (Int32.toInt64 (32 : Int32) &&& 63)) ||| ((Int32.toInt64 (xs (Int32.toNatClampNeg (x4 + (3 : Int32))))) &&& (4294967295 : Int64)))), none]) (d' := 8) (v := some (.long r10)) (σ1 := (S, M12, O6)) rfl rfl mt_165 rfl rfl (by omega) (X_m_place (Nat.le_refl _) _ _ _ _ _ hx11) (Ex_st (st2 := [.long r10]) rfl ?_) (by omega)
  refine Ex_go 2 (pc' := 1217) (L' := [some (.ref 2500), some (.ref 0), some (.ref 1000), some (.ref 2000), some (.int x4), some (.int r4), some (.long r10), none]) (st' := [.ref 1000]) (σ' := (S, M12, O6)) (rfl) ?_
  obtain ⟨r13, hx14, hF⟩ := b1_i hF
  refine Ex_callK (K1 := 0) (K2 := K) (kind := 2) (y := 77) (as := [.ref 1000]) (rest := []) (L0 := [some (.ref 1000)]) (d' := 1) (v := some (.int r13)) (σ1 := (S, M12, O6)) rfl rfl mt_77 rfl rfl (by omega) (X_m_thrown (Nat.le_refl _) _ _ hx14) (Ex_st (st2 := [.int r13]) rfl ?_) (by omega)
  refine Ex_go 2 (pc' := if r13 = r4 then 1227 else 1225) (L' := [some (.ref 2500), some (.ref 0), some (.ref 1000), some (.ref 2000), some (.int x4), some (.int r4), some (.long r10), none]) (st' := []) (σ' := (S, M12, O6)) (rfl) ?_
  refine Ex_br (fun hc => ?_) (fun hc => ?_)
  · rw [if_pos hc] at hF
    refine Ex_go 2 (pc' := if ¬ r4 = 0 then 1243 else 1232) (L' := [some (.ref 2500), some (.ref 0), some (.ref 1000), some (.ref 2000), some (.int x4), some (.int r4), some (.long r10), none]) (st' := []) (σ' := (S, M12, O6)) (rfl) ?_
    refine Ex_brN (fun hc => ?_) (fun hc => ?_)
    · rw [if_pos hc] at hF
      refine Ex_go 2 (pc' := 1234) (L' := [some (.ref 2500), some (.ref 0), some (.ref 1000), some (.ref 2000), some (.int x4), some (.int r4), some (.long r10), none]) (st' := [.int (0 : Int32), .ref 2000]) (σ' := (S, M12, O6)) (rfl) ?_
      refine Ex_chk (b := ib (0 : Int32) 1) (pc' := 1235) (L' := [some (.ref 2500), some (.ref 0), some (.ref 1000), some (.ref 2000), some (.int x4), some (.int r4), some (.long r10), none]) (st' := [.long (al O6 2000 (Int32.toNatClampNeg (0 : Int32)))]) (σ' := (S, M12, O6)) rfl (by decide) ?_
      refine Ex_go 3 (pc' := if (lg_cmp (al O6 2000 (Int32.toNatClampNeg (0 : Int32))) r10) = 0 then 1243 else 1241) (L' := [some (.ref 2500), some (.ref 0), some (.ref 1000), some (.ref 2000), some (.int x4), some (.int r4), some (.long r10), none]) (st' := []) (σ' := (S, M12, O6)) (rfl) ?_
      refine Ex_brI lc_eq (fun hc => ?_) (fun hc => ?_)
      · rw [if_pos hc] at hF
        exact Ex_mono (L := [some (.ref 2500), some (.ref 0), some (.ref 1000), some (.ref 2000), some (.int x4), none, none, none]) (Le_s (Le_s (Le_s (Le_s (Le_s (Le_n (Le_n (Le_n (Le_0))))))))) (X_l_law_1243 hd hk23 _ _ _ _ _ _ _ _ hF) (Nat.le_refl _) (by omega)
      · rw [if_neg hc] at hF
        refine Ex_go 1 (pc' := 1242) (L' := [some (.ref 2500), some (.ref 0), some (.ref 1000), some (.ref 2000), some (.int x4), some (.int r4), some (.long r10), none]) (st' := [.int (0 : Int32)]) (σ' := (S, M12, O6)) (rfl) ?_
        cases hF
        exact Ex_fin rfl
    · rw [if_neg hc] at hF
      exact Ex_mono (L := [some (.ref 2500), some (.ref 0), some (.ref 1000), some (.ref 2000), some (.int x4), none, none, none]) (Le_s (Le_s (Le_s (Le_s (Le_s (Le_n (Le_n (Le_n (Le_0))))))))) (X_l_law_1243 hd hk23 _ _ _ _ _ _ _ _ hF) (Nat.le_refl _) (by omega)
  · rw [if_neg hc] at hF
    refine Ex_go 1 (pc' := 1226) (L' := [some (.ref 2500), some (.ref 0), some (.ref 1000), some (.ref 2000), some (.int x4), some (.int r4), some (.long r10), none]) (st' := [.int (0 : Int32)]) (σ' := (S, M12, O6)) (rfl) ?_
    cases hF
    exact Ex_fin rfl
def F_l_law_1299 (nL : Nat) (xs : Nat → Int32) (k23 : Int32 → Sto → Sto → Sto → Option (Int32 × Sto × Sto × Sto)) (x4 : Int32) (S : Sto) (M : Sto) (O : Sto) : Option (Int32 × Sto × Sto × Sto) := F_l_law_2537 nL xs k23 x4 S M O
set_option maxRecDepth 100000 in
theorem X_l_law_1299 {nL : Nat} {xs : Nat → Int32} {d : Nat} (hd : 98 ≤ d) {K : Nat} {k23 : Int32 → Sto → Sto → Sto → Option (Int32 × Sto × Sto × Sto)} (hk23 : ∀ (x4 : Int32) (S : Sto) (M : Sto) (O : Sto) (r : Int32) (S' : Sto) (M' : Sto) (O' : Sto), k23 x4 S M O = some (r, S', M', O') → EX nL xs K MI_281 d 23 [some (.ref 2500), some (.ref 0), some (.ref 1000), some (.ref 2000), some (.int x4), none, none, none] [] (S, M, O) (.inl (some (.int r))) (S', M', O')) : ∀ (x4 : Int32) (S : Sto) (M : Sto) (O : Sto) (r : Int32) (S' : Sto) (M' : Sto) (O' : Sto), F_l_law_1299 nL xs k23 x4 S M O = some (r, S', M', O') → EX nL xs K MI_281 d 1299 [some (.ref 2500), some (.ref 0), some (.ref 1000), some (.ref 2000), some (.int x4), none, none, none] [] (S, M, O) (.inl (some (.int r))) (S', M', O') := by
  intro x4 S M O r S' M' O' hF
  unfold F_l_law_1299 at hF
  refine Ex_go 1 (pc' := 2537) (L' := [some (.ref 2500), some (.ref 0), some (.ref 1000), some (.ref 2000), some (.int x4), none, none, none]) (st' := []) (σ' := (S, M, O)) (rfl) ?_
  exact Ex_mono (L := [some (.ref 2500), some (.ref 0), some (.ref 1000), some (.ref 2000), some (.int x4), none, none, none]) (Le_s (Le_s (Le_s (Le_s (Le_s (Le_n (Le_n (Le_n (Le_0))))))))) (X_l_law_2537 hd hk23 _ _ _ _ _ _ _ _ hF) (Nat.le_refl _) (by omega)
def F_l_law_1246 (nL : Nat) (xs : Nat → Int32) (k23 : Int32 → Sto → Sto → Sto → Option (Int32 × Sto × Sto × Sto)) (x4 : Int32) (S : Sto) (M : Sto) (O : Sto) : Option (Int32 × Sto × Sto × Sto) := ck (ib (x4 + (1 : Int32)) nL) (b3 (F_l_most (xs (Int32.toNatClampNeg (x4 + (1 : Int32)))) S O) (fun r2 S4 O5 => ck (ib (x4 + (1 : Int32)) nL) (b2 (F_m_most (xs (Int32.toNatClampNeg (x4 + (1 : Int32)))) M) (fun r7 M9 => b1 (F_m_thrown M9) (fun r10 => if r10 = r2 then if r2 = 0 then if (al O5 2000 (Int32.toNatClampNeg (0 : Int32))) = (Int32.toInt64 r7) then F_l_law_1299 nL xs k23 x4 S4 M9 O5 else some ((0 : Int32), S4, M9, O5) else F_l_law_1299 nL xs k23 x4 S4 M9 O5 else some ((0 : Int32), S4, M9, O5))))))
set_option maxRecDepth 100000 in
theorem X_l_law_1246 {nL : Nat} {xs : Nat → Int32} {d : Nat} (hd : 98 ≤ d) {K : Nat} {k23 : Int32 → Sto → Sto → Sto → Option (Int32 × Sto × Sto × Sto)} (hk23 : ∀ (x4 : Int32) (S : Sto) (M : Sto) (O : Sto) (r : Int32) (S' : Sto) (M' : Sto) (O' : Sto), k23 x4 S M O = some (r, S', M', O') → EX nL xs K MI_281 d 23 [some (.ref 2500), some (.ref 0), some (.ref 1000), some (.ref 2000), some (.int x4), none, none, none] [] (S, M, O) (.inl (some (.int r))) (S', M', O')) : ∀ (x4 : Int32) (S : Sto) (M : Sto) (O : Sto) (r : Int32) (S' : Sto) (M' : Sto) (O' : Sto), F_l_law_1246 nL xs k23 x4 S M O = some (r, S', M', O') → EX nL xs (K + 1) MI_281 d 1246 [some (.ref 2500), some (.ref 0), some (.ref 1000), some (.ref 2000), some (.int x4), none, none, none] [] (S, M, O) (.inl (some (.int r))) (S', M', O') := by
  intro x4 S M O r S' M' O' hF
  unfold F_l_law_1246 at hF
  refine Ex_go 5 (pc' := 1252) (L' := [some (.ref 2500), some (.ref 0), some (.ref 1000), some (.ref 2000), some (.int x4), none, none, none]) (st' := [.int (x4 + (1 : Int32)), .ref 2500, .ref 0]) (σ' := (S, M, O)) (rfl) ?_
  obtain ⟨hc1, hF⟩ := ck_i hF
  refine Ex_chk (b := ib (x4 + (1 : Int32)) nL) (pc' := 1253) (L' := [some (.ref 2500), some (.ref 0), some (.ref 1000), some (.ref 2000), some (.int x4), none, none, none]) (st' := [.int (xs (Int32.toNatClampNeg (x4 + (1 : Int32)))), .ref 0]) (σ' := (S, M, O)) rfl hc1 ?_
  refine Ex_go 1 (pc' := 1254) (L' := [some (.ref 2500), some (.ref 0), some (.ref 1000), some (.ref 2000), some (.int x4), none, none, none]) (st' := [.ref 2000, .int (xs (Int32.toNatClampNeg (x4 + (1 : Int32)))), .ref 0]) (σ' := (S, M, O)) (rfl) ?_
  obtain ⟨r2, S4, O5, hx3, hF⟩ := b3_i hF
  refine Ex_callK (K1 := 1) (K2 := K) (kind := 4) (y := 167) (as := [.ref 0, .int (xs (Int32.toNatClampNeg (x4 + (1 : Int32)))), .ref 2000]) (rest := []) (L0 := [some (.ref 0), some (.int (xs (Int32.toNatClampNeg (x4 + (1 : Int32))))), some (.ref 2000), none]) (d' := 10) (v := some (.int r2)) (σ1 := (S4, M, O5)) rfl rfl mt_167 rfl rfl (by omega) (X_l_most (Nat.le_refl _) _ _ _ _ _ _ hx3) (Ex_st (st2 := [.int r2]) rfl ?_) (by omega)
  refine Ex_go 6 (pc' := 1265) (L' := [some (.ref 2500), some (.ref 0), some (.ref 1000), some (.ref 2000), some (.int x4), some (.int r2), none, none]) (st' := [.int (x4 + (1 : Int32)), .ref 2500, .ref 1000]) (σ' := (S4, M, O5)) (rfl) ?_
  obtain ⟨hc6, hF⟩ := ck_i hF
  refine Ex_chk (b := ib (x4 + (1 : Int32)) nL) (pc' := 1266) (L' := [some (.ref 2500), some (.ref 0), some (.ref 1000), some (.ref 2000), some (.int x4), some (.int r2), none, none]) (st' := [.int (xs (Int32.toNatClampNeg (x4 + (1 : Int32)))), .ref 1000]) (σ' := (S4, M, O5)) rfl hc6 ?_
  obtain ⟨r7, M9, hx8, hF⟩ := b2_i hF
  refine Ex_callK (K1 := 0) (K2 := K) (kind := 2) (y := 168) (as := [.ref 1000, .int (xs (Int32.toNatClampNeg (x4 + (1 : Int32))))]) (rest := []) (L0 := [some (.ref 1000), some (.int (xs (Int32.toNatClampNeg (x4 + (1 : Int32))))), none, none, none, none, none, none]) (d' := 11) (v := some (.int r7)) (σ1 := (S4, M9, O5)) rfl rfl mt_168 rfl rfl (by omega) (X_m_most (Nat.le_refl _) _ _ _ _ hx8) (Ex_st (st2 := [.int r7]) rfl ?_) (by omega)
  refine Ex_go 2 (pc' := 1272) (L' := [some (.ref 2500), some (.ref 0), some (.ref 1000), some (.ref 2000), some (.int x4), some (.int r2), some (.int r7), none]) (st' := [.ref 1000]) (σ' := (S4, M9, O5)) (rfl) ?_
  obtain ⟨r10, hx11, hF⟩ := b1_i hF
  refine Ex_callK (K1 := 0) (K2 := K) (kind := 2) (y := 77) (as := [.ref 1000]) (rest := []) (L0 := [some (.ref 1000)]) (d' := 1) (v := some (.int r10)) (σ1 := (S4, M9, O5)) rfl rfl mt_77 rfl rfl (by omega) (X_m_thrown (Nat.le_refl _) _ _ hx11) (Ex_st (st2 := [.int r10]) rfl ?_) (by omega)
  refine Ex_go 2 (pc' := if r10 = r2 then 1282 else 1280) (L' := [some (.ref 2500), some (.ref 0), some (.ref 1000), some (.ref 2000), some (.int x4), some (.int r2), some (.int r7), none]) (st' := []) (σ' := (S4, M9, O5)) (rfl) ?_
  refine Ex_br (fun hc => ?_) (fun hc => ?_)
  · rw [if_pos hc] at hF
    refine Ex_go 2 (pc' := if ¬ r2 = 0 then 1299 else 1287) (L' := [some (.ref 2500), some (.ref 0), some (.ref 1000), some (.ref 2000), some (.int x4), some (.int r2), some (.int r7), none]) (st' := []) (σ' := (S4, M9, O5)) (rfl) ?_
    refine Ex_brN (fun hc => ?_) (fun hc => ?_)
    · rw [if_pos hc] at hF
      refine Ex_go 2 (pc' := 1289) (L' := [some (.ref 2500), some (.ref 0), some (.ref 1000), some (.ref 2000), some (.int x4), some (.int r2), some (.int r7), none]) (st' := [.int (0 : Int32), .ref 2000]) (σ' := (S4, M9, O5)) (rfl) ?_
      refine Ex_chk (b := ib (0 : Int32) 1) (pc' := 1290) (L' := [some (.ref 2500), some (.ref 0), some (.ref 1000), some (.ref 2000), some (.int x4), some (.int r2), some (.int r7), none]) (st' := [.long (al O5 2000 (Int32.toNatClampNeg (0 : Int32)))]) (σ' := (S4, M9, O5)) rfl (by decide) ?_
      refine Ex_go 4 (pc' := if (lg_cmp (al O5 2000 (Int32.toNatClampNeg (0 : Int32))) (Int32.toInt64 r7)) = 0 then 1299 else 1297) (L' := [some (.ref 2500), some (.ref 0), some (.ref 1000), some (.ref 2000), some (.int x4), some (.int r2), some (.int r7), none]) (st' := []) (σ' := (S4, M9, O5)) (rfl) ?_
      refine Ex_brI lc_eq (fun hc => ?_) (fun hc => ?_)
      · rw [if_pos hc] at hF
        exact Ex_mono (L := [some (.ref 2500), some (.ref 0), some (.ref 1000), some (.ref 2000), some (.int x4), none, none, none]) (Le_s (Le_s (Le_s (Le_s (Le_s (Le_n (Le_n (Le_n (Le_0))))))))) (X_l_law_1299 hd hk23 _ _ _ _ _ _ _ _ hF) (Nat.le_refl _) (by omega)
      · rw [if_neg hc] at hF
        refine Ex_go 1 (pc' := 1298) (L' := [some (.ref 2500), some (.ref 0), some (.ref 1000), some (.ref 2000), some (.int x4), some (.int r2), some (.int r7), none]) (st' := [.int (0 : Int32)]) (σ' := (S4, M9, O5)) (rfl) ?_
        cases hF
        exact Ex_fin rfl
    · rw [if_neg hc] at hF
      exact Ex_mono (L := [some (.ref 2500), some (.ref 0), some (.ref 1000), some (.ref 2000), some (.int x4), none, none, none]) (Le_s (Le_s (Le_s (Le_s (Le_s (Le_n (Le_n (Le_n (Le_0))))))))) (X_l_law_1299 hd hk23 _ _ _ _ _ _ _ _ hF) (Nat.le_refl _) (by omega)
  · rw [if_neg hc] at hF
    refine Ex_go 1 (pc' := 1281) (L' := [some (.ref 2500), some (.ref 0), some (.ref 1000), some (.ref 2000), some (.int x4), some (.int r2), some (.int r7), none]) (st' := [.int (0 : Int32)]) (σ' := (S4, M9, O5)) (rfl) ?_
    cases hF
    exact Ex_fin rfl
def F_l_law_1379 (nL : Nat) (xs : Nat → Int32) (k23 : Int32 → Sto → Sto → Sto → Option (Int32 × Sto × Sto × Sto)) (x4 : Int32) (s0 : Int32) (s2 : Int64) (s3 : Int32) (S : Sto) (M : Sto) (O : Sto) : Option (Int32 × Sto × Sto × Sto) := b2 (F_m_wish s2 s3 M) (fun r1 M3 => if s0 = r1 then F_l_law_2537 nL xs k23 x4 S M3 O else some ((0 : Int32), S, M3, O))
set_option maxRecDepth 100000 in
theorem X_l_law_1379 {nL : Nat} {xs : Nat → Int32} {d : Nat} (hd : 98 ≤ d) {K : Nat} {k23 : Int32 → Sto → Sto → Sto → Option (Int32 × Sto × Sto × Sto)} (hk23 : ∀ (x4 : Int32) (S : Sto) (M : Sto) (O : Sto) (r : Int32) (S' : Sto) (M' : Sto) (O' : Sto), k23 x4 S M O = some (r, S', M', O') → EX nL xs K MI_281 d 23 [some (.ref 2500), some (.ref 0), some (.ref 1000), some (.ref 2000), some (.int x4), none, none, none] [] (S, M, O) (.inl (some (.int r))) (S', M', O')) : ∀ (x4 : Int32) (s0 : Int32) (s2 : Int64) (s3 : Int32) (S : Sto) (M : Sto) (O : Sto) (r : Int32) (S' : Sto) (M' : Sto) (O' : Sto), F_l_law_1379 nL xs k23 x4 s0 s2 s3 S M O = some (r, S', M', O') → EX nL xs K MI_281 d 1379 [some (.ref 2500), some (.ref 0), some (.ref 1000), some (.ref 2000), some (.int x4), none, none, none] [.int s3, .long s2, .ref 1000, .int s0] (S, M, O) (.inl (some (.int r))) (S', M', O') := by
  intro x4 s0 s2 s3 S M O r S' M' O' hF
  unfold F_l_law_1379 at hF
  obtain ⟨r1, M3, hx2, hF⟩ := b2_i hF
  refine Ex_callK (K1 := 0) (K2 := K) (kind := 2) (y := 171) (as := [.ref 1000, .long s2, .int s3]) (rest := [.int s0]) (L0 := [some (.ref 1000), some (.long s2), none, some (.int s3), none, none]) (d' := 3) (v := some (.int r1)) (σ1 := (S, M3, O)) rfl rfl mt_171 rfl rfl (by omega) (X_m_wish (Nat.le_refl _) _ _ _ _ _ hx2) (Ex_st (st2 := [.int r1, .int s0]) rfl ?_) (by omega)
  refine Ex_go 1 (pc' := if s0 = r1 then 2537 else 1385) (L' := [some (.ref 2500), some (.ref 0), some (.ref 1000), some (.ref 2000), some (.int x4), none, none, none]) (st' := []) (σ' := (S, M3, O)) (rfl) ?_
  refine Ex_br (fun hc => ?_) (fun hc => ?_)
  · rw [if_pos hc] at hF
    exact Ex_mono (L := [some (.ref 2500), some (.ref 0), some (.ref 1000), some (.ref 2000), some (.int x4), none, none, none]) (Le_s (Le_s (Le_s (Le_s (Le_s (Le_n (Le_n (Le_n (Le_0))))))))) (X_l_law_2537 hd hk23 _ _ _ _ _ _ _ _ hF) (Nat.le_refl _) (by omega)
  · rw [if_neg hc] at hF
    refine Ex_go 1 (pc' := 1386) (L' := [some (.ref 2500), some (.ref 0), some (.ref 1000), some (.ref 2000), some (.int x4), none, none, none]) (st' := [.int (0 : Int32)]) (σ' := (S, M3, O)) (rfl) ?_
    cases hF
    exact Ex_fin rfl
def F_l_law_1339 (nL : Nat) (xs : Nat → Int32) (k23 : Int32 → Sto → Sto → Sto → Option (Int32 × Sto × Sto × Sto)) (x4 : Int32) (s1 : Int64) (s2 : Int32) (S : Sto) (M : Sto) (O : Sto) : Option (Int32 × Sto × Sto × Sto) := b2 (F_w_wish s1 s2 S) (fun r1 S3 => ck (ib (x4 + (1 : Int32)) nL) (ck (ib (x4 + (2 : Int32)) nL) (ck (ib (x4 + (3 : Int32)) nL) (if (xs (Int32.toNatClampNeg (x4 + (3 : Int32)))) = 0 then F_l_law_1379 nL xs k23 x4 r1 (((Int32.toInt64 (xs (Int32.toNatClampNeg (x4 + (1 : Int32))))) <<< (Int32.toInt64 (32 : Int32) &&& 63)) ||| ((Int32.toInt64 (xs (Int32.toNatClampNeg (x4 + (2 : Int32))))) &&& (4294967295 : Int64))) (0 : Int32) S3 M O else F_l_law_1379 nL xs k23 x4 r1 (((Int32.toInt64 (xs (Int32.toNatClampNeg (x4 + (1 : Int32))))) <<< (Int32.toInt64 (32 : Int32) &&& 63)) ||| ((Int32.toInt64 (xs (Int32.toNatClampNeg (x4 + (2 : Int32))))) &&& (4294967295 : Int64))) (1 : Int32) S3 M O))))
set_option maxRecDepth 100000 in
theorem X_l_law_1339 {nL : Nat} {xs : Nat → Int32} {d : Nat} (hd : 98 ≤ d) {K : Nat} {k23 : Int32 → Sto → Sto → Sto → Option (Int32 × Sto × Sto × Sto)} (hk23 : ∀ (x4 : Int32) (S : Sto) (M : Sto) (O : Sto) (r : Int32) (S' : Sto) (M' : Sto) (O' : Sto), k23 x4 S M O = some (r, S', M', O') → EX nL xs K MI_281 d 23 [some (.ref 2500), some (.ref 0), some (.ref 1000), some (.ref 2000), some (.int x4), none, none, none] [] (S, M, O) (.inl (some (.int r))) (S', M', O')) : ∀ (x4 : Int32) (s1 : Int64) (s2 : Int32) (S : Sto) (M : Sto) (O : Sto) (r : Int32) (S' : Sto) (M' : Sto) (O' : Sto), F_l_law_1339 nL xs k23 x4 s1 s2 S M O = some (r, S', M', O') → EX nL xs K MI_281 d 1339 [some (.ref 2500), some (.ref 0), some (.ref 1000), some (.ref 2000), some (.int x4), none, none, none] [.int s2, .long s1, .ref 0] (S, M, O) (.inl (some (.int r))) (S', M', O') := by
  intro x4 s1 s2 S M O r S' M' O' hF
  unfold F_l_law_1339 at hF
  obtain ⟨r1, S3, hx2, hF⟩ := b2_i hF
  refine Ex_callK (K1 := 0) (K2 := K) (kind := 2) (y := 170) (as := [.ref 0, .long s1, .int s2]) (rest := []) (L0 := [some (.ref 0), some (.long s1), none, some (.int s2)]) (d' := 2) (v := some (.int r1)) (σ1 := (S3, M, O)) rfl rfl mt_170 rfl rfl (by omega) (X_w_wish (Nat.le_refl _) _ _ _ _ _ hx2) (Ex_st (st2 := [.int r1]) rfl ?_) (by omega)
  refine Ex_go 5 (pc' := 1348) (L' := [some (.ref 2500), some (.ref 0), some (.ref 1000), some (.ref 2000), some (.int x4), none, none, none]) (st' := [.int (x4 + (1 : Int32)), .ref 2500, .ref 1000, .int r1]) (σ' := (S3, M, O)) (rfl) ?_
  obtain ⟨hc4, hF⟩ := ck_i hF
  refine Ex_chk (b := ib (x4 + (1 : Int32)) nL) (pc' := 1349) (L' := [some (.ref 2500), some (.ref 0), some (.ref 1000), some (.ref 2000), some (.int x4), none, none, none]) (st' := [.int (xs (Int32.toNatClampNeg (x4 + (1 : Int32)))), .ref 1000, .int r1]) (σ' := (S3, M, O)) rfl hc4 ?_
  refine Ex_go 7 (pc' := 1358) (L' := [some (.ref 2500), some (.ref 0), some (.ref 1000), some (.ref 2000), some (.int x4), none, none, none]) (st' := [.int (x4 + (2 : Int32)), .ref 2500, .long ((Int32.toInt64 (xs (Int32.toNatClampNeg (x4 + (1 : Int32))))) <<< (Int32.toInt64 (32 : Int32) &&& 63)), .ref 1000, .int r1]) (σ' := (S3, M, O)) (rfl) ?_
  obtain ⟨hc5, hF⟩ := ck_i hF
  refine Ex_chk (b := ib (x4 + (2 : Int32)) nL) (pc' := 1359) (L' := [some (.ref 2500), some (.ref 0), some (.ref 1000), some (.ref 2000), some (.int x4), none, none, none]) (st' := [.int (xs (Int32.toNatClampNeg (x4 + (2 : Int32)))), .long ((Int32.toInt64 (xs (Int32.toNatClampNeg (x4 + (1 : Int32))))) <<< (Int32.toInt64 (32 : Int32) &&& 63)), .ref 1000, .int r1]) (σ' := (S3, M, O)) rfl hc5 ?_
  refine Ex_go 8 (pc' := 1370) (L' := [some (.ref 2500), some (.ref 0), some (.ref 1000), some (.ref 2000), some (.int x4), none, none, none]) (st' := [.int (x4 + (3 : Int32)), .ref 2500, .long (((Int32.toInt64 (xs (Int32.toNatClampNeg (x4 + (1 : Int32))))) <<< (Int32.toInt64 (32 : Int32) &&& 63)) ||| ((Int32.toInt64 (xs (Int32.toNatClampNeg (x4 + (2 : Int32))))) &&& (4294967295 : Int64))), .ref 1000, .int r1]) (σ' := (S3, M, O)) (rfl) ?_
  obtain ⟨hc6, hF⟩ := ck_i hF
  refine Ex_chk (b := ib (x4 + (3 : Int32)) nL) (pc' := 1371) (L' := [some (.ref 2500), some (.ref 0), some (.ref 1000), some (.ref 2000), some (.int x4), none, none, none]) (st' := [.int (xs (Int32.toNatClampNeg (x4 + (3 : Int32)))), .long (((Int32.toInt64 (xs (Int32.toNatClampNeg (x4 + (1 : Int32))))) <<< (Int32.toInt64 (32 : Int32) &&& 63)) ||| ((Int32.toInt64 (xs (Int32.toNatClampNeg (x4 + (2 : Int32))))) &&& (4294967295 : Int64))), .ref 1000, .int r1]) (σ' := (S3, M, O)) rfl hc6 ?_
  refine Ex_go 1 (pc' := if (xs (Int32.toNatClampNeg (x4 + (3 : Int32)))) = 0 then 1378 else 1374) (L' := [some (.ref 2500), some (.ref 0), some (.ref 1000), some (.ref 2000), some (.int x4), none, none, none]) (st' := [.long (((Int32.toInt64 (xs (Int32.toNatClampNeg (x4 + (1 : Int32))))) <<< (Int32.toInt64 (32 : Int32) &&& 63)) ||| ((Int32.toInt64 (xs (Int32.toNatClampNeg (x4 + (2 : Int32))))) &&& (4294967295 : Int64))), .ref 1000, .int r1]) (σ' := (S3, M, O)) (rfl) ?_
  refine Ex_br (fun hc => ?_) (fun hc => ?_)
  · rw [if_pos hc] at hF
    refine Ex_go 1 (pc' := 1379) (L' := [some (.ref 2500), some (.ref 0), some (.ref 1000), some (.ref 2000), some (.int x4), none, none, none]) (st' := [.int (0 : Int32), .long (((Int32.toInt64 (xs (Int32.toNatClampNeg (x4 + (1 : Int32))))) <<< (Int32.toInt64 (32 : Int32) &&& 63)) ||| ((Int32.toInt64 (xs (Int32.toNatClampNeg (x4 + (2 : Int32))))) &&& (4294967295 : Int64))), .ref 1000, .int r1]) (σ' := (S3, M, O)) (rfl) ?_
    exact Ex_mono (L := [some (.ref 2500), some (.ref 0), some (.ref 1000), some (.ref 2000), some (.int x4), none, none, none]) (Le_s (Le_s (Le_s (Le_s (Le_s (Le_n (Le_n (Le_n (Le_0))))))))) (X_l_law_1379 hd hk23 _ _ _ _ _ _ _ _ _ _ _ hF) (Nat.le_refl _) (by omega)
  · rw [if_neg hc] at hF
    refine Ex_go 2 (pc' := 1379) (L' := [some (.ref 2500), some (.ref 0), some (.ref 1000), some (.ref 2000), some (.int x4), none, none, none]) (st' := [.int (1 : Int32), .long (((Int32.toInt64 (xs (Int32.toNatClampNeg (x4 + (1 : Int32))))) <<< (Int32.toInt64 (32 : Int32) &&& 63)) ||| ((Int32.toInt64 (xs (Int32.toNatClampNeg (x4 + (2 : Int32))))) &&& (4294967295 : Int64))), .ref 1000, .int r1]) (σ' := (S3, M, O)) (rfl) ?_
    exact Ex_mono (L := [some (.ref 2500), some (.ref 0), some (.ref 1000), some (.ref 2000), some (.int x4), none, none, none]) (Le_s (Le_s (Le_s (Le_s (Le_s (Le_n (Le_n (Le_n (Le_0))))))))) (X_l_law_1379 hd hk23 _ _ _ _ _ _ _ _ _ _ _ hF) (Nat.le_refl _) (by omega)
def F_l_law_1302 (nL : Nat) (xs : Nat → Int32) (k23 : Int32 → Sto → Sto → Sto → Option (Int32 × Sto × Sto × Sto)) (x4 : Int32) (S : Sto) (M : Sto) (O : Sto) : Option (Int32 × Sto × Sto × Sto) := ck (ib (x4 + (1 : Int32)) nL) (ck (ib (x4 + (2 : Int32)) nL) (ck (ib (x4 + (3 : Int32)) nL) (if (xs (Int32.toNatClampNeg (x4 + (3 : Int32)))) = 0 then F_l_law_1339 nL xs k23 x4 (((Int32.toInt64 (xs (Int32.toNatClampNeg (x4 + (1 : Int32))))) <<< (Int32.toInt64 (32 : Int32) &&& 63)) ||| ((Int32.toInt64 (xs (Int32.toNatClampNeg (x4 + (2 : Int32))))) &&& (4294967295 : Int64))) (0 : Int32) S M O else F_l_law_1339 nL xs k23 x4 (((Int32.toInt64 (xs (Int32.toNatClampNeg (x4 + (1 : Int32))))) <<< (Int32.toInt64 (32 : Int32) &&& 63)) ||| ((Int32.toInt64 (xs (Int32.toNatClampNeg (x4 + (2 : Int32))))) &&& (4294967295 : Int64))) (1 : Int32) S M O)))
set_option maxRecDepth 100000 in
theorem X_l_law_1302 {nL : Nat} {xs : Nat → Int32} {d : Nat} (hd : 98 ≤ d) {K : Nat} {k23 : Int32 → Sto → Sto → Sto → Option (Int32 × Sto × Sto × Sto)} (hk23 : ∀ (x4 : Int32) (S : Sto) (M : Sto) (O : Sto) (r : Int32) (S' : Sto) (M' : Sto) (O' : Sto), k23 x4 S M O = some (r, S', M', O') → EX nL xs K MI_281 d 23 [some (.ref 2500), some (.ref 0), some (.ref 1000), some (.ref 2000), some (.int x4), none, none, none] [] (S, M, O) (.inl (some (.int r))) (S', M', O')) : ∀ (x4 : Int32) (S : Sto) (M : Sto) (O : Sto) (r : Int32) (S' : Sto) (M' : Sto) (O' : Sto), F_l_law_1302 nL xs k23 x4 S M O = some (r, S', M', O') → EX nL xs K MI_281 d 1302 [some (.ref 2500), some (.ref 0), some (.ref 1000), some (.ref 2000), some (.int x4), none, none, none] [] (S, M, O) (.inl (some (.int r))) (S', M', O') := by
  intro x4 S M O r S' M' O' hF
  unfold F_l_law_1302 at hF
  refine Ex_go 5 (pc' := 1308) (L' := [some (.ref 2500), some (.ref 0), some (.ref 1000), some (.ref 2000), some (.int x4), none, none, none]) (st' := [.int (x4 + (1 : Int32)), .ref 2500, .ref 0]) (σ' := (S, M, O)) (rfl) ?_
  obtain ⟨hc1, hF⟩ := ck_i hF
  refine Ex_chk (b := ib (x4 + (1 : Int32)) nL) (pc' := 1309) (L' := [some (.ref 2500), some (.ref 0), some (.ref 1000), some (.ref 2000), some (.int x4), none, none, none]) (st' := [.int (xs (Int32.toNatClampNeg (x4 + (1 : Int32)))), .ref 0]) (σ' := (S, M, O)) rfl hc1 ?_
  refine Ex_go 7 (pc' := 1318) (L' := [some (.ref 2500), some (.ref 0), some (.ref 1000), some (.ref 2000), some (.int x4), none, none, none]) (st' := [.int (x4 + (2 : Int32)), .ref 2500, .long ((Int32.toInt64 (xs (Int32.toNatClampNeg (x4 + (1 : Int32))))) <<< (Int32.toInt64 (32 : Int32) &&& 63)), .ref 0]) (σ' := (S, M, O)) (rfl) ?_
  obtain ⟨hc2, hF⟩ := ck_i hF
  refine Ex_chk (b := ib (x4 + (2 : Int32)) nL) (pc' := 1319) (L' := [some (.ref 2500), some (.ref 0), some (.ref 1000), some (.ref 2000), some (.int x4), none, none, none]) (st' := [.int (xs (Int32.toNatClampNeg (x4 + (2 : Int32)))), .long ((Int32.toInt64 (xs (Int32.toNatClampNeg (x4 + (1 : Int32))))) <<< (Int32.toInt64 (32 : Int32) &&& 63)), .ref 0]) (σ' := (S, M, O)) rfl hc2 ?_
  refine Ex_go 8 (pc' := 1330) (L' := [some (.ref 2500), some (.ref 0), some (.ref 1000), some (.ref 2000), some (.int x4), none, none, none]) (st' := [.int (x4 + (3 : Int32)), .ref 2500, .long (((Int32.toInt64 (xs (Int32.toNatClampNeg (x4 + (1 : Int32))))) <<< (Int32.toInt64 (32 : Int32) &&& 63)) ||| ((Int32.toInt64 (xs (Int32.toNatClampNeg (x4 + (2 : Int32))))) &&& (4294967295 : Int64))), .ref 0]) (σ' := (S, M, O)) (rfl) ?_
  obtain ⟨hc3, hF⟩ := ck_i hF
  refine Ex_chk (b := ib (x4 + (3 : Int32)) nL) (pc' := 1331) (L' := [some (.ref 2500), some (.ref 0), some (.ref 1000), some (.ref 2000), some (.int x4), none, none, none]) (st' := [.int (xs (Int32.toNatClampNeg (x4 + (3 : Int32)))), .long (((Int32.toInt64 (xs (Int32.toNatClampNeg (x4 + (1 : Int32))))) <<< (Int32.toInt64 (32 : Int32) &&& 63)) ||| ((Int32.toInt64 (xs (Int32.toNatClampNeg (x4 + (2 : Int32))))) &&& (4294967295 : Int64))), .ref 0]) (σ' := (S, M, O)) rfl hc3 ?_
  refine Ex_go 1 (pc' := if (xs (Int32.toNatClampNeg (x4 + (3 : Int32)))) = 0 then 1338 else 1334) (L' := [some (.ref 2500), some (.ref 0), some (.ref 1000), some (.ref 2000), some (.int x4), none, none, none]) (st' := [.long (((Int32.toInt64 (xs (Int32.toNatClampNeg (x4 + (1 : Int32))))) <<< (Int32.toInt64 (32 : Int32) &&& 63)) ||| ((Int32.toInt64 (xs (Int32.toNatClampNeg (x4 + (2 : Int32))))) &&& (4294967295 : Int64))), .ref 0]) (σ' := (S, M, O)) (rfl) ?_
  refine Ex_br (fun hc => ?_) (fun hc => ?_)
  · rw [if_pos hc] at hF
    refine Ex_go 1 (pc' := 1339) (L' := [some (.ref 2500), some (.ref 0), some (.ref 1000), some (.ref 2000), some (.int x4), none, none, none]) (st' := [.int (0 : Int32), .long (((Int32.toInt64 (xs (Int32.toNatClampNeg (x4 + (1 : Int32))))) <<< (Int32.toInt64 (32 : Int32) &&& 63)) ||| ((Int32.toInt64 (xs (Int32.toNatClampNeg (x4 + (2 : Int32))))) &&& (4294967295 : Int64))), .ref 0]) (σ' := (S, M, O)) (rfl) ?_
    exact Ex_mono (L := [some (.ref 2500), some (.ref 0), some (.ref 1000), some (.ref 2000), some (.int x4), none, none, none]) (Le_s (Le_s (Le_s (Le_s (Le_s (Le_n (Le_n (Le_n (Le_0))))))))) (X_l_law_1339 hd hk23 _ _ _ _ _ _ _ _ _ _ hF) (Nat.le_refl _) (by omega)
  · rw [if_neg hc] at hF
    refine Ex_go 2 (pc' := 1339) (L' := [some (.ref 2500), some (.ref 0), some (.ref 1000), some (.ref 2000), some (.int x4), none, none, none]) (st' := [.int (1 : Int32), .long (((Int32.toInt64 (xs (Int32.toNatClampNeg (x4 + (1 : Int32))))) <<< (Int32.toInt64 (32 : Int32) &&& 63)) ||| ((Int32.toInt64 (xs (Int32.toNatClampNeg (x4 + (2 : Int32))))) &&& (4294967295 : Int64))), .ref 0]) (σ' := (S, M, O)) (rfl) ?_
    exact Ex_mono (L := [some (.ref 2500), some (.ref 0), some (.ref 1000), some (.ref 2000), some (.int x4), none, none, none]) (Le_s (Le_s (Le_s (Le_s (Le_s (Le_n (Le_n (Le_n (Le_0))))))))) (X_l_law_1339 hd hk23 _ _ _ _ _ _ _ _ _ _ hF) (Nat.le_refl _) (by omega)
def F_l_law_1387 (nL : Nat) (xs : Nat → Int32) (k23 : Int32 → Sto → Sto → Sto → Option (Int32 × Sto × Sto × Sto)) (x4 : Int32) (S : Sto) (M : Sto) (O : Sto) : Option (Int32 × Sto × Sto × Sto) := b2 (F_w_forget S) (fun r1 S3 => b2 (F_m_forget M) (fun r4 M6 => F_l_law_2537 nL xs k23 x4 S3 M6 O))
set_option maxRecDepth 100000 in
theorem X_l_law_1387 {nL : Nat} {xs : Nat → Int32} {d : Nat} (hd : 98 ≤ d) {K : Nat} {k23 : Int32 → Sto → Sto → Sto → Option (Int32 × Sto × Sto × Sto)} (hk23 : ∀ (x4 : Int32) (S : Sto) (M : Sto) (O : Sto) (r : Int32) (S' : Sto) (M' : Sto) (O' : Sto), k23 x4 S M O = some (r, S', M', O') → EX nL xs K MI_281 d 23 [some (.ref 2500), some (.ref 0), some (.ref 1000), some (.ref 2000), some (.int x4), none, none, none] [] (S, M, O) (.inl (some (.int r))) (S', M', O')) : ∀ (x4 : Int32) (S : Sto) (M : Sto) (O : Sto) (r : Int32) (S' : Sto) (M' : Sto) (O' : Sto), F_l_law_1387 nL xs k23 x4 S M O = some (r, S', M', O') → EX nL xs K MI_281 d 1387 [some (.ref 2500), some (.ref 0), some (.ref 1000), some (.ref 2000), some (.int x4), none, none, none] [] (S, M, O) (.inl (some (.int r))) (S', M', O') := by
  intro x4 S M O r S' M' O' hF
  unfold F_l_law_1387 at hF
  refine Ex_go 1 (pc' := 1388) (L' := [some (.ref 2500), some (.ref 0), some (.ref 1000), some (.ref 2000), some (.int x4), none, none, none]) (st' := [.ref 0]) (σ' := (S, M, O)) (rfl) ?_
  obtain ⟨r1, S3, hx2, hF⟩ := b2_i hF
  refine Ex_callK (K1 := 0) (K2 := K) (kind := 2) (y := 172) (as := [.ref 0]) (rest := []) (L0 := [some (.ref 0)]) (d' := 1) (v := none) (σ1 := (S3, M, O)) rfl rfl mt_172 rfl rfl (by omega) (X_w_forget (Nat.le_refl _) _ _ _ hx2) (Ex_st (st2 := []) rfl ?_) (by omega)
  refine Ex_go 1 (pc' := 1392) (L' := [some (.ref 2500), some (.ref 0), some (.ref 1000), some (.ref 2000), some (.int x4), none, none, none]) (st' := [.ref 1000]) (σ' := (S3, M, O)) (rfl) ?_
  obtain ⟨r4, M6, hx5, hF⟩ := b2_i hF
  refine Ex_callK (K1 := 0) (K2 := K) (kind := 2) (y := 173) (as := [.ref 1000]) (rest := []) (L0 := [some (.ref 1000)]) (d' := 1) (v := none) (σ1 := (S3, M6, O)) rfl rfl mt_173 rfl rfl (by omega) (X_m_forget (Nat.le_refl _) _ _ _ hx5) (Ex_st (st2 := []) rfl ?_) (by omega)
  refine Ex_go 1 (pc' := 2537) (L' := [some (.ref 2500), some (.ref 0), some (.ref 1000), some (.ref 2000), some (.int x4), none, none, none]) (st' := []) (σ' := (S3, M6, O)) (rfl) ?_
  exact Ex_mono (L := [some (.ref 2500), some (.ref 0), some (.ref 1000), some (.ref 2000), some (.int x4), none, none, none]) (Le_s (Le_s (Le_s (Le_s (Le_s (Le_n (Le_n (Le_n (Le_0))))))))) (X_l_law_2537 hd hk23 _ _ _ _ _ _ _ _ hF) (Nat.le_refl _) (by omega)
def F_l_law_1398 (nL : Nat) (xs : Nat → Int32) (k23 : Int32 → Sto → Sto → Sto → Option (Int32 × Sto × Sto × Sto)) (x4 : Int32) (S : Sto) (M : Sto) (O : Sto) : Option (Int32 × Sto × Sto × Sto) := b2 (F_w_fewest S) (fun r1 S3 => b2 (F_m_fewest M) (fun r4 M6 => if r1 = r4 then F_l_law_2537 nL xs k23 x4 S3 M6 O else some ((0 : Int32), S3, M6, O)))
set_option maxRecDepth 100000 in
theorem X_l_law_1398 {nL : Nat} {xs : Nat → Int32} {d : Nat} (hd : 98 ≤ d) {K : Nat} {k23 : Int32 → Sto → Sto → Sto → Option (Int32 × Sto × Sto × Sto)} (hk23 : ∀ (x4 : Int32) (S : Sto) (M : Sto) (O : Sto) (r : Int32) (S' : Sto) (M' : Sto) (O' : Sto), k23 x4 S M O = some (r, S', M', O') → EX nL xs K MI_281 d 23 [some (.ref 2500), some (.ref 0), some (.ref 1000), some (.ref 2000), some (.int x4), none, none, none] [] (S, M, O) (.inl (some (.int r))) (S', M', O')) : ∀ (x4 : Int32) (S : Sto) (M : Sto) (O : Sto) (r : Int32) (S' : Sto) (M' : Sto) (O' : Sto), F_l_law_1398 nL xs k23 x4 S M O = some (r, S', M', O') → EX nL xs K MI_281 d 1398 [some (.ref 2500), some (.ref 0), some (.ref 1000), some (.ref 2000), some (.int x4), none, none, none] [] (S, M, O) (.inl (some (.int r))) (S', M', O') := by
  intro x4 S M O r S' M' O' hF
  unfold F_l_law_1398 at hF
  refine Ex_go 1 (pc' := 1399) (L' := [some (.ref 2500), some (.ref 0), some (.ref 1000), some (.ref 2000), some (.int x4), none, none, none]) (st' := [.ref 0]) (σ' := (S, M, O)) (rfl) ?_
  obtain ⟨r1, S3, hx2, hF⟩ := b2_i hF
  refine Ex_callK (K1 := 0) (K2 := K) (kind := 2) (y := 177) (as := [.ref 0]) (rest := []) (L0 := [some (.ref 0), none, none]) (d' := 4) (v := some (.int r1)) (σ1 := (S3, M, O)) rfl rfl mt_177 rfl rfl (by omega) (X_w_fewest (Nat.le_refl _) _ _ _ hx2) (Ex_st (st2 := [.int r1]) rfl ?_) (by omega)
  refine Ex_go 1 (pc' := 1403) (L' := [some (.ref 2500), some (.ref 0), some (.ref 1000), some (.ref 2000), some (.int x4), none, none, none]) (st' := [.ref 1000, .int r1]) (σ' := (S3, M, O)) (rfl) ?_
  obtain ⟨r4, M6, hx5, hF⟩ := b2_i hF
  refine Ex_callK (K1 := 0) (K2 := K) (kind := 2) (y := 179) (as := [.ref 1000]) (rest := [.int r1]) (L0 := [some (.ref 1000), none, none]) (d' := 5) (v := some (.int r4)) (σ1 := (S3, M6, O)) rfl rfl mt_179 rfl rfl (by omega) (X_m_fewest (Nat.le_refl _) _ _ _ hx5) (Ex_st (st2 := [.int r4, .int r1]) rfl ?_) (by omega)
  refine Ex_go 1 (pc' := if r1 = r4 then 2537 else 1409) (L' := [some (.ref 2500), some (.ref 0), some (.ref 1000), some (.ref 2000), some (.int x4), none, none, none]) (st' := []) (σ' := (S3, M6, O)) (rfl) ?_
  refine Ex_br (fun hc => ?_) (fun hc => ?_)
  · rw [if_pos hc] at hF
    exact Ex_mono (L := [some (.ref 2500), some (.ref 0), some (.ref 1000), some (.ref 2000), some (.int x4), none, none, none]) (Le_s (Le_s (Le_s (Le_s (Le_s (Le_n (Le_n (Le_n (Le_0))))))))) (X_l_law_2537 hd hk23 _ _ _ _ _ _ _ _ hF) (Nat.le_refl _) (by omega)
  · rw [if_neg hc] at hF
    refine Ex_go 1 (pc' := 1410) (L' := [some (.ref 2500), some (.ref 0), some (.ref 1000), some (.ref 2000), some (.int x4), none, none, none]) (st' := [.int (0 : Int32)]) (σ' := (S3, M6, O)) (rfl) ?_
    cases hF
    exact Ex_fin rfl
def F_l_law_1464 (nL : Nat) (xs : Nat → Int32) (k23 : Int32 → Sto → Sto → Sto → Option (Int32 × Sto × Sto × Sto)) (x4 : Int32) (S : Sto) (M : Sto) (O : Sto) : Option (Int32 × Sto × Sto × Sto) := F_l_law_2537 nL xs k23 x4 S M O
set_option maxRecDepth 100000 in
theorem X_l_law_1464 {nL : Nat} {xs : Nat → Int32} {d : Nat} (hd : 98 ≤ d) {K : Nat} {k23 : Int32 → Sto → Sto → Sto → Option (Int32 × Sto × Sto × Sto)} (hk23 : ∀ (x4 : Int32) (S : Sto) (M : Sto) (O : Sto) (r : Int32) (S' : Sto) (M' : Sto) (O' : Sto), k23 x4 S M O = some (r, S', M', O') → EX nL xs K MI_281 d 23 [some (.ref 2500), some (.ref 0), some (.ref 1000), some (.ref 2000), some (.int x4), none, none, none] [] (S, M, O) (.inl (some (.int r))) (S', M', O')) : ∀ (x4 : Int32) (S : Sto) (M : Sto) (O : Sto) (r : Int32) (S' : Sto) (M' : Sto) (O' : Sto), F_l_law_1464 nL xs k23 x4 S M O = some (r, S', M', O') → EX nL xs K MI_281 d 1464 [some (.ref 2500), some (.ref 0), some (.ref 1000), some (.ref 2000), some (.int x4), none, none, none] [] (S, M, O) (.inl (some (.int r))) (S', M', O') := by
  intro x4 S M O r S' M' O' hF
  unfold F_l_law_1464 at hF
  refine Ex_go 1 (pc' := 2537) (L' := [some (.ref 2500), some (.ref 0), some (.ref 1000), some (.ref 2000), some (.int x4), none, none, none]) (st' := []) (σ' := (S, M, O)) (rfl) ?_
  exact Ex_mono (L := [some (.ref 2500), some (.ref 0), some (.ref 1000), some (.ref 2000), some (.int x4), none, none, none]) (Le_s (Le_s (Le_s (Le_s (Le_s (Le_n (Le_n (Le_n (Le_0))))))))) (X_l_law_2537 hd hk23 _ _ _ _ _ _ _ _ hF) (Nat.le_refl _) (by omega)
def F_l_law_1411 (nL : Nat) (xs : Nat → Int32) (k23 : Int32 → Sto → Sto → Sto → Option (Int32 × Sto × Sto × Sto)) (x4 : Int32) (S : Sto) (M : Sto) (O : Sto) : Option (Int32 × Sto × Sto × Sto) := ck (ib (x4 + (1 : Int32)) nL) (b2 (F_l_mesh (xs (Int32.toNatClampNeg (x4 + (1 : Int32)))) S O) (fun r2 O4 => ck (ib (x4 + (1 : Int32)) nL) (b2 (F_m_mesh (xs (Int32.toNatClampNeg (x4 + (1 : Int32)))) M) (fun r6 M8 => b1 (F_m_thrown M8) (fun r9 => if r9 = r2 then if r2 = 0 then if (al O4 2000 (Int32.toNatClampNeg (0 : Int32))) = (Int32.toInt64 r6) then F_l_law_1464 nL xs k23 x4 S M8 O4 else some ((0 : Int32), S, M8, O4) else F_l_law_1464 nL xs k23 x4 S M8 O4 else some ((0 : Int32), S, M8, O4))))))
set_option maxRecDepth 100000 in
theorem X_l_law_1411 {nL : Nat} {xs : Nat → Int32} {d : Nat} (hd : 98 ≤ d) {K : Nat} {k23 : Int32 → Sto → Sto → Sto → Option (Int32 × Sto × Sto × Sto)} (hk23 : ∀ (x4 : Int32) (S : Sto) (M : Sto) (O : Sto) (r : Int32) (S' : Sto) (M' : Sto) (O' : Sto), k23 x4 S M O = some (r, S', M', O') → EX nL xs K MI_281 d 23 [some (.ref 2500), some (.ref 0), some (.ref 1000), some (.ref 2000), some (.int x4), none, none, none] [] (S, M, O) (.inl (some (.int r))) (S', M', O')) : ∀ (x4 : Int32) (S : Sto) (M : Sto) (O : Sto) (r : Int32) (S' : Sto) (M' : Sto) (O' : Sto), F_l_law_1411 nL xs k23 x4 S M O = some (r, S', M', O') → EX nL xs (K + 1) MI_281 d 1411 [some (.ref 2500), some (.ref 0), some (.ref 1000), some (.ref 2000), some (.int x4), none, none, none] [] (S, M, O) (.inl (some (.int r))) (S', M', O') := by
  intro x4 S M O r S' M' O' hF
  unfold F_l_law_1411 at hF
  refine Ex_go 5 (pc' := 1417) (L' := [some (.ref 2500), some (.ref 0), some (.ref 1000), some (.ref 2000), some (.int x4), none, none, none]) (st' := [.int (x4 + (1 : Int32)), .ref 2500, .ref 0]) (σ' := (S, M, O)) (rfl) ?_
  obtain ⟨hc1, hF⟩ := ck_i hF
  refine Ex_chk (b := ib (x4 + (1 : Int32)) nL) (pc' := 1418) (L' := [some (.ref 2500), some (.ref 0), some (.ref 1000), some (.ref 2000), some (.int x4), none, none, none]) (st' := [.int (xs (Int32.toNatClampNeg (x4 + (1 : Int32)))), .ref 0]) (σ' := (S, M, O)) rfl hc1 ?_
  refine Ex_go 1 (pc' := 1419) (L' := [some (.ref 2500), some (.ref 0), some (.ref 1000), some (.ref 2000), some (.int x4), none, none, none]) (st' := [.ref 2000, .int (xs (Int32.toNatClampNeg (x4 + (1 : Int32)))), .ref 0]) (σ' := (S, M, O)) (rfl) ?_
  obtain ⟨r2, O4, hx3, hF⟩ := b2_i hF
  refine Ex_callK (K1 := 1) (K2 := K) (kind := 4) (y := 183) (as := [.ref 0, .int (xs (Int32.toNatClampNeg (x4 + (1 : Int32)))), .ref 2000]) (rest := []) (L0 := [some (.ref 0), some (.int (xs (Int32.toNatClampNeg (x4 + (1 : Int32))))), some (.ref 2000), none]) (d' := 9) (v := some (.int r2)) (σ1 := (S, M, O4)) rfl rfl mt_183 rfl rfl (by omega) (X_l_mesh (Nat.le_refl _) _ _ _ _ _ hx3) (Ex_st (st2 := [.int r2]) rfl ?_) (by omega)
  refine Ex_go 6 (pc' := 1430) (L' := [some (.ref 2500), some (.ref 0), some (.ref 1000), some (.ref 2000), some (.int x4), some (.int r2), none, none]) (st' := [.int (x4 + (1 : Int32)), .ref 2500, .ref 1000]) (σ' := (S, M, O4)) (rfl) ?_
  obtain ⟨hc5, hF⟩ := ck_i hF
  refine Ex_chk (b := ib (x4 + (1 : Int32)) nL) (pc' := 1431) (L' := [some (.ref 2500), some (.ref 0), some (.ref 1000), some (.ref 2000), some (.int x4), some (.int r2), none, none]) (st' := [.int (xs (Int32.toNatClampNeg (x4 + (1 : Int32)))), .ref 1000]) (σ' := (S, M, O4)) rfl hc5 ?_
  obtain ⟨r6, M8, hx7, hF⟩ := b2_i hF
  refine Ex_callK (K1 := 0) (K2 := K) (kind := 2) (y := 185) (as := [.ref 1000, .int (xs (Int32.toNatClampNeg (x4 + (1 : Int32))))]) (rest := []) (L0 := [some (.ref 1000), some (.int (xs (Int32.toNatClampNeg (x4 + (1 : Int32))))), none, none]) (d' := 2) (v := some (.int r6)) (σ1 := (S, M8, O4)) rfl rfl mt_185 rfl rfl (by omega) (X_m_mesh (Nat.le_refl _) _ _ _ _ hx7) (Ex_st (st2 := [.int r6]) rfl ?_) (by omega)
  refine Ex_go 2 (pc' := 1437) (L' := [some (.ref 2500), some (.ref 0), some (.ref 1000), some (.ref 2000), some (.int x4), some (.int r2), some (.int r6), none]) (st' := [.ref 1000]) (σ' := (S, M8, O4)) (rfl) ?_
  obtain ⟨r9, hx10, hF⟩ := b1_i hF
  refine Ex_callK (K1 := 0) (K2 := K) (kind := 2) (y := 77) (as := [.ref 1000]) (rest := []) (L0 := [some (.ref 1000)]) (d' := 1) (v := some (.int r9)) (σ1 := (S, M8, O4)) rfl rfl mt_77 rfl rfl (by omega) (X_m_thrown (Nat.le_refl _) _ _ hx10) (Ex_st (st2 := [.int r9]) rfl ?_) (by omega)
  refine Ex_go 2 (pc' := if r9 = r2 then 1447 else 1445) (L' := [some (.ref 2500), some (.ref 0), some (.ref 1000), some (.ref 2000), some (.int x4), some (.int r2), some (.int r6), none]) (st' := []) (σ' := (S, M8, O4)) (rfl) ?_
  refine Ex_br (fun hc => ?_) (fun hc => ?_)
  · rw [if_pos hc] at hF
    refine Ex_go 2 (pc' := if ¬ r2 = 0 then 1464 else 1452) (L' := [some (.ref 2500), some (.ref 0), some (.ref 1000), some (.ref 2000), some (.int x4), some (.int r2), some (.int r6), none]) (st' := []) (σ' := (S, M8, O4)) (rfl) ?_
    refine Ex_brN (fun hc => ?_) (fun hc => ?_)
    · rw [if_pos hc] at hF
      refine Ex_go 2 (pc' := 1454) (L' := [some (.ref 2500), some (.ref 0), some (.ref 1000), some (.ref 2000), some (.int x4), some (.int r2), some (.int r6), none]) (st' := [.int (0 : Int32), .ref 2000]) (σ' := (S, M8, O4)) (rfl) ?_
      refine Ex_chk (b := ib (0 : Int32) 1) (pc' := 1455) (L' := [some (.ref 2500), some (.ref 0), some (.ref 1000), some (.ref 2000), some (.int x4), some (.int r2), some (.int r6), none]) (st' := [.long (al O4 2000 (Int32.toNatClampNeg (0 : Int32)))]) (σ' := (S, M8, O4)) rfl (by decide) ?_
      refine Ex_go 4 (pc' := if (lg_cmp (al O4 2000 (Int32.toNatClampNeg (0 : Int32))) (Int32.toInt64 r6)) = 0 then 1464 else 1462) (L' := [some (.ref 2500), some (.ref 0), some (.ref 1000), some (.ref 2000), some (.int x4), some (.int r2), some (.int r6), none]) (st' := []) (σ' := (S, M8, O4)) (rfl) ?_
      refine Ex_brI lc_eq (fun hc => ?_) (fun hc => ?_)
      · rw [if_pos hc] at hF
        exact Ex_mono (L := [some (.ref 2500), some (.ref 0), some (.ref 1000), some (.ref 2000), some (.int x4), none, none, none]) (Le_s (Le_s (Le_s (Le_s (Le_s (Le_n (Le_n (Le_n (Le_0))))))))) (X_l_law_1464 hd hk23 _ _ _ _ _ _ _ _ hF) (Nat.le_refl _) (by omega)
      · rw [if_neg hc] at hF
        refine Ex_go 1 (pc' := 1463) (L' := [some (.ref 2500), some (.ref 0), some (.ref 1000), some (.ref 2000), some (.int x4), some (.int r2), some (.int r6), none]) (st' := [.int (0 : Int32)]) (σ' := (S, M8, O4)) (rfl) ?_
        cases hF
        exact Ex_fin rfl
    · rw [if_neg hc] at hF
      exact Ex_mono (L := [some (.ref 2500), some (.ref 0), some (.ref 1000), some (.ref 2000), some (.int x4), none, none, none]) (Le_s (Le_s (Le_s (Le_s (Le_s (Le_n (Le_n (Le_n (Le_0))))))))) (X_l_law_1464 hd hk23 _ _ _ _ _ _ _ _ hF) (Nat.le_refl _) (by omega)
  · rw [if_neg hc] at hF
    refine Ex_go 1 (pc' := 1446) (L' := [some (.ref 2500), some (.ref 0), some (.ref 1000), some (.ref 2000), some (.int x4), some (.int r2), some (.int r6), none]) (st' := [.int (0 : Int32)]) (σ' := (S, M8, O4)) (rfl) ?_
    cases hF
    exact Ex_fin rfl
def F_l_law_1532 (nL : Nat) (xs : Nat → Int32) (k23 : Int32 → Sto → Sto → Sto → Option (Int32 × Sto × Sto × Sto)) (x4 : Int32) (S : Sto) (M : Sto) (O : Sto) : Option (Int32 × Sto × Sto × Sto) := F_l_law_2537 nL xs k23 x4 S M O
set_option maxRecDepth 100000 in
theorem X_l_law_1532 {nL : Nat} {xs : Nat → Int32} {d : Nat} (hd : 98 ≤ d) {K : Nat} {k23 : Int32 → Sto → Sto → Sto → Option (Int32 × Sto × Sto × Sto)} (hk23 : ∀ (x4 : Int32) (S : Sto) (M : Sto) (O : Sto) (r : Int32) (S' : Sto) (M' : Sto) (O' : Sto), k23 x4 S M O = some (r, S', M', O') → EX nL xs K MI_281 d 23 [some (.ref 2500), some (.ref 0), some (.ref 1000), some (.ref 2000), some (.int x4), none, none, none] [] (S, M, O) (.inl (some (.int r))) (S', M', O')) : ∀ (x4 : Int32) (S : Sto) (M : Sto) (O : Sto) (r : Int32) (S' : Sto) (M' : Sto) (O' : Sto), F_l_law_1532 nL xs k23 x4 S M O = some (r, S', M', O') → EX nL xs K MI_281 d 1532 [some (.ref 2500), some (.ref 0), some (.ref 1000), some (.ref 2000), some (.int x4), none, none, none] [] (S, M, O) (.inl (some (.int r))) (S', M', O') := by
  intro x4 S M O r S' M' O' hF
  unfold F_l_law_1532 at hF
  refine Ex_go 1 (pc' := 2537) (L' := [some (.ref 2500), some (.ref 0), some (.ref 1000), some (.ref 2000), some (.int x4), none, none, none]) (st' := []) (σ' := (S, M, O)) (rfl) ?_
  exact Ex_mono (L := [some (.ref 2500), some (.ref 0), some (.ref 1000), some (.ref 2000), some (.int x4), none, none, none]) (Le_s (Le_s (Le_s (Le_s (Le_s (Le_n (Le_n (Le_n (Le_0))))))))) (X_l_law_2537 hd hk23 _ _ _ _ _ _ _ _ hF) (Nat.le_refl _) (by omega)
def F_l_law_1467 (nL : Nat) (xs : Nat → Int32) (k23 : Int32 → Sto → Sto → Sto → Option (Int32 × Sto × Sto × Sto)) (x4 : Int32) (S : Sto) (M : Sto) (O : Sto) : Option (Int32 × Sto × Sto × Sto) := ck (ib (x4 + (1 : Int32)) nL) (ck (ib (x4 + (2 : Int32)) nL) (b3 (F_l_find (xs (Int32.toNatClampNeg (x4 + (1 : Int32)))) (xs (Int32.toNatClampNeg (x4 + (2 : Int32)))) S O) (fun r3 S5 O6 => ck (ib (x4 + (1 : Int32)) nL) (ck (ib (x4 + (2 : Int32)) nL) (b2 (F_m_find (xs (Int32.toNatClampNeg (x4 + (1 : Int32)))) (xs (Int32.toNatClampNeg (x4 + (2 : Int32)))) M) (fun r9 M11 => b1 (F_m_thrown M11) (fun r12 => if r12 = r3 then if r3 = 0 then if (al O6 2000 (Int32.toNatClampNeg (0 : Int32))) = (Int32.toInt64 r9) then F_l_law_1532 nL xs k23 x4 S5 M11 O6 else some ((0 : Int32), S5, M11, O6) else F_l_law_1532 nL xs k23 x4 S5 M11 O6 else some ((0 : Int32), S5, M11, O6))))))))
set_option maxRecDepth 100000 in
theorem X_l_law_1467 {nL : Nat} {xs : Nat → Int32} {d : Nat} (hd : 98 ≤ d) {K : Nat} {k23 : Int32 → Sto → Sto → Sto → Option (Int32 × Sto × Sto × Sto)} (hk23 : ∀ (x4 : Int32) (S : Sto) (M : Sto) (O : Sto) (r : Int32) (S' : Sto) (M' : Sto) (O' : Sto), k23 x4 S M O = some (r, S', M', O') → EX nL xs K MI_281 d 23 [some (.ref 2500), some (.ref 0), some (.ref 1000), some (.ref 2000), some (.int x4), none, none, none] [] (S, M, O) (.inl (some (.int r))) (S', M', O')) : ∀ (x4 : Int32) (S : Sto) (M : Sto) (O : Sto) (r : Int32) (S' : Sto) (M' : Sto) (O' : Sto), F_l_law_1467 nL xs k23 x4 S M O = some (r, S', M', O') → EX nL xs (K + 1) MI_281 d 1467 [some (.ref 2500), some (.ref 0), some (.ref 1000), some (.ref 2000), some (.int x4), none, none, none] [] (S, M, O) (.inl (some (.int r))) (S', M', O') := by
  intro x4 S M O r S' M' O' hF
  unfold F_l_law_1467 at hF
  refine Ex_go 5 (pc' := 1473) (L' := [some (.ref 2500), some (.ref 0), some (.ref 1000), some (.ref 2000), some (.int x4), none, none, none]) (st' := [.int (x4 + (1 : Int32)), .ref 2500, .ref 0]) (σ' := (S, M, O)) (rfl) ?_
  obtain ⟨hc1, hF⟩ := ck_i hF
  refine Ex_chk (b := ib (x4 + (1 : Int32)) nL) (pc' := 1474) (L' := [some (.ref 2500), some (.ref 0), some (.ref 1000), some (.ref 2000), some (.int x4), none, none, none]) (st' := [.int (xs (Int32.toNatClampNeg (x4 + (1 : Int32)))), .ref 0]) (σ' := (S, M, O)) rfl hc1 ?_
  refine Ex_go 4 (pc' := 1479) (L' := [some (.ref 2500), some (.ref 0), some (.ref 1000), some (.ref 2000), some (.int x4), none, none, none]) (st' := [.int (x4 + (2 : Int32)), .ref 2500, .int (xs (Int32.toNatClampNeg (x4 + (1 : Int32)))), .ref 0]) (σ' := (S, M, O)) (rfl) ?_
  obtain ⟨hc2, hF⟩ := ck_i hF
  refine Ex_chk (b := ib (x4 + (2 : Int32)) nL) (pc' := 1480) (L' := [some (.ref 2500), some (.ref 0), some (.ref 1000), some (.ref 2000), some (.int x4), none, none, none]) (st' := [.int (xs (Int32.toNatClampNeg (x4 + (2 : Int32)))), .int (xs (Int32.toNatClampNeg (x4 + (1 : Int32)))), .ref 0]) (σ' := (S, M, O)) rfl hc2 ?_
  refine Ex_go 1 (pc' := 1481) (L' := [some (.ref 2500), some (.ref 0), some (.ref 1000), some (.ref 2000), some (.int x4), none, none, none]) (st' := [.ref 2000, .int (xs (Int32.toNatClampNeg (x4 + (2 : Int32)))), .int (xs (Int32.toNatClampNeg (x4 + (1 : Int32)))), .ref 0]) (σ' := (S, M, O)) (rfl) ?_
  obtain ⟨r3, S5, O6, hx4, hF⟩ := b3_i hF
  refine Ex_callK (K1 := 1) (K2 := K) (kind := 4) (y := 191) (as := [.ref 0, .int (xs (Int32.toNatClampNeg (x4 + (1 : Int32)))), .int (xs (Int32.toNatClampNeg (x4 + (2 : Int32)))), .ref 2000]) (rest := []) (L0 := [some (.ref 0), some (.int (xs (Int32.toNatClampNeg (x4 + (1 : Int32))))), some (.int (xs (Int32.toNatClampNeg (x4 + (2 : Int32))))), some (.ref 2000), none]) (d' := 35) (v := some (.int r3)) (σ1 := (S5, M, O6)) rfl rfl mt_191 rfl rfl (by omega) (X_l_find (Nat.le_refl _) _ _ _ _ _ _ _ hx4) (Ex_st (st2 := [.int r3]) rfl ?_) (by omega)
  refine Ex_go 6 (pc' := 1492) (L' := [some (.ref 2500), some (.ref 0), some (.ref 1000), some (.ref 2000), some (.int x4), some (.int r3), none, none]) (st' := [.int (x4 + (1 : Int32)), .ref 2500, .ref 1000]) (σ' := (S5, M, O6)) (rfl) ?_
  obtain ⟨hc7, hF⟩ := ck_i hF
  refine Ex_chk (b := ib (x4 + (1 : Int32)) nL) (pc' := 1493) (L' := [some (.ref 2500), some (.ref 0), some (.ref 1000), some (.ref 2000), some (.int x4), some (.int r3), none, none]) (st' := [.int (xs (Int32.toNatClampNeg (x4 + (1 : Int32)))), .ref 1000]) (σ' := (S5, M, O6)) rfl hc7 ?_
  refine Ex_go 4 (pc' := 1498) (L' := [some (.ref 2500), some (.ref 0), some (.ref 1000), some (.ref 2000), some (.int x4), some (.int r3), none, none]) (st' := [.int (x4 + (2 : Int32)), .ref 2500, .int (xs (Int32.toNatClampNeg (x4 + (1 : Int32)))), .ref 1000]) (σ' := (S5, M, O6)) (rfl) ?_
  obtain ⟨hc8, hF⟩ := ck_i hF
  refine Ex_chk (b := ib (x4 + (2 : Int32)) nL) (pc' := 1499) (L' := [some (.ref 2500), some (.ref 0), some (.ref 1000), some (.ref 2000), some (.int x4), some (.int r3), none, none]) (st' := [.int (xs (Int32.toNatClampNeg (x4 + (2 : Int32)))), .int (xs (Int32.toNatClampNeg (x4 + (1 : Int32)))), .ref 1000]) (σ' := (S5, M, O6)) rfl hc8 ?_
  obtain ⟨r9, M11, hx10, hF⟩ := b2_i hF
  refine Ex_callK (K1 := 0) (K2 := K) (kind := 2) (y := 194) (as := [.ref 1000, .int (xs (Int32.toNatClampNeg (x4 + (1 : Int32)))), .int (xs (Int32.toNatClampNeg (x4 + (2 : Int32))))]) (rest := []) (L0 := [some (.ref 1000), some (.int (xs (Int32.toNatClampNeg (x4 + (1 : Int32))))), some (.int (xs (Int32.toNatClampNeg (x4 + (2 : Int32))))), none, none, none, none]) (d' := 32) (v := some (.int r9)) (σ1 := (S5, M11, O6)) rfl rfl mt_194 rfl rfl (by omega) (X_m_find (Nat.le_refl _) _ _ _ _ _ hx10) (Ex_st (st2 := [.int r9]) rfl ?_) (by omega)
  refine Ex_go 2 (pc' := 1505) (L' := [some (.ref 2500), some (.ref 0), some (.ref 1000), some (.ref 2000), some (.int x4), some (.int r3), some (.int r9), none]) (st' := [.ref 1000]) (σ' := (S5, M11, O6)) (rfl) ?_
  obtain ⟨r12, hx13, hF⟩ := b1_i hF
  refine Ex_callK (K1 := 0) (K2 := K) (kind := 2) (y := 77) (as := [.ref 1000]) (rest := []) (L0 := [some (.ref 1000)]) (d' := 1) (v := some (.int r12)) (σ1 := (S5, M11, O6)) rfl rfl mt_77 rfl rfl (by omega) (X_m_thrown (Nat.le_refl _) _ _ hx13) (Ex_st (st2 := [.int r12]) rfl ?_) (by omega)
  refine Ex_go 2 (pc' := if r12 = r3 then 1515 else 1513) (L' := [some (.ref 2500), some (.ref 0), some (.ref 1000), some (.ref 2000), some (.int x4), some (.int r3), some (.int r9), none]) (st' := []) (σ' := (S5, M11, O6)) (rfl) ?_
  refine Ex_br (fun hc => ?_) (fun hc => ?_)
  · rw [if_pos hc] at hF
    refine Ex_go 2 (pc' := if ¬ r3 = 0 then 1532 else 1520) (L' := [some (.ref 2500), some (.ref 0), some (.ref 1000), some (.ref 2000), some (.int x4), some (.int r3), some (.int r9), none]) (st' := []) (σ' := (S5, M11, O6)) (rfl) ?_
    refine Ex_brN (fun hc => ?_) (fun hc => ?_)
    · rw [if_pos hc] at hF
      refine Ex_go 2 (pc' := 1522) (L' := [some (.ref 2500), some (.ref 0), some (.ref 1000), some (.ref 2000), some (.int x4), some (.int r3), some (.int r9), none]) (st' := [.int (0 : Int32), .ref 2000]) (σ' := (S5, M11, O6)) (rfl) ?_
      refine Ex_chk (b := ib (0 : Int32) 1) (pc' := 1523) (L' := [some (.ref 2500), some (.ref 0), some (.ref 1000), some (.ref 2000), some (.int x4), some (.int r3), some (.int r9), none]) (st' := [.long (al O6 2000 (Int32.toNatClampNeg (0 : Int32)))]) (σ' := (S5, M11, O6)) rfl (by decide) ?_
      refine Ex_go 4 (pc' := if (lg_cmp (al O6 2000 (Int32.toNatClampNeg (0 : Int32))) (Int32.toInt64 r9)) = 0 then 1532 else 1530) (L' := [some (.ref 2500), some (.ref 0), some (.ref 1000), some (.ref 2000), some (.int x4), some (.int r3), some (.int r9), none]) (st' := []) (σ' := (S5, M11, O6)) (rfl) ?_
      refine Ex_brI lc_eq (fun hc => ?_) (fun hc => ?_)
      · rw [if_pos hc] at hF
        exact Ex_mono (L := [some (.ref 2500), some (.ref 0), some (.ref 1000), some (.ref 2000), some (.int x4), none, none, none]) (Le_s (Le_s (Le_s (Le_s (Le_s (Le_n (Le_n (Le_n (Le_0))))))))) (X_l_law_1532 hd hk23 _ _ _ _ _ _ _ _ hF) (Nat.le_refl _) (by omega)
      · rw [if_neg hc] at hF
        refine Ex_go 1 (pc' := 1531) (L' := [some (.ref 2500), some (.ref 0), some (.ref 1000), some (.ref 2000), some (.int x4), some (.int r3), some (.int r9), none]) (st' := [.int (0 : Int32)]) (σ' := (S5, M11, O6)) (rfl) ?_
        cases hF
        exact Ex_fin rfl
    · rw [if_neg hc] at hF
      exact Ex_mono (L := [some (.ref 2500), some (.ref 0), some (.ref 1000), some (.ref 2000), some (.int x4), none, none, none]) (Le_s (Le_s (Le_s (Le_s (Le_s (Le_n (Le_n (Le_n (Le_0))))))))) (X_l_law_1532 hd hk23 _ _ _ _ _ _ _ _ hF) (Nat.le_refl _) (by omega)
  · rw [if_neg hc] at hF
    refine Ex_go 1 (pc' := 1514) (L' := [some (.ref 2500), some (.ref 0), some (.ref 1000), some (.ref 2000), some (.int x4), some (.int r3), some (.int r9), none]) (st' := [.int (0 : Int32)]) (σ' := (S5, M11, O6)) (rfl) ?_
    cases hF
    exact Ex_fin rfl
def F_l_law_1628 (nL : Nat) (xs : Nat → Int32) (k23 : Int32 → Sto → Sto → Sto → Option (Int32 × Sto × Sto × Sto)) (x4 : Int32) (S : Sto) (M : Sto) (O : Sto) : Option (Int32 × Sto × Sto × Sto) := F_l_law_2537 nL xs k23 x4 S M O
set_option maxRecDepth 100000 in
theorem X_l_law_1628 {nL : Nat} {xs : Nat → Int32} {d : Nat} (hd : 98 ≤ d) {K : Nat} {k23 : Int32 → Sto → Sto → Sto → Option (Int32 × Sto × Sto × Sto)} (hk23 : ∀ (x4 : Int32) (S : Sto) (M : Sto) (O : Sto) (r : Int32) (S' : Sto) (M' : Sto) (O' : Sto), k23 x4 S M O = some (r, S', M', O') → EX nL xs K MI_281 d 23 [some (.ref 2500), some (.ref 0), some (.ref 1000), some (.ref 2000), some (.int x4), none, none, none] [] (S, M, O) (.inl (some (.int r))) (S', M', O')) : ∀ (x4 : Int32) (S : Sto) (M : Sto) (O : Sto) (r : Int32) (S' : Sto) (M' : Sto) (O' : Sto), F_l_law_1628 nL xs k23 x4 S M O = some (r, S', M', O') → EX nL xs K MI_281 d 1628 [some (.ref 2500), some (.ref 0), some (.ref 1000), some (.ref 2000), some (.int x4), none, none, none] [] (S, M, O) (.inl (some (.int r))) (S', M', O') := by
  intro x4 S M O r S' M' O' hF
  unfold F_l_law_1628 at hF
  refine Ex_go 1 (pc' := 2537) (L' := [some (.ref 2500), some (.ref 0), some (.ref 1000), some (.ref 2000), some (.int x4), none, none, none]) (st' := []) (σ' := (S, M, O)) (rfl) ?_
  exact Ex_mono (L := [some (.ref 2500), some (.ref 0), some (.ref 1000), some (.ref 2000), some (.int x4), none, none, none]) (Le_s (Le_s (Le_s (Le_s (Le_s (Le_n (Le_n (Le_n (Le_0))))))))) (X_l_law_2537 hd hk23 _ _ _ _ _ _ _ _ hF) (Nat.le_refl _) (by omega)
def F_l_law_1595 (nL : Nat) (xs : Nat → Int32) (k23 : Int32 → Sto → Sto → Sto → Option (Int32 × Sto × Sto × Sto)) (x4 : Int32) (x5 : Int32) (s1 : Int32) (s2 : Int32) (s3 : Int32) (S : Sto) (M : Sto) (O : Sto) : Option (Int32 × Sto × Sto × Sto) := b2 (F_m_parts s1 s2 s3 M) (fun r1 M3 => b1 (F_m_thrown M3) (fun r4 => if r4 = x5 then if x5 = 0 then if (al O 2000 (Int32.toNatClampNeg (0 : Int32))) = (Int32.toInt64 r1) then F_l_law_1628 nL xs k23 x4 S M3 O else some ((0 : Int32), S, M3, O) else F_l_law_1628 nL xs k23 x4 S M3 O else some ((0 : Int32), S, M3, O)))
set_option maxRecDepth 100000 in
theorem X_l_law_1595 {nL : Nat} {xs : Nat → Int32} {d : Nat} (hd : 98 ≤ d) {K : Nat} {k23 : Int32 → Sto → Sto → Sto → Option (Int32 × Sto × Sto × Sto)} (hk23 : ∀ (x4 : Int32) (S : Sto) (M : Sto) (O : Sto) (r : Int32) (S' : Sto) (M' : Sto) (O' : Sto), k23 x4 S M O = some (r, S', M', O') → EX nL xs K MI_281 d 23 [some (.ref 2500), some (.ref 0), some (.ref 1000), some (.ref 2000), some (.int x4), none, none, none] [] (S, M, O) (.inl (some (.int r))) (S', M', O')) : ∀ (x4 : Int32) (x5 : Int32) (s1 : Int32) (s2 : Int32) (s3 : Int32) (S : Sto) (M : Sto) (O : Sto) (r : Int32) (S' : Sto) (M' : Sto) (O' : Sto), F_l_law_1595 nL xs k23 x4 x5 s1 s2 s3 S M O = some (r, S', M', O') → EX nL xs K MI_281 d 1595 [some (.ref 2500), some (.ref 0), some (.ref 1000), some (.ref 2000), some (.int x4), some (.int x5), none, none] [.int s3, .int s2, .int s1, .ref 1000] (S, M, O) (.inl (some (.int r))) (S', M', O') := by
  intro x4 x5 s1 s2 s3 S M O r S' M' O' hF
  unfold F_l_law_1595 at hF
  obtain ⟨r1, M3, hx2, hF⟩ := b2_i hF
  refine Ex_callK (K1 := 0) (K2 := K) (kind := 2) (y := 205) (as := [.ref 1000, .int s1, .int s2, .int s3]) (rest := []) (L0 := [some (.ref 1000), some (.int s1), some (.int s2), some (.int s3)]) (d' := 3) (v := some (.int r1)) (σ1 := (S, M3, O)) rfl rfl mt_205 rfl rfl (by omega) (X_m_parts (Nat.le_refl _) _ _ _ _ _ _ hx2) (Ex_st (st2 := [.int r1]) rfl ?_) (by omega)
  refine Ex_go 2 (pc' := 1601) (L' := [some (.ref 2500), some (.ref 0), some (.ref 1000), some (.ref 2000), some (.int x4), some (.int x5), some (.int r1), none]) (st' := [.ref 1000]) (σ' := (S, M3, O)) (rfl) ?_
  obtain ⟨r4, hx5, hF⟩ := b1_i hF
  refine Ex_callK (K1 := 0) (K2 := K) (kind := 2) (y := 77) (as := [.ref 1000]) (rest := []) (L0 := [some (.ref 1000)]) (d' := 1) (v := some (.int r4)) (σ1 := (S, M3, O)) rfl rfl mt_77 rfl rfl (by omega) (X_m_thrown (Nat.le_refl _) _ _ hx5) (Ex_st (st2 := [.int r4]) rfl ?_) (by omega)
  refine Ex_go 2 (pc' := if r4 = x5 then 1611 else 1609) (L' := [some (.ref 2500), some (.ref 0), some (.ref 1000), some (.ref 2000), some (.int x4), some (.int x5), some (.int r1), none]) (st' := []) (σ' := (S, M3, O)) (rfl) ?_
  refine Ex_br (fun hc => ?_) (fun hc => ?_)
  · rw [if_pos hc] at hF
    refine Ex_go 2 (pc' := if ¬ x5 = 0 then 1628 else 1616) (L' := [some (.ref 2500), some (.ref 0), some (.ref 1000), some (.ref 2000), some (.int x4), some (.int x5), some (.int r1), none]) (st' := []) (σ' := (S, M3, O)) (rfl) ?_
    refine Ex_brN (fun hc => ?_) (fun hc => ?_)
    · rw [if_pos hc] at hF
      refine Ex_go 2 (pc' := 1618) (L' := [some (.ref 2500), some (.ref 0), some (.ref 1000), some (.ref 2000), some (.int x4), some (.int x5), some (.int r1), none]) (st' := [.int (0 : Int32), .ref 2000]) (σ' := (S, M3, O)) (rfl) ?_
      refine Ex_chk (b := ib (0 : Int32) 1) (pc' := 1619) (L' := [some (.ref 2500), some (.ref 0), some (.ref 1000), some (.ref 2000), some (.int x4), some (.int x5), some (.int r1), none]) (st' := [.long (al O 2000 (Int32.toNatClampNeg (0 : Int32)))]) (σ' := (S, M3, O)) rfl (by decide) ?_
      refine Ex_go 4 (pc' := if (lg_cmp (al O 2000 (Int32.toNatClampNeg (0 : Int32))) (Int32.toInt64 r1)) = 0 then 1628 else 1626) (L' := [some (.ref 2500), some (.ref 0), some (.ref 1000), some (.ref 2000), some (.int x4), some (.int x5), some (.int r1), none]) (st' := []) (σ' := (S, M3, O)) (rfl) ?_
      refine Ex_brI lc_eq (fun hc => ?_) (fun hc => ?_)
      · rw [if_pos hc] at hF
        exact Ex_mono (L := [some (.ref 2500), some (.ref 0), some (.ref 1000), some (.ref 2000), some (.int x4), none, none, none]) (Le_s (Le_s (Le_s (Le_s (Le_s (Le_n (Le_n (Le_n (Le_0))))))))) (X_l_law_1628 hd hk23 _ _ _ _ _ _ _ _ hF) (Nat.le_refl _) (by omega)
      · rw [if_neg hc] at hF
        refine Ex_go 1 (pc' := 1627) (L' := [some (.ref 2500), some (.ref 0), some (.ref 1000), some (.ref 2000), some (.int x4), some (.int x5), some (.int r1), none]) (st' := [.int (0 : Int32)]) (σ' := (S, M3, O)) (rfl) ?_
        cases hF
        exact Ex_fin rfl
    · rw [if_neg hc] at hF
      exact Ex_mono (L := [some (.ref 2500), some (.ref 0), some (.ref 1000), some (.ref 2000), some (.int x4), none, none, none]) (Le_s (Le_s (Le_s (Le_s (Le_s (Le_n (Le_n (Le_n (Le_0))))))))) (X_l_law_1628 hd hk23 _ _ _ _ _ _ _ _ hF) (Nat.le_refl _) (by omega)
  · rw [if_neg hc] at hF
    refine Ex_go 1 (pc' := 1610) (L' := [some (.ref 2500), some (.ref 0), some (.ref 1000), some (.ref 2000), some (.int x4), some (.int x5), some (.int r1), none]) (st' := [.int (0 : Int32)]) (σ' := (S, M3, O)) (rfl) ?_
    cases hF
    exact Ex_fin rfl
def F_l_law_1562 (nL : Nat) (xs : Nat → Int32) (k23 : Int32 → Sto → Sto → Sto → Option (Int32 × Sto × Sto × Sto)) (x4 : Int32) (s1 : Int32) (s2 : Int32) (s3 : Int32) (S : Sto) (M : Sto) (O : Sto) : Option (Int32 × Sto × Sto × Sto) := b3 (F_l_parts s1 s2 s3 S O) (fun r1 S3 O4 => ck (ib (x4 + (1 : Int32)) nL) (ck (ib (x4 + (2 : Int32)) nL) (ck (ib (x4 + (3 : Int32)) nL) (if (xs (Int32.toNatClampNeg (x4 + (3 : Int32)))) = 0 then F_l_law_1595 nL xs k23 x4 r1 (xs (Int32.toNatClampNeg (x4 + (1 : Int32)))) (xs (Int32.toNatClampNeg (x4 + (2 : Int32)))) (0 : Int32) S3 M O4 else F_l_law_1595 nL xs k23 x4 r1 (xs (Int32.toNatClampNeg (x4 + (1 : Int32)))) (xs (Int32.toNatClampNeg (x4 + (2 : Int32)))) (1 : Int32) S3 M O4))))
set_option maxRecDepth 100000 in
theorem X_l_law_1562 {nL : Nat} {xs : Nat → Int32} {d : Nat} (hd : 98 ≤ d) {K : Nat} {k23 : Int32 → Sto → Sto → Sto → Option (Int32 × Sto × Sto × Sto)} (hk23 : ∀ (x4 : Int32) (S : Sto) (M : Sto) (O : Sto) (r : Int32) (S' : Sto) (M' : Sto) (O' : Sto), k23 x4 S M O = some (r, S', M', O') → EX nL xs K MI_281 d 23 [some (.ref 2500), some (.ref 0), some (.ref 1000), some (.ref 2000), some (.int x4), none, none, none] [] (S, M, O) (.inl (some (.int r))) (S', M', O')) : ∀ (x4 : Int32) (s1 : Int32) (s2 : Int32) (s3 : Int32) (S : Sto) (M : Sto) (O : Sto) (r : Int32) (S' : Sto) (M' : Sto) (O' : Sto), F_l_law_1562 nL xs k23 x4 s1 s2 s3 S M O = some (r, S', M', O') → EX nL xs (K + 1) MI_281 d 1562 [some (.ref 2500), some (.ref 0), some (.ref 1000), some (.ref 2000), some (.int x4), none, none, none] [.int s3, .int s2, .int s1, .ref 0] (S, M, O) (.inl (some (.int r))) (S', M', O') := by
  intro x4 s1 s2 s3 S M O r S' M' O' hF
  unfold F_l_law_1562 at hF
  refine Ex_go 1 (pc' := 1563) (L' := [some (.ref 2500), some (.ref 0), some (.ref 1000), some (.ref 2000), some (.int x4), none, none, none]) (st' := [.ref 2000, .int s3, .int s2, .int s1, .ref 0]) (σ' := (S, M, O)) (rfl) ?_
  obtain ⟨r1, S3, O4, hx2, hF⟩ := b3_i hF
  refine Ex_callK (K1 := 1) (K2 := K) (kind := 4) (y := 202) (as := [.ref 0, .int s1, .int s2, .int s3, .ref 2000]) (rest := []) (L0 := [some (.ref 0), some (.int s1), some (.int s2), some (.int s3), some (.ref 2000), none]) (d' := 9) (v := some (.int r1)) (σ1 := (S3, M, O4)) rfl rfl mt_202 rfl rfl (by omega) (X_l_parts (Nat.le_refl _) _ _ _ _ _ _ _ _ hx2) (Ex_st (st2 := [.int r1]) rfl ?_) (by omega)
  refine Ex_go 6 (pc' := 1574) (L' := [some (.ref 2500), some (.ref 0), some (.ref 1000), some (.ref 2000), some (.int x4), some (.int r1), none, none]) (st' := [.int (x4 + (1 : Int32)), .ref 2500, .ref 1000]) (σ' := (S3, M, O4)) (rfl) ?_
  obtain ⟨hc5, hF⟩ := ck_i hF
  refine Ex_chk (b := ib (x4 + (1 : Int32)) nL) (pc' := 1575) (L' := [some (.ref 2500), some (.ref 0), some (.ref 1000), some (.ref 2000), some (.int x4), some (.int r1), none, none]) (st' := [.int (xs (Int32.toNatClampNeg (x4 + (1 : Int32)))), .ref 1000]) (σ' := (S3, M, O4)) rfl hc5 ?_
  refine Ex_go 4 (pc' := 1580) (L' := [some (.ref 2500), some (.ref 0), some (.ref 1000), some (.ref 2000), some (.int x4), some (.int r1), none, none]) (st' := [.int (x4 + (2 : Int32)), .ref 2500, .int (xs (Int32.toNatClampNeg (x4 + (1 : Int32)))), .ref 1000]) (σ' := (S3, M, O4)) (rfl) ?_
  obtain ⟨hc6, hF⟩ := ck_i hF
  refine Ex_chk (b := ib (x4 + (2 : Int32)) nL) (pc' := 1581) (L' := [some (.ref 2500), some (.ref 0), some (.ref 1000), some (.ref 2000), some (.int x4), some (.int r1), none, none]) (st' := [.int (xs (Int32.toNatClampNeg (x4 + (2 : Int32)))), .int (xs (Int32.toNatClampNeg (x4 + (1 : Int32)))), .ref 1000]) (σ' := (S3, M, O4)) rfl hc6 ?_
  refine Ex_go 4 (pc' := 1586) (L' := [some (.ref 2500), some (.ref 0), some (.ref 1000), some (.ref 2000), some (.int x4), some (.int r1), none, none]) (st' := [.int (x4 + (3 : Int32)), .ref 2500, .int (xs (Int32.toNatClampNeg (x4 + (2 : Int32)))), .int (xs (Int32.toNatClampNeg (x4 + (1 : Int32)))), .ref 1000]) (σ' := (S3, M, O4)) (rfl) ?_
  obtain ⟨hc7, hF⟩ := ck_i hF
  refine Ex_chk (b := ib (x4 + (3 : Int32)) nL) (pc' := 1587) (L' := [some (.ref 2500), some (.ref 0), some (.ref 1000), some (.ref 2000), some (.int x4), some (.int r1), none, none]) (st' := [.int (xs (Int32.toNatClampNeg (x4 + (3 : Int32)))), .int (xs (Int32.toNatClampNeg (x4 + (2 : Int32)))), .int (xs (Int32.toNatClampNeg (x4 + (1 : Int32)))), .ref 1000]) (σ' := (S3, M, O4)) rfl hc7 ?_
  refine Ex_go 1 (pc' := if (xs (Int32.toNatClampNeg (x4 + (3 : Int32)))) = 0 then 1594 else 1590) (L' := [some (.ref 2500), some (.ref 0), some (.ref 1000), some (.ref 2000), some (.int x4), some (.int r1), none, none]) (st' := [.int (xs (Int32.toNatClampNeg (x4 + (2 : Int32)))), .int (xs (Int32.toNatClampNeg (x4 + (1 : Int32)))), .ref 1000]) (σ' := (S3, M, O4)) (rfl) ?_
  refine Ex_br (fun hc => ?_) (fun hc => ?_)
  · rw [if_pos hc] at hF
    refine Ex_go 1 (pc' := 1595) (L' := [some (.ref 2500), some (.ref 0), some (.ref 1000), some (.ref 2000), some (.int x4), some (.int r1), none, none]) (st' := [.int (0 : Int32), .int (xs (Int32.toNatClampNeg (x4 + (2 : Int32)))), .int (xs (Int32.toNatClampNeg (x4 + (1 : Int32)))), .ref 1000]) (σ' := (S3, M, O4)) (rfl) ?_
    exact Ex_mono (L := [some (.ref 2500), some (.ref 0), some (.ref 1000), some (.ref 2000), some (.int x4), some (.int r1), none, none]) (Le_s (Le_s (Le_s (Le_s (Le_s (Le_s (Le_n (Le_n (Le_0))))))))) (X_l_law_1595 hd hk23 _ _ _ _ _ _ _ _ _ _ _ _ hF) (Nat.le_refl _) (by omega)
  · rw [if_neg hc] at hF
    refine Ex_go 2 (pc' := 1595) (L' := [some (.ref 2500), some (.ref 0), some (.ref 1000), some (.ref 2000), some (.int x4), some (.int r1), none, none]) (st' := [.int (1 : Int32), .int (xs (Int32.toNatClampNeg (x4 + (2 : Int32)))), .int (xs (Int32.toNatClampNeg (x4 + (1 : Int32)))), .ref 1000]) (σ' := (S3, M, O4)) (rfl) ?_
    exact Ex_mono (L := [some (.ref 2500), some (.ref 0), some (.ref 1000), some (.ref 2000), some (.int x4), some (.int r1), none, none]) (Le_s (Le_s (Le_s (Le_s (Le_s (Le_s (Le_n (Le_n (Le_0))))))))) (X_l_law_1595 hd hk23 _ _ _ _ _ _ _ _ _ _ _ _ hF) (Nat.le_refl _) (by omega)
def F_l_law_1535 (nL : Nat) (xs : Nat → Int32) (k23 : Int32 → Sto → Sto → Sto → Option (Int32 × Sto × Sto × Sto)) (x4 : Int32) (S : Sto) (M : Sto) (O : Sto) : Option (Int32 × Sto × Sto × Sto) := ck (ib (x4 + (1 : Int32)) nL) (ck (ib (x4 + (2 : Int32)) nL) (ck (ib (x4 + (3 : Int32)) nL) (if (xs (Int32.toNatClampNeg (x4 + (3 : Int32)))) = 0 then F_l_law_1562 nL xs k23 x4 (xs (Int32.toNatClampNeg (x4 + (1 : Int32)))) (xs (Int32.toNatClampNeg (x4 + (2 : Int32)))) (0 : Int32) S M O else F_l_law_1562 nL xs k23 x4 (xs (Int32.toNatClampNeg (x4 + (1 : Int32)))) (xs (Int32.toNatClampNeg (x4 + (2 : Int32)))) (1 : Int32) S M O)))
set_option maxRecDepth 100000 in
theorem X_l_law_1535 {nL : Nat} {xs : Nat → Int32} {d : Nat} (hd : 98 ≤ d) {K : Nat} {k23 : Int32 → Sto → Sto → Sto → Option (Int32 × Sto × Sto × Sto)} (hk23 : ∀ (x4 : Int32) (S : Sto) (M : Sto) (O : Sto) (r : Int32) (S' : Sto) (M' : Sto) (O' : Sto), k23 x4 S M O = some (r, S', M', O') → EX nL xs K MI_281 d 23 [some (.ref 2500), some (.ref 0), some (.ref 1000), some (.ref 2000), some (.int x4), none, none, none] [] (S, M, O) (.inl (some (.int r))) (S', M', O')) : ∀ (x4 : Int32) (S : Sto) (M : Sto) (O : Sto) (r : Int32) (S' : Sto) (M' : Sto) (O' : Sto), F_l_law_1535 nL xs k23 x4 S M O = some (r, S', M', O') → EX nL xs (K + 1) MI_281 d 1535 [some (.ref 2500), some (.ref 0), some (.ref 1000), some (.ref 2000), some (.int x4), none, none, none] [] (S, M, O) (.inl (some (.int r))) (S', M', O') := by
  intro x4 S M O r S' M' O' hF
  unfold F_l_law_1535 at hF
  refine Ex_go 5 (pc' := 1541) (L' := [some (.ref 2500), some (.ref 0), some (.ref 1000), some (.ref 2000), some (.int x4), none, none, none]) (st' := [.int (x4 + (1 : Int32)), .ref 2500, .ref 0]) (σ' := (S, M, O)) (rfl) ?_
  obtain ⟨hc1, hF⟩ := ck_i hF
  refine Ex_chk (b := ib (x4 + (1 : Int32)) nL) (pc' := 1542) (L' := [some (.ref 2500), some (.ref 0), some (.ref 1000), some (.ref 2000), some (.int x4), none, none, none]) (st' := [.int (xs (Int32.toNatClampNeg (x4 + (1 : Int32)))), .ref 0]) (σ' := (S, M, O)) rfl hc1 ?_
  refine Ex_go 4 (pc' := 1547) (L' := [some (.ref 2500), some (.ref 0), some (.ref 1000), some (.ref 2000), some (.int x4), none, none, none]) (st' := [.int (x4 + (2 : Int32)), .ref 2500, .int (xs (Int32.toNatClampNeg (x4 + (1 : Int32)))), .ref 0]) (σ' := (S, M, O)) (rfl) ?_
  obtain ⟨hc2, hF⟩ := ck_i hF
  refine Ex_chk (b := ib (x4 + (2 : Int32)) nL) (pc' := 1548) (L' := [some (.ref 2500), some (.ref 0), some (.ref 1000), some (.ref 2000), some (.int x4), none, none, none]) (st' := [.int (xs (Int32.toNatClampNeg (x4 + (2 : Int32)))), .int (xs (Int32.toNatClampNeg (x4 + (1 : Int32)))), .ref 0]) (σ' := (S, M, O)) rfl hc2 ?_
  refine Ex_go 4 (pc' := 1553) (L' := [some (.ref 2500), some (.ref 0), some (.ref 1000), some (.ref 2000), some (.int x4), none, none, none]) (st' := [.int (x4 + (3 : Int32)), .ref 2500, .int (xs (Int32.toNatClampNeg (x4 + (2 : Int32)))), .int (xs (Int32.toNatClampNeg (x4 + (1 : Int32)))), .ref 0]) (σ' := (S, M, O)) (rfl) ?_
  obtain ⟨hc3, hF⟩ := ck_i hF
  refine Ex_chk (b := ib (x4 + (3 : Int32)) nL) (pc' := 1554) (L' := [some (.ref 2500), some (.ref 0), some (.ref 1000), some (.ref 2000), some (.int x4), none, none, none]) (st' := [.int (xs (Int32.toNatClampNeg (x4 + (3 : Int32)))), .int (xs (Int32.toNatClampNeg (x4 + (2 : Int32)))), .int (xs (Int32.toNatClampNeg (x4 + (1 : Int32)))), .ref 0]) (σ' := (S, M, O)) rfl hc3 ?_
  refine Ex_go 1 (pc' := if (xs (Int32.toNatClampNeg (x4 + (3 : Int32)))) = 0 then 1561 else 1557) (L' := [some (.ref 2500), some (.ref 0), some (.ref 1000), some (.ref 2000), some (.int x4), none, none, none]) (st' := [.int (xs (Int32.toNatClampNeg (x4 + (2 : Int32)))), .int (xs (Int32.toNatClampNeg (x4 + (1 : Int32)))), .ref 0]) (σ' := (S, M, O)) (rfl) ?_
  refine Ex_br (fun hc => ?_) (fun hc => ?_)
  · rw [if_pos hc] at hF
    refine Ex_go 1 (pc' := 1562) (L' := [some (.ref 2500), some (.ref 0), some (.ref 1000), some (.ref 2000), some (.int x4), none, none, none]) (st' := [.int (0 : Int32), .int (xs (Int32.toNatClampNeg (x4 + (2 : Int32)))), .int (xs (Int32.toNatClampNeg (x4 + (1 : Int32)))), .ref 0]) (σ' := (S, M, O)) (rfl) ?_
    exact Ex_mono (L := [some (.ref 2500), some (.ref 0), some (.ref 1000), some (.ref 2000), some (.int x4), none, none, none]) (Le_s (Le_s (Le_s (Le_s (Le_s (Le_n (Le_n (Le_n (Le_0))))))))) (X_l_law_1562 hd hk23 _ _ _ _ _ _ _ _ _ _ _ hF) (Nat.le_refl _) (by omega)
  · rw [if_neg hc] at hF
    refine Ex_go 2 (pc' := 1562) (L' := [some (.ref 2500), some (.ref 0), some (.ref 1000), some (.ref 2000), some (.int x4), none, none, none]) (st' := [.int (1 : Int32), .int (xs (Int32.toNatClampNeg (x4 + (2 : Int32)))), .int (xs (Int32.toNatClampNeg (x4 + (1 : Int32)))), .ref 0]) (σ' := (S, M, O)) (rfl) ?_
    exact Ex_mono (L := [some (.ref 2500), some (.ref 0), some (.ref 1000), some (.ref 2000), some (.int x4), none, none, none]) (Le_s (Le_s (Le_s (Le_s (Le_s (Le_n (Le_n (Le_n (Le_0))))))))) (X_l_law_1562 hd hk23 _ _ _ _ _ _ _ _ _ _ _ hF) (Nat.le_refl _) (by omega)
def F_l_law_1695 (nL : Nat) (xs : Nat → Int32) (k23 : Int32 → Sto → Sto → Sto → Option (Int32 × Sto × Sto × Sto)) (x4 : Int32) (S : Sto) (M : Sto) (O : Sto) : Option (Int32 × Sto × Sto × Sto) := F_l_law_2537 nL xs k23 x4 S M O
set_option maxRecDepth 100000 in
theorem X_l_law_1695 {nL : Nat} {xs : Nat → Int32} {d : Nat} (hd : 98 ≤ d) {K : Nat} {k23 : Int32 → Sto → Sto → Sto → Option (Int32 × Sto × Sto × Sto)} (hk23 : ∀ (x4 : Int32) (S : Sto) (M : Sto) (O : Sto) (r : Int32) (S' : Sto) (M' : Sto) (O' : Sto), k23 x4 S M O = some (r, S', M', O') → EX nL xs K MI_281 d 23 [some (.ref 2500), some (.ref 0), some (.ref 1000), some (.ref 2000), some (.int x4), none, none, none] [] (S, M, O) (.inl (some (.int r))) (S', M', O')) : ∀ (x4 : Int32) (S : Sto) (M : Sto) (O : Sto) (r : Int32) (S' : Sto) (M' : Sto) (O' : Sto), F_l_law_1695 nL xs k23 x4 S M O = some (r, S', M', O') → EX nL xs K MI_281 d 1695 [some (.ref 2500), some (.ref 0), some (.ref 1000), some (.ref 2000), some (.int x4), none, none, none] [] (S, M, O) (.inl (some (.int r))) (S', M', O') := by
  intro x4 S M O r S' M' O' hF
  unfold F_l_law_1695 at hF
  refine Ex_go 1 (pc' := 2537) (L' := [some (.ref 2500), some (.ref 0), some (.ref 1000), some (.ref 2000), some (.int x4), none, none, none]) (st' := []) (σ' := (S, M, O)) (rfl) ?_
  exact Ex_mono (L := [some (.ref 2500), some (.ref 0), some (.ref 1000), some (.ref 2000), some (.int x4), none, none, none]) (Le_s (Le_s (Le_s (Le_s (Le_s (Le_n (Le_n (Le_n (Le_0))))))))) (X_l_law_2537 hd hk23 _ _ _ _ _ _ _ _ hF) (Nat.le_refl _) (by omega)
def F_l_law_1631 (nL : Nat) (xs : Nat → Int32) (k23 : Int32 → Sto → Sto → Sto → Option (Int32 × Sto × Sto × Sto)) (x4 : Int32) (S : Sto) (M : Sto) (O : Sto) : Option (Int32 × Sto × Sto × Sto) := ck (ib (x4 + (1 : Int32)) nL) (ck (ib (x4 + (2 : Int32)) nL) (b3 (F_l_divided (xs (Int32.toNatClampNeg (x4 + (1 : Int32)))) (xs (Int32.toNatClampNeg (x4 + (2 : Int32)))) S O) (fun r3 S5 O6 => ck (ib (x4 + (1 : Int32)) nL) (ck (ib (x4 + (2 : Int32)) nL) (b2 (F_m_divided (xs (Int32.toNatClampNeg (x4 + (1 : Int32)))) (xs (Int32.toNatClampNeg (x4 + (2 : Int32)))) M) (fun r9 M11 => b1 (F_m_thrown M11) (fun r12 => if r12 = r3 then if r3 = 0 then if (al O6 2000 (Int32.toNatClampNeg (0 : Int32))) = r9 then F_l_law_1695 nL xs k23 x4 S5 M11 O6 else some ((0 : Int32), S5, M11, O6) else F_l_law_1695 nL xs k23 x4 S5 M11 O6 else some ((0 : Int32), S5, M11, O6))))))))
set_option maxRecDepth 100000 in
theorem X_l_law_1631 {nL : Nat} {xs : Nat → Int32} {d : Nat} (hd : 98 ≤ d) {K : Nat} {k23 : Int32 → Sto → Sto → Sto → Option (Int32 × Sto × Sto × Sto)} (hk23 : ∀ (x4 : Int32) (S : Sto) (M : Sto) (O : Sto) (r : Int32) (S' : Sto) (M' : Sto) (O' : Sto), k23 x4 S M O = some (r, S', M', O') → EX nL xs K MI_281 d 23 [some (.ref 2500), some (.ref 0), some (.ref 1000), some (.ref 2000), some (.int x4), none, none, none] [] (S, M, O) (.inl (some (.int r))) (S', M', O')) : ∀ (x4 : Int32) (S : Sto) (M : Sto) (O : Sto) (r : Int32) (S' : Sto) (M' : Sto) (O' : Sto), F_l_law_1631 nL xs k23 x4 S M O = some (r, S', M', O') → EX nL xs (K + 1) MI_281 d 1631 [some (.ref 2500), some (.ref 0), some (.ref 1000), some (.ref 2000), some (.int x4), none, none, none] [] (S, M, O) (.inl (some (.int r))) (S', M', O') := by
  intro x4 S M O r S' M' O' hF
  unfold F_l_law_1631 at hF
  refine Ex_go 5 (pc' := 1637) (L' := [some (.ref 2500), some (.ref 0), some (.ref 1000), some (.ref 2000), some (.int x4), none, none, none]) (st' := [.int (x4 + (1 : Int32)), .ref 2500, .ref 0]) (σ' := (S, M, O)) (rfl) ?_
  obtain ⟨hc1, hF⟩ := ck_i hF
  refine Ex_chk (b := ib (x4 + (1 : Int32)) nL) (pc' := 1638) (L' := [some (.ref 2500), some (.ref 0), some (.ref 1000), some (.ref 2000), some (.int x4), none, none, none]) (st' := [.int (xs (Int32.toNatClampNeg (x4 + (1 : Int32)))), .ref 0]) (σ' := (S, M, O)) rfl hc1 ?_
  refine Ex_go 4 (pc' := 1643) (L' := [some (.ref 2500), some (.ref 0), some (.ref 1000), some (.ref 2000), some (.int x4), none, none, none]) (st' := [.int (x4 + (2 : Int32)), .ref 2500, .int (xs (Int32.toNatClampNeg (x4 + (1 : Int32)))), .ref 0]) (σ' := (S, M, O)) (rfl) ?_
  obtain ⟨hc2, hF⟩ := ck_i hF
  refine Ex_chk (b := ib (x4 + (2 : Int32)) nL) (pc' := 1644) (L' := [some (.ref 2500), some (.ref 0), some (.ref 1000), some (.ref 2000), some (.int x4), none, none, none]) (st' := [.int (xs (Int32.toNatClampNeg (x4 + (2 : Int32)))), .int (xs (Int32.toNatClampNeg (x4 + (1 : Int32)))), .ref 0]) (σ' := (S, M, O)) rfl hc2 ?_
  refine Ex_go 1 (pc' := 1645) (L' := [some (.ref 2500), some (.ref 0), some (.ref 1000), some (.ref 2000), some (.int x4), none, none, none]) (st' := [.ref 2000, .int (xs (Int32.toNatClampNeg (x4 + (2 : Int32)))), .int (xs (Int32.toNatClampNeg (x4 + (1 : Int32)))), .ref 0]) (σ' := (S, M, O)) (rfl) ?_
  obtain ⟨r3, S5, O6, hx4, hF⟩ := b3_i hF
  refine Ex_callK (K1 := 1) (K2 := K) (kind := 4) (y := 210) (as := [.ref 0, .int (xs (Int32.toNatClampNeg (x4 + (1 : Int32)))), .int (xs (Int32.toNatClampNeg (x4 + (2 : Int32)))), .ref 2000]) (rest := []) (L0 := [some (.ref 0), some (.int (xs (Int32.toNatClampNeg (x4 + (1 : Int32))))), some (.int (xs (Int32.toNatClampNeg (x4 + (2 : Int32))))), some (.ref 2000), none]) (d' := 9) (v := some (.int r3)) (σ1 := (S5, M, O6)) rfl rfl mt_210 rfl rfl (by omega) (X_l_divided (Nat.le_refl _) _ _ _ _ _ _ _ hx4) (Ex_st (st2 := [.int r3]) rfl ?_) (by omega)
  refine Ex_go 6 (pc' := 1656) (L' := [some (.ref 2500), some (.ref 0), some (.ref 1000), some (.ref 2000), some (.int x4), some (.int r3), none, none]) (st' := [.int (x4 + (1 : Int32)), .ref 2500, .ref 1000]) (σ' := (S5, M, O6)) (rfl) ?_
  obtain ⟨hc7, hF⟩ := ck_i hF
  refine Ex_chk (b := ib (x4 + (1 : Int32)) nL) (pc' := 1657) (L' := [some (.ref 2500), some (.ref 0), some (.ref 1000), some (.ref 2000), some (.int x4), some (.int r3), none, none]) (st' := [.int (xs (Int32.toNatClampNeg (x4 + (1 : Int32)))), .ref 1000]) (σ' := (S5, M, O6)) rfl hc7 ?_
  refine Ex_go 4 (pc' := 1662) (L' := [some (.ref 2500), some (.ref 0), some (.ref 1000), some (.ref 2000), some (.int x4), some (.int r3), none, none]) (st' := [.int (x4 + (2 : Int32)), .ref 2500, .int (xs (Int32.toNatClampNeg (x4 + (1 : Int32)))), .ref 1000]) (σ' := (S5, M, O6)) (rfl) ?_
  obtain ⟨hc8, hF⟩ := ck_i hF
  refine Ex_chk (b := ib (x4 + (2 : Int32)) nL) (pc' := 1663) (L' := [some (.ref 2500), some (.ref 0), some (.ref 1000), some (.ref 2000), some (.int x4), some (.int r3), none, none]) (st' := [.int (xs (Int32.toNatClampNeg (x4 + (2 : Int32)))), .int (xs (Int32.toNatClampNeg (x4 + (1 : Int32)))), .ref 1000]) (σ' := (S5, M, O6)) rfl hc8 ?_
  obtain ⟨r9, M11, hx10, hF⟩ := b2_i hF
  refine Ex_callK (K1 := 0) (K2 := K) (kind := 2) (y := 211) (as := [.ref 1000, .int (xs (Int32.toNatClampNeg (x4 + (1 : Int32)))), .int (xs (Int32.toNatClampNeg (x4 + (2 : Int32))))]) (rest := []) (L0 := [some (.ref 1000), some (.int (xs (Int32.toNatClampNeg (x4 + (1 : Int32))))), some (.int (xs (Int32.toNatClampNeg (x4 + (2 : Int32))))), none, none, none, none, none, none, none, none]) (d' := 3) (v := some (.long r9)) (σ1 := (S5, M11, O6)) rfl rfl mt_211 rfl rfl (by omega) (X_m_divided (Nat.le_refl _) _ _ _ _ _ hx10) (Ex_st (st2 := [.long r9]) rfl ?_) (by omega)
  refine Ex_go 2 (pc' := 1669) (L' := [some (.ref 2500), some (.ref 0), some (.ref 1000), some (.ref 2000), some (.int x4), some (.int r3), some (.long r9), none]) (st' := [.ref 1000]) (σ' := (S5, M11, O6)) (rfl) ?_
  obtain ⟨r12, hx13, hF⟩ := b1_i hF
  refine Ex_callK (K1 := 0) (K2 := K) (kind := 2) (y := 77) (as := [.ref 1000]) (rest := []) (L0 := [some (.ref 1000)]) (d' := 1) (v := some (.int r12)) (σ1 := (S5, M11, O6)) rfl rfl mt_77 rfl rfl (by omega) (X_m_thrown (Nat.le_refl _) _ _ hx13) (Ex_st (st2 := [.int r12]) rfl ?_) (by omega)
  refine Ex_go 2 (pc' := if r12 = r3 then 1679 else 1677) (L' := [some (.ref 2500), some (.ref 0), some (.ref 1000), some (.ref 2000), some (.int x4), some (.int r3), some (.long r9), none]) (st' := []) (σ' := (S5, M11, O6)) (rfl) ?_
  refine Ex_br (fun hc => ?_) (fun hc => ?_)
  · rw [if_pos hc] at hF
    refine Ex_go 2 (pc' := if ¬ r3 = 0 then 1695 else 1684) (L' := [some (.ref 2500), some (.ref 0), some (.ref 1000), some (.ref 2000), some (.int x4), some (.int r3), some (.long r9), none]) (st' := []) (σ' := (S5, M11, O6)) (rfl) ?_
    refine Ex_brN (fun hc => ?_) (fun hc => ?_)
    · rw [if_pos hc] at hF
      refine Ex_go 2 (pc' := 1686) (L' := [some (.ref 2500), some (.ref 0), some (.ref 1000), some (.ref 2000), some (.int x4), some (.int r3), some (.long r9), none]) (st' := [.int (0 : Int32), .ref 2000]) (σ' := (S5, M11, O6)) (rfl) ?_
      refine Ex_chk (b := ib (0 : Int32) 1) (pc' := 1687) (L' := [some (.ref 2500), some (.ref 0), some (.ref 1000), some (.ref 2000), some (.int x4), some (.int r3), some (.long r9), none]) (st' := [.long (al O6 2000 (Int32.toNatClampNeg (0 : Int32)))]) (σ' := (S5, M11, O6)) rfl (by decide) ?_
      refine Ex_go 3 (pc' := if (lg_cmp (al O6 2000 (Int32.toNatClampNeg (0 : Int32))) r9) = 0 then 1695 else 1693) (L' := [some (.ref 2500), some (.ref 0), some (.ref 1000), some (.ref 2000), some (.int x4), some (.int r3), some (.long r9), none]) (st' := []) (σ' := (S5, M11, O6)) (rfl) ?_
      refine Ex_brI lc_eq (fun hc => ?_) (fun hc => ?_)
      · rw [if_pos hc] at hF
        exact Ex_mono (L := [some (.ref 2500), some (.ref 0), some (.ref 1000), some (.ref 2000), some (.int x4), none, none, none]) (Le_s (Le_s (Le_s (Le_s (Le_s (Le_n (Le_n (Le_n (Le_0))))))))) (X_l_law_1695 hd hk23 _ _ _ _ _ _ _ _ hF) (Nat.le_refl _) (by omega)
      · rw [if_neg hc] at hF
        refine Ex_go 1 (pc' := 1694) (L' := [some (.ref 2500), some (.ref 0), some (.ref 1000), some (.ref 2000), some (.int x4), some (.int r3), some (.long r9), none]) (st' := [.int (0 : Int32)]) (σ' := (S5, M11, O6)) (rfl) ?_
        cases hF
        exact Ex_fin rfl
    · rw [if_neg hc] at hF
      exact Ex_mono (L := [some (.ref 2500), some (.ref 0), some (.ref 1000), some (.ref 2000), some (.int x4), none, none, none]) (Le_s (Le_s (Le_s (Le_s (Le_s (Le_n (Le_n (Le_n (Le_0))))))))) (X_l_law_1695 hd hk23 _ _ _ _ _ _ _ _ hF) (Nat.le_refl _) (by omega)
  · rw [if_neg hc] at hF
    refine Ex_go 1 (pc' := 1678) (L' := [some (.ref 2500), some (.ref 0), some (.ref 1000), some (.ref 2000), some (.int x4), some (.int r3), some (.long r9), none]) (st' := [.int (0 : Int32)]) (σ' := (S5, M11, O6)) (rfl) ?_
    cases hF
    exact Ex_fin rfl
def F_l_law_1763 (nL : Nat) (xs : Nat → Int32) (k23 : Int32 → Sto → Sto → Sto → Option (Int32 × Sto × Sto × Sto)) (x4 : Int32) (S : Sto) (M : Sto) (O : Sto) : Option (Int32 × Sto × Sto × Sto) := F_l_law_2537 nL xs k23 x4 S M O
set_option maxRecDepth 100000 in
theorem X_l_law_1763 {nL : Nat} {xs : Nat → Int32} {d : Nat} (hd : 98 ≤ d) {K : Nat} {k23 : Int32 → Sto → Sto → Sto → Option (Int32 × Sto × Sto × Sto)} (hk23 : ∀ (x4 : Int32) (S : Sto) (M : Sto) (O : Sto) (r : Int32) (S' : Sto) (M' : Sto) (O' : Sto), k23 x4 S M O = some (r, S', M', O') → EX nL xs K MI_281 d 23 [some (.ref 2500), some (.ref 0), some (.ref 1000), some (.ref 2000), some (.int x4), none, none, none] [] (S, M, O) (.inl (some (.int r))) (S', M', O')) : ∀ (x4 : Int32) (S : Sto) (M : Sto) (O : Sto) (r : Int32) (S' : Sto) (M' : Sto) (O' : Sto), F_l_law_1763 nL xs k23 x4 S M O = some (r, S', M', O') → EX nL xs K MI_281 d 1763 [some (.ref 2500), some (.ref 0), some (.ref 1000), some (.ref 2000), some (.int x4), none, none, none] [] (S, M, O) (.inl (some (.int r))) (S', M', O') := by
  intro x4 S M O r S' M' O' hF
  unfold F_l_law_1763 at hF
  refine Ex_go 1 (pc' := 2537) (L' := [some (.ref 2500), some (.ref 0), some (.ref 1000), some (.ref 2000), some (.int x4), none, none, none]) (st' := []) (σ' := (S, M, O)) (rfl) ?_
  exact Ex_mono (L := [some (.ref 2500), some (.ref 0), some (.ref 1000), some (.ref 2000), some (.int x4), none, none, none]) (Le_s (Le_s (Le_s (Le_s (Le_s (Le_n (Le_n (Le_n (Le_0))))))))) (X_l_law_2537 hd hk23 _ _ _ _ _ _ _ _ hF) (Nat.le_refl _) (by omega)
def F_l_law_1698 (nL : Nat) (xs : Nat → Int32) (k23 : Int32 → Sto → Sto → Sto → Option (Int32 × Sto × Sto × Sto)) (x4 : Int32) (S : Sto) (M : Sto) (O : Sto) : Option (Int32 × Sto × Sto × Sto) := ck (ib (x4 + (1 : Int32)) nL) (ck (ib (x4 + (2 : Int32)) nL) (b3 (F_l_primes (xs (Int32.toNatClampNeg (x4 + (1 : Int32)))) (xs (Int32.toNatClampNeg (x4 + (2 : Int32)))) S O) (fun r3 S5 O6 => ck (ib (x4 + (1 : Int32)) nL) (ck (ib (x4 + (2 : Int32)) nL) (b2 (F_m_primes (xs (Int32.toNatClampNeg (x4 + (1 : Int32)))) (xs (Int32.toNatClampNeg (x4 + (2 : Int32)))) M) (fun r9 M11 => b1 (F_m_thrown M11) (fun r12 => if r12 = r3 then if r3 = 0 then if (al O6 2000 (Int32.toNatClampNeg (0 : Int32))) = (Int32.toInt64 r9) then F_l_law_1763 nL xs k23 x4 S5 M11 O6 else some ((0 : Int32), S5, M11, O6) else F_l_law_1763 nL xs k23 x4 S5 M11 O6 else some ((0 : Int32), S5, M11, O6))))))))
set_option maxRecDepth 100000 in
theorem X_l_law_1698 {nL : Nat} {xs : Nat → Int32} {d : Nat} (hd : 98 ≤ d) {K : Nat} {k23 : Int32 → Sto → Sto → Sto → Option (Int32 × Sto × Sto × Sto)} (hk23 : ∀ (x4 : Int32) (S : Sto) (M : Sto) (O : Sto) (r : Int32) (S' : Sto) (M' : Sto) (O' : Sto), k23 x4 S M O = some (r, S', M', O') → EX nL xs K MI_281 d 23 [some (.ref 2500), some (.ref 0), some (.ref 1000), some (.ref 2000), some (.int x4), none, none, none] [] (S, M, O) (.inl (some (.int r))) (S', M', O')) : ∀ (x4 : Int32) (S : Sto) (M : Sto) (O : Sto) (r : Int32) (S' : Sto) (M' : Sto) (O' : Sto), F_l_law_1698 nL xs k23 x4 S M O = some (r, S', M', O') → EX nL xs (K + 1) MI_281 d 1698 [some (.ref 2500), some (.ref 0), some (.ref 1000), some (.ref 2000), some (.int x4), none, none, none] [] (S, M, O) (.inl (some (.int r))) (S', M', O') := by
  intro x4 S M O r S' M' O' hF
  unfold F_l_law_1698 at hF
  refine Ex_go 5 (pc' := 1704) (L' := [some (.ref 2500), some (.ref 0), some (.ref 1000), some (.ref 2000), some (.int x4), none, none, none]) (st' := [.int (x4 + (1 : Int32)), .ref 2500, .ref 0]) (σ' := (S, M, O)) (rfl) ?_
  obtain ⟨hc1, hF⟩ := ck_i hF
  refine Ex_chk (b := ib (x4 + (1 : Int32)) nL) (pc' := 1705) (L' := [some (.ref 2500), some (.ref 0), some (.ref 1000), some (.ref 2000), some (.int x4), none, none, none]) (st' := [.int (xs (Int32.toNatClampNeg (x4 + (1 : Int32)))), .ref 0]) (σ' := (S, M, O)) rfl hc1 ?_
  refine Ex_go 4 (pc' := 1710) (L' := [some (.ref 2500), some (.ref 0), some (.ref 1000), some (.ref 2000), some (.int x4), none, none, none]) (st' := [.int (x4 + (2 : Int32)), .ref 2500, .int (xs (Int32.toNatClampNeg (x4 + (1 : Int32)))), .ref 0]) (σ' := (S, M, O)) (rfl) ?_
  obtain ⟨hc2, hF⟩ := ck_i hF
  refine Ex_chk (b := ib (x4 + (2 : Int32)) nL) (pc' := 1711) (L' := [some (.ref 2500), some (.ref 0), some (.ref 1000), some (.ref 2000), some (.int x4), none, none, none]) (st' := [.int (xs (Int32.toNatClampNeg (x4 + (2 : Int32)))), .int (xs (Int32.toNatClampNeg (x4 + (1 : Int32)))), .ref 0]) (σ' := (S, M, O)) rfl hc2 ?_
  refine Ex_go 1 (pc' := 1712) (L' := [some (.ref 2500), some (.ref 0), some (.ref 1000), some (.ref 2000), some (.int x4), none, none, none]) (st' := [.ref 2000, .int (xs (Int32.toNatClampNeg (x4 + (2 : Int32)))), .int (xs (Int32.toNatClampNeg (x4 + (1 : Int32)))), .ref 0]) (σ' := (S, M, O)) (rfl) ?_
  obtain ⟨r3, S5, O6, hx4, hF⟩ := b3_i hF
  refine Ex_callK (K1 := 1) (K2 := K) (kind := 4) (y := 215) (as := [.ref 0, .int (xs (Int32.toNatClampNeg (x4 + (1 : Int32)))), .int (xs (Int32.toNatClampNeg (x4 + (2 : Int32)))), .ref 2000]) (rest := []) (L0 := [some (.ref 0), some (.int (xs (Int32.toNatClampNeg (x4 + (1 : Int32))))), some (.int (xs (Int32.toNatClampNeg (x4 + (2 : Int32))))), some (.ref 2000), none]) (d' := 9) (v := some (.int r3)) (σ1 := (S5, M, O6)) rfl rfl mt_215 rfl rfl (by omega) (X_l_primes (Nat.le_refl _) _ _ _ _ _ _ _ hx4) (Ex_st (st2 := [.int r3]) rfl ?_) (by omega)
  refine Ex_go 6 (pc' := 1723) (L' := [some (.ref 2500), some (.ref 0), some (.ref 1000), some (.ref 2000), some (.int x4), some (.int r3), none, none]) (st' := [.int (x4 + (1 : Int32)), .ref 2500, .ref 1000]) (σ' := (S5, M, O6)) (rfl) ?_
  obtain ⟨hc7, hF⟩ := ck_i hF
  refine Ex_chk (b := ib (x4 + (1 : Int32)) nL) (pc' := 1724) (L' := [some (.ref 2500), some (.ref 0), some (.ref 1000), some (.ref 2000), some (.int x4), some (.int r3), none, none]) (st' := [.int (xs (Int32.toNatClampNeg (x4 + (1 : Int32)))), .ref 1000]) (σ' := (S5, M, O6)) rfl hc7 ?_
  refine Ex_go 4 (pc' := 1729) (L' := [some (.ref 2500), some (.ref 0), some (.ref 1000), some (.ref 2000), some (.int x4), some (.int r3), none, none]) (st' := [.int (x4 + (2 : Int32)), .ref 2500, .int (xs (Int32.toNatClampNeg (x4 + (1 : Int32)))), .ref 1000]) (σ' := (S5, M, O6)) (rfl) ?_
  obtain ⟨hc8, hF⟩ := ck_i hF
  refine Ex_chk (b := ib (x4 + (2 : Int32)) nL) (pc' := 1730) (L' := [some (.ref 2500), some (.ref 0), some (.ref 1000), some (.ref 2000), some (.int x4), some (.int r3), none, none]) (st' := [.int (xs (Int32.toNatClampNeg (x4 + (2 : Int32)))), .int (xs (Int32.toNatClampNeg (x4 + (1 : Int32)))), .ref 1000]) (σ' := (S5, M, O6)) rfl hc8 ?_
  obtain ⟨r9, M11, hx10, hF⟩ := b2_i hF
  refine Ex_callK (K1 := 0) (K2 := K) (kind := 2) (y := 217) (as := [.ref 1000, .int (xs (Int32.toNatClampNeg (x4 + (1 : Int32)))), .int (xs (Int32.toNatClampNeg (x4 + (2 : Int32))))]) (rest := []) (L0 := [some (.ref 1000), some (.int (xs (Int32.toNatClampNeg (x4 + (1 : Int32))))), some (.int (xs (Int32.toNatClampNeg (x4 + (2 : Int32))))), none, none]) (d' := 3) (v := some (.int r9)) (σ1 := (S5, M11, O6)) rfl rfl mt_217 rfl rfl (by omega) (X_m_primes (Nat.le_refl _) _ _ _ _ _ hx10) (Ex_st (st2 := [.int r9]) rfl ?_) (by omega)
  refine Ex_go 2 (pc' := 1736) (L' := [some (.ref 2500), some (.ref 0), some (.ref 1000), some (.ref 2000), some (.int x4), some (.int r3), some (.int r9), none]) (st' := [.ref 1000]) (σ' := (S5, M11, O6)) (rfl) ?_
  obtain ⟨r12, hx13, hF⟩ := b1_i hF
  refine Ex_callK (K1 := 0) (K2 := K) (kind := 2) (y := 77) (as := [.ref 1000]) (rest := []) (L0 := [some (.ref 1000)]) (d' := 1) (v := some (.int r12)) (σ1 := (S5, M11, O6)) rfl rfl mt_77 rfl rfl (by omega) (X_m_thrown (Nat.le_refl _) _ _ hx13) (Ex_st (st2 := [.int r12]) rfl ?_) (by omega)
  refine Ex_go 2 (pc' := if r12 = r3 then 1746 else 1744) (L' := [some (.ref 2500), some (.ref 0), some (.ref 1000), some (.ref 2000), some (.int x4), some (.int r3), some (.int r9), none]) (st' := []) (σ' := (S5, M11, O6)) (rfl) ?_
  refine Ex_br (fun hc => ?_) (fun hc => ?_)
  · rw [if_pos hc] at hF
    refine Ex_go 2 (pc' := if ¬ r3 = 0 then 1763 else 1751) (L' := [some (.ref 2500), some (.ref 0), some (.ref 1000), some (.ref 2000), some (.int x4), some (.int r3), some (.int r9), none]) (st' := []) (σ' := (S5, M11, O6)) (rfl) ?_
    refine Ex_brN (fun hc => ?_) (fun hc => ?_)
    · rw [if_pos hc] at hF
      refine Ex_go 2 (pc' := 1753) (L' := [some (.ref 2500), some (.ref 0), some (.ref 1000), some (.ref 2000), some (.int x4), some (.int r3), some (.int r9), none]) (st' := [.int (0 : Int32), .ref 2000]) (σ' := (S5, M11, O6)) (rfl) ?_
      refine Ex_chk (b := ib (0 : Int32) 1) (pc' := 1754) (L' := [some (.ref 2500), some (.ref 0), some (.ref 1000), some (.ref 2000), some (.int x4), some (.int r3), some (.int r9), none]) (st' := [.long (al O6 2000 (Int32.toNatClampNeg (0 : Int32)))]) (σ' := (S5, M11, O6)) rfl (by decide) ?_
      refine Ex_go 4 (pc' := if (lg_cmp (al O6 2000 (Int32.toNatClampNeg (0 : Int32))) (Int32.toInt64 r9)) = 0 then 1763 else 1761) (L' := [some (.ref 2500), some (.ref 0), some (.ref 1000), some (.ref 2000), some (.int x4), some (.int r3), some (.int r9), none]) (st' := []) (σ' := (S5, M11, O6)) (rfl) ?_
      refine Ex_brI lc_eq (fun hc => ?_) (fun hc => ?_)
      · rw [if_pos hc] at hF
        exact Ex_mono (L := [some (.ref 2500), some (.ref 0), some (.ref 1000), some (.ref 2000), some (.int x4), none, none, none]) (Le_s (Le_s (Le_s (Le_s (Le_s (Le_n (Le_n (Le_n (Le_0))))))))) (X_l_law_1763 hd hk23 _ _ _ _ _ _ _ _ hF) (Nat.le_refl _) (by omega)
      · rw [if_neg hc] at hF
        refine Ex_go 1 (pc' := 1762) (L' := [some (.ref 2500), some (.ref 0), some (.ref 1000), some (.ref 2000), some (.int x4), some (.int r3), some (.int r9), none]) (st' := [.int (0 : Int32)]) (σ' := (S5, M11, O6)) (rfl) ?_
        cases hF
        exact Ex_fin rfl
    · rw [if_neg hc] at hF
      exact Ex_mono (L := [some (.ref 2500), some (.ref 0), some (.ref 1000), some (.ref 2000), some (.int x4), none, none, none]) (Le_s (Le_s (Le_s (Le_s (Le_s (Le_n (Le_n (Le_n (Le_0))))))))) (X_l_law_1763 hd hk23 _ _ _ _ _ _ _ _ hF) (Nat.le_refl _) (by omega)
  · rw [if_neg hc] at hF
    refine Ex_go 1 (pc' := 1745) (L' := [some (.ref 2500), some (.ref 0), some (.ref 1000), some (.ref 2000), some (.int x4), some (.int r3), some (.int r9), none]) (st' := [.int (0 : Int32)]) (σ' := (S5, M11, O6)) (rfl) ?_
    cases hF
    exact Ex_fin rfl
def F_l_law_1819 (nL : Nat) (xs : Nat → Int32) (k23 : Int32 → Sto → Sto → Sto → Option (Int32 × Sto × Sto × Sto)) (x4 : Int32) (S : Sto) (M : Sto) (O : Sto) : Option (Int32 × Sto × Sto × Sto) := F_l_law_2537 nL xs k23 x4 S M O
set_option maxRecDepth 100000 in
theorem X_l_law_1819 {nL : Nat} {xs : Nat → Int32} {d : Nat} (hd : 98 ≤ d) {K : Nat} {k23 : Int32 → Sto → Sto → Sto → Option (Int32 × Sto × Sto × Sto)} (hk23 : ∀ (x4 : Int32) (S : Sto) (M : Sto) (O : Sto) (r : Int32) (S' : Sto) (M' : Sto) (O' : Sto), k23 x4 S M O = some (r, S', M', O') → EX nL xs K MI_281 d 23 [some (.ref 2500), some (.ref 0), some (.ref 1000), some (.ref 2000), some (.int x4), none, none, none] [] (S, M, O) (.inl (some (.int r))) (S', M', O')) : ∀ (x4 : Int32) (S : Sto) (M : Sto) (O : Sto) (r : Int32) (S' : Sto) (M' : Sto) (O' : Sto), F_l_law_1819 nL xs k23 x4 S M O = some (r, S', M', O') → EX nL xs K MI_281 d 1819 [some (.ref 2500), some (.ref 0), some (.ref 1000), some (.ref 2000), some (.int x4), none, none, none] [] (S, M, O) (.inl (some (.int r))) (S', M', O') := by
  intro x4 S M O r S' M' O' hF
  unfold F_l_law_1819 at hF
  refine Ex_go 1 (pc' := 2537) (L' := [some (.ref 2500), some (.ref 0), some (.ref 1000), some (.ref 2000), some (.int x4), none, none, none]) (st' := []) (σ' := (S, M, O)) (rfl) ?_
  exact Ex_mono (L := [some (.ref 2500), some (.ref 0), some (.ref 1000), some (.ref 2000), some (.int x4), none, none, none]) (Le_s (Le_s (Le_s (Le_s (Le_s (Le_n (Le_n (Le_n (Le_0))))))))) (X_l_law_2537 hd hk23 _ _ _ _ _ _ _ _ hF) (Nat.le_refl _) (by omega)
def F_l_law_1766 (nL : Nat) (xs : Nat → Int32) (k23 : Int32 → Sto → Sto → Sto → Option (Int32 × Sto × Sto × Sto)) (x4 : Int32) (S : Sto) (M : Sto) (O : Sto) : Option (Int32 × Sto × Sto × Sto) := ck (ib (x4 + (1 : Int32)) nL) (b2 (F_l_prime (xs (Int32.toNatClampNeg (x4 + (1 : Int32)))) O) (fun r2 O4 => ck (ib (x4 + (1 : Int32)) nL) (b2 (F_m_prime (xs (Int32.toNatClampNeg (x4 + (1 : Int32)))) M) (fun r6 M8 => b1 (F_m_thrown M8) (fun r9 => if r9 = r2 then if r2 = 0 then if (al O4 2000 (Int32.toNatClampNeg (0 : Int32))) = (Int32.toInt64 r6) then F_l_law_1819 nL xs k23 x4 S M8 O4 else some ((0 : Int32), S, M8, O4) else F_l_law_1819 nL xs k23 x4 S M8 O4 else some ((0 : Int32), S, M8, O4))))))
set_option maxRecDepth 100000 in
theorem X_l_law_1766 {nL : Nat} {xs : Nat → Int32} {d : Nat} (hd : 98 ≤ d) {K : Nat} {k23 : Int32 → Sto → Sto → Sto → Option (Int32 × Sto × Sto × Sto)} (hk23 : ∀ (x4 : Int32) (S : Sto) (M : Sto) (O : Sto) (r : Int32) (S' : Sto) (M' : Sto) (O' : Sto), k23 x4 S M O = some (r, S', M', O') → EX nL xs K MI_281 d 23 [some (.ref 2500), some (.ref 0), some (.ref 1000), some (.ref 2000), some (.int x4), none, none, none] [] (S, M, O) (.inl (some (.int r))) (S', M', O')) : ∀ (x4 : Int32) (S : Sto) (M : Sto) (O : Sto) (r : Int32) (S' : Sto) (M' : Sto) (O' : Sto), F_l_law_1766 nL xs k23 x4 S M O = some (r, S', M', O') → EX nL xs (K + 1) MI_281 d 1766 [some (.ref 2500), some (.ref 0), some (.ref 1000), some (.ref 2000), some (.int x4), none, none, none] [] (S, M, O) (.inl (some (.int r))) (S', M', O') := by
  intro x4 S M O r S' M' O' hF
  unfold F_l_law_1766 at hF
  refine Ex_go 5 (pc' := 1772) (L' := [some (.ref 2500), some (.ref 0), some (.ref 1000), some (.ref 2000), some (.int x4), none, none, none]) (st' := [.int (x4 + (1 : Int32)), .ref 2500, .ref 0]) (σ' := (S, M, O)) (rfl) ?_
  obtain ⟨hc1, hF⟩ := ck_i hF
  refine Ex_chk (b := ib (x4 + (1 : Int32)) nL) (pc' := 1773) (L' := [some (.ref 2500), some (.ref 0), some (.ref 1000), some (.ref 2000), some (.int x4), none, none, none]) (st' := [.int (xs (Int32.toNatClampNeg (x4 + (1 : Int32)))), .ref 0]) (σ' := (S, M, O)) rfl hc1 ?_
  refine Ex_go 1 (pc' := 1774) (L' := [some (.ref 2500), some (.ref 0), some (.ref 1000), some (.ref 2000), some (.int x4), none, none, none]) (st' := [.ref 2000, .int (xs (Int32.toNatClampNeg (x4 + (1 : Int32)))), .ref 0]) (σ' := (S, M, O)) (rfl) ?_
  obtain ⟨r2, O4, hx3, hF⟩ := b2_i hF
  refine Ex_callK (K1 := 1) (K2 := K) (kind := 4) (y := 221) (as := [.ref 0, .int (xs (Int32.toNatClampNeg (x4 + (1 : Int32)))), .ref 2000]) (rest := []) (L0 := [some (.ref 0), some (.int (xs (Int32.toNatClampNeg (x4 + (1 : Int32))))), some (.ref 2000), none]) (d' := 9) (v := some (.int r2)) (σ1 := (S, M, O4)) rfl rfl mt_221 rfl rfl (by omega) (X_l_prime (Nat.le_refl _) _ _ _ _ hx3) (Ex_st (st2 := [.int r2]) rfl ?_) (by omega)
  refine Ex_go 6 (pc' := 1785) (L' := [some (.ref 2500), some (.ref 0), some (.ref 1000), some (.ref 2000), some (.int x4), some (.int r2), none, none]) (st' := [.int (x4 + (1 : Int32)), .ref 2500, .ref 1000]) (σ' := (S, M, O4)) (rfl) ?_
  obtain ⟨hc5, hF⟩ := ck_i hF
  refine Ex_chk (b := ib (x4 + (1 : Int32)) nL) (pc' := 1786) (L' := [some (.ref 2500), some (.ref 0), some (.ref 1000), some (.ref 2000), some (.int x4), some (.int r2), none, none]) (st' := [.int (xs (Int32.toNatClampNeg (x4 + (1 : Int32)))), .ref 1000]) (σ' := (S, M, O4)) rfl hc5 ?_
  obtain ⟨r6, M8, hx7, hF⟩ := b2_i hF
  refine Ex_callK (K1 := 0) (K2 := K) (kind := 2) (y := 222) (as := [.ref 1000, .int (xs (Int32.toNatClampNeg (x4 + (1 : Int32))))]) (rest := []) (L0 := [some (.ref 1000), some (.int (xs (Int32.toNatClampNeg (x4 + (1 : Int32))))), none]) (d' := 3) (v := some (.int r6)) (σ1 := (S, M8, O4)) rfl rfl mt_222 rfl rfl (by omega) (X_m_prime (Nat.le_refl _) _ _ _ _ hx7) (Ex_st (st2 := [.int r6]) rfl ?_) (by omega)
  refine Ex_go 2 (pc' := 1792) (L' := [some (.ref 2500), some (.ref 0), some (.ref 1000), some (.ref 2000), some (.int x4), some (.int r2), some (.int r6), none]) (st' := [.ref 1000]) (σ' := (S, M8, O4)) (rfl) ?_
  obtain ⟨r9, hx10, hF⟩ := b1_i hF
  refine Ex_callK (K1 := 0) (K2 := K) (kind := 2) (y := 77) (as := [.ref 1000]) (rest := []) (L0 := [some (.ref 1000)]) (d' := 1) (v := some (.int r9)) (σ1 := (S, M8, O4)) rfl rfl mt_77 rfl rfl (by omega) (X_m_thrown (Nat.le_refl _) _ _ hx10) (Ex_st (st2 := [.int r9]) rfl ?_) (by omega)
  refine Ex_go 2 (pc' := if r9 = r2 then 1802 else 1800) (L' := [some (.ref 2500), some (.ref 0), some (.ref 1000), some (.ref 2000), some (.int x4), some (.int r2), some (.int r6), none]) (st' := []) (σ' := (S, M8, O4)) (rfl) ?_
  refine Ex_br (fun hc => ?_) (fun hc => ?_)
  · rw [if_pos hc] at hF
    refine Ex_go 2 (pc' := if ¬ r2 = 0 then 1819 else 1807) (L' := [some (.ref 2500), some (.ref 0), some (.ref 1000), some (.ref 2000), some (.int x4), some (.int r2), some (.int r6), none]) (st' := []) (σ' := (S, M8, O4)) (rfl) ?_
    refine Ex_brN (fun hc => ?_) (fun hc => ?_)
    · rw [if_pos hc] at hF
      refine Ex_go 2 (pc' := 1809) (L' := [some (.ref 2500), some (.ref 0), some (.ref 1000), some (.ref 2000), some (.int x4), some (.int r2), some (.int r6), none]) (st' := [.int (0 : Int32), .ref 2000]) (σ' := (S, M8, O4)) (rfl) ?_
      refine Ex_chk (b := ib (0 : Int32) 1) (pc' := 1810) (L' := [some (.ref 2500), some (.ref 0), some (.ref 1000), some (.ref 2000), some (.int x4), some (.int r2), some (.int r6), none]) (st' := [.long (al O4 2000 (Int32.toNatClampNeg (0 : Int32)))]) (σ' := (S, M8, O4)) rfl (by decide) ?_
      refine Ex_go 4 (pc' := if (lg_cmp (al O4 2000 (Int32.toNatClampNeg (0 : Int32))) (Int32.toInt64 r6)) = 0 then 1819 else 1817) (L' := [some (.ref 2500), some (.ref 0), some (.ref 1000), some (.ref 2000), some (.int x4), some (.int r2), some (.int r6), none]) (st' := []) (σ' := (S, M8, O4)) (rfl) ?_
      refine Ex_brI lc_eq (fun hc => ?_) (fun hc => ?_)
      · rw [if_pos hc] at hF
        exact Ex_mono (L := [some (.ref 2500), some (.ref 0), some (.ref 1000), some (.ref 2000), some (.int x4), none, none, none]) (Le_s (Le_s (Le_s (Le_s (Le_s (Le_n (Le_n (Le_n (Le_0))))))))) (X_l_law_1819 hd hk23 _ _ _ _ _ _ _ _ hF) (Nat.le_refl _) (by omega)
      · rw [if_neg hc] at hF
        refine Ex_go 1 (pc' := 1818) (L' := [some (.ref 2500), some (.ref 0), some (.ref 1000), some (.ref 2000), some (.int x4), some (.int r2), some (.int r6), none]) (st' := [.int (0 : Int32)]) (σ' := (S, M8, O4)) (rfl) ?_
        cases hF
        exact Ex_fin rfl
    · rw [if_neg hc] at hF
      exact Ex_mono (L := [some (.ref 2500), some (.ref 0), some (.ref 1000), some (.ref 2000), some (.int x4), none, none, none]) (Le_s (Le_s (Le_s (Le_s (Le_s (Le_n (Le_n (Le_n (Le_0))))))))) (X_l_law_1819 hd hk23 _ _ _ _ _ _ _ _ hF) (Nat.le_refl _) (by omega)
  · rw [if_neg hc] at hF
    refine Ex_go 1 (pc' := 1801) (L' := [some (.ref 2500), some (.ref 0), some (.ref 1000), some (.ref 2000), some (.int x4), some (.int r2), some (.int r6), none]) (st' := [.int (0 : Int32)]) (σ' := (S, M8, O4)) (rfl) ?_
    cases hF
    exact Ex_fin rfl
def F_l_law_1887 (nL : Nat) (xs : Nat → Int32) (k23 : Int32 → Sto → Sto → Sto → Option (Int32 × Sto × Sto × Sto)) (x4 : Int32) (S : Sto) (M : Sto) (O : Sto) : Option (Int32 × Sto × Sto × Sto) := F_l_law_2537 nL xs k23 x4 S M O
set_option maxRecDepth 100000 in
theorem X_l_law_1887 {nL : Nat} {xs : Nat → Int32} {d : Nat} (hd : 98 ≤ d) {K : Nat} {k23 : Int32 → Sto → Sto → Sto → Option (Int32 × Sto × Sto × Sto)} (hk23 : ∀ (x4 : Int32) (S : Sto) (M : Sto) (O : Sto) (r : Int32) (S' : Sto) (M' : Sto) (O' : Sto), k23 x4 S M O = some (r, S', M', O') → EX nL xs K MI_281 d 23 [some (.ref 2500), some (.ref 0), some (.ref 1000), some (.ref 2000), some (.int x4), none, none, none] [] (S, M, O) (.inl (some (.int r))) (S', M', O')) : ∀ (x4 : Int32) (S : Sto) (M : Sto) (O : Sto) (r : Int32) (S' : Sto) (M' : Sto) (O' : Sto), F_l_law_1887 nL xs k23 x4 S M O = some (r, S', M', O') → EX nL xs K MI_281 d 1887 [some (.ref 2500), some (.ref 0), some (.ref 1000), some (.ref 2000), some (.int x4), none, none, none] [] (S, M, O) (.inl (some (.int r))) (S', M', O') := by
  intro x4 S M O r S' M' O' hF
  unfold F_l_law_1887 at hF
  refine Ex_go 1 (pc' := 2537) (L' := [some (.ref 2500), some (.ref 0), some (.ref 1000), some (.ref 2000), some (.int x4), none, none, none]) (st' := []) (σ' := (S, M, O)) (rfl) ?_
  exact Ex_mono (L := [some (.ref 2500), some (.ref 0), some (.ref 1000), some (.ref 2000), some (.int x4), none, none, none]) (Le_s (Le_s (Le_s (Le_s (Le_s (Le_n (Le_n (Le_n (Le_0))))))))) (X_l_law_2537 hd hk23 _ _ _ _ _ _ _ _ hF) (Nat.le_refl _) (by omega)
def F_l_law_1822 (nL : Nat) (xs : Nat → Int32) (k23 : Int32 → Sto → Sto → Sto → Option (Int32 × Sto × Sto × Sto)) (x4 : Int32) (S : Sto) (M : Sto) (O : Sto) : Option (Int32 × Sto × Sto × Sto) := ck (ib (x4 + (1 : Int32)) nL) (ck (ib (x4 + (2 : Int32)) nL) (b2 (F_l_shoal (xs (Int32.toNatClampNeg (x4 + (1 : Int32)))) (xs (Int32.toNatClampNeg (x4 + (2 : Int32)))) O) (fun r3 O5 => ck (ib (x4 + (1 : Int32)) nL) (ck (ib (x4 + (2 : Int32)) nL) (b2 (F_m_shoal (xs (Int32.toNatClampNeg (x4 + (1 : Int32)))) (xs (Int32.toNatClampNeg (x4 + (2 : Int32)))) M) (fun r8 M10 => b1 (F_m_thrown M10) (fun r11 => if r11 = r3 then if r3 = 0 then if (al O5 2000 (Int32.toNatClampNeg (0 : Int32))) = (Int32.toInt64 r8) then F_l_law_1887 nL xs k23 x4 S M10 O5 else some ((0 : Int32), S, M10, O5) else F_l_law_1887 nL xs k23 x4 S M10 O5 else some ((0 : Int32), S, M10, O5))))))))
set_option maxRecDepth 100000 in
theorem X_l_law_1822 {nL : Nat} {xs : Nat → Int32} {d : Nat} (hd : 98 ≤ d) {K : Nat} {k23 : Int32 → Sto → Sto → Sto → Option (Int32 × Sto × Sto × Sto)} (hk23 : ∀ (x4 : Int32) (S : Sto) (M : Sto) (O : Sto) (r : Int32) (S' : Sto) (M' : Sto) (O' : Sto), k23 x4 S M O = some (r, S', M', O') → EX nL xs K MI_281 d 23 [some (.ref 2500), some (.ref 0), some (.ref 1000), some (.ref 2000), some (.int x4), none, none, none] [] (S, M, O) (.inl (some (.int r))) (S', M', O')) : ∀ (x4 : Int32) (S : Sto) (M : Sto) (O : Sto) (r : Int32) (S' : Sto) (M' : Sto) (O' : Sto), F_l_law_1822 nL xs k23 x4 S M O = some (r, S', M', O') → EX nL xs (K + 1) MI_281 d 1822 [some (.ref 2500), some (.ref 0), some (.ref 1000), some (.ref 2000), some (.int x4), none, none, none] [] (S, M, O) (.inl (some (.int r))) (S', M', O') := by
  intro x4 S M O r S' M' O' hF
  unfold F_l_law_1822 at hF
  refine Ex_go 5 (pc' := 1828) (L' := [some (.ref 2500), some (.ref 0), some (.ref 1000), some (.ref 2000), some (.int x4), none, none, none]) (st' := [.int (x4 + (1 : Int32)), .ref 2500, .ref 0]) (σ' := (S, M, O)) (rfl) ?_
  obtain ⟨hc1, hF⟩ := ck_i hF
  refine Ex_chk (b := ib (x4 + (1 : Int32)) nL) (pc' := 1829) (L' := [some (.ref 2500), some (.ref 0), some (.ref 1000), some (.ref 2000), some (.int x4), none, none, none]) (st' := [.int (xs (Int32.toNatClampNeg (x4 + (1 : Int32)))), .ref 0]) (σ' := (S, M, O)) rfl hc1 ?_
  refine Ex_go 4 (pc' := 1834) (L' := [some (.ref 2500), some (.ref 0), some (.ref 1000), some (.ref 2000), some (.int x4), none, none, none]) (st' := [.int (x4 + (2 : Int32)), .ref 2500, .int (xs (Int32.toNatClampNeg (x4 + (1 : Int32)))), .ref 0]) (σ' := (S, M, O)) (rfl) ?_
  obtain ⟨hc2, hF⟩ := ck_i hF
  refine Ex_chk (b := ib (x4 + (2 : Int32)) nL) (pc' := 1835) (L' := [some (.ref 2500), some (.ref 0), some (.ref 1000), some (.ref 2000), some (.int x4), none, none, none]) (st' := [.int (xs (Int32.toNatClampNeg (x4 + (2 : Int32)))), .int (xs (Int32.toNatClampNeg (x4 + (1 : Int32)))), .ref 0]) (σ' := (S, M, O)) rfl hc2 ?_
  refine Ex_go 1 (pc' := 1836) (L' := [some (.ref 2500), some (.ref 0), some (.ref 1000), some (.ref 2000), some (.int x4), none, none, none]) (st' := [.ref 2000, .int (xs (Int32.toNatClampNeg (x4 + (2 : Int32)))), .int (xs (Int32.toNatClampNeg (x4 + (1 : Int32)))), .ref 0]) (σ' := (S, M, O)) (rfl) ?_
  obtain ⟨r3, O5, hx4, hF⟩ := b2_i hF
  refine Ex_callK (K1 := 1) (K2 := K) (kind := 4) (y := 224) (as := [.ref 0, .int (xs (Int32.toNatClampNeg (x4 + (1 : Int32)))), .int (xs (Int32.toNatClampNeg (x4 + (2 : Int32)))), .ref 2000]) (rest := []) (L0 := [some (.ref 0), some (.int (xs (Int32.toNatClampNeg (x4 + (1 : Int32))))), some (.int (xs (Int32.toNatClampNeg (x4 + (2 : Int32))))), some (.ref 2000), none]) (d' := 9) (v := some (.int r3)) (σ1 := (S, M, O5)) rfl rfl mt_224 rfl rfl (by omega) (X_l_shoal (Nat.le_refl _) _ _ _ _ _ hx4) (Ex_st (st2 := [.int r3]) rfl ?_) (by omega)
  refine Ex_go 6 (pc' := 1847) (L' := [some (.ref 2500), some (.ref 0), some (.ref 1000), some (.ref 2000), some (.int x4), some (.int r3), none, none]) (st' := [.int (x4 + (1 : Int32)), .ref 2500, .ref 1000]) (σ' := (S, M, O5)) (rfl) ?_
  obtain ⟨hc6, hF⟩ := ck_i hF
  refine Ex_chk (b := ib (x4 + (1 : Int32)) nL) (pc' := 1848) (L' := [some (.ref 2500), some (.ref 0), some (.ref 1000), some (.ref 2000), some (.int x4), some (.int r3), none, none]) (st' := [.int (xs (Int32.toNatClampNeg (x4 + (1 : Int32)))), .ref 1000]) (σ' := (S, M, O5)) rfl hc6 ?_
  refine Ex_go 4 (pc' := 1853) (L' := [some (.ref 2500), some (.ref 0), some (.ref 1000), some (.ref 2000), some (.int x4), some (.int r3), none, none]) (st' := [.int (x4 + (2 : Int32)), .ref 2500, .int (xs (Int32.toNatClampNeg (x4 + (1 : Int32)))), .ref 1000]) (σ' := (S, M, O5)) (rfl) ?_
  obtain ⟨hc7, hF⟩ := ck_i hF
  refine Ex_chk (b := ib (x4 + (2 : Int32)) nL) (pc' := 1854) (L' := [some (.ref 2500), some (.ref 0), some (.ref 1000), some (.ref 2000), some (.int x4), some (.int r3), none, none]) (st' := [.int (xs (Int32.toNatClampNeg (x4 + (2 : Int32)))), .int (xs (Int32.toNatClampNeg (x4 + (1 : Int32)))), .ref 1000]) (σ' := (S, M, O5)) rfl hc7 ?_
  obtain ⟨r8, M10, hx9, hF⟩ := b2_i hF
  refine Ex_callK (K1 := 0) (K2 := K) (kind := 2) (y := 226) (as := [.ref 1000, .int (xs (Int32.toNatClampNeg (x4 + (1 : Int32)))), .int (xs (Int32.toNatClampNeg (x4 + (2 : Int32))))]) (rest := []) (L0 := [some (.ref 1000), some (.int (xs (Int32.toNatClampNeg (x4 + (1 : Int32))))), some (.int (xs (Int32.toNatClampNeg (x4 + (2 : Int32))))), none, none]) (d' := 2) (v := some (.int r8)) (σ1 := (S, M10, O5)) rfl rfl mt_226 rfl rfl (by omega) (X_m_shoal (Nat.le_refl _) _ _ _ _ _ hx9) (Ex_st (st2 := [.int r8]) rfl ?_) (by omega)
  refine Ex_go 2 (pc' := 1860) (L' := [some (.ref 2500), some (.ref 0), some (.ref 1000), some (.ref 2000), some (.int x4), some (.int r3), some (.int r8), none]) (st' := [.ref 1000]) (σ' := (S, M10, O5)) (rfl) ?_
  obtain ⟨r11, hx12, hF⟩ := b1_i hF
  refine Ex_callK (K1 := 0) (K2 := K) (kind := 2) (y := 77) (as := [.ref 1000]) (rest := []) (L0 := [some (.ref 1000)]) (d' := 1) (v := some (.int r11)) (σ1 := (S, M10, O5)) rfl rfl mt_77 rfl rfl (by omega) (X_m_thrown (Nat.le_refl _) _ _ hx12) (Ex_st (st2 := [.int r11]) rfl ?_) (by omega)
  refine Ex_go 2 (pc' := if r11 = r3 then 1870 else 1868) (L' := [some (.ref 2500), some (.ref 0), some (.ref 1000), some (.ref 2000), some (.int x4), some (.int r3), some (.int r8), none]) (st' := []) (σ' := (S, M10, O5)) (rfl) ?_
  refine Ex_br (fun hc => ?_) (fun hc => ?_)
  · rw [if_pos hc] at hF
    refine Ex_go 2 (pc' := if ¬ r3 = 0 then 1887 else 1875) (L' := [some (.ref 2500), some (.ref 0), some (.ref 1000), some (.ref 2000), some (.int x4), some (.int r3), some (.int r8), none]) (st' := []) (σ' := (S, M10, O5)) (rfl) ?_
    refine Ex_brN (fun hc => ?_) (fun hc => ?_)
    · rw [if_pos hc] at hF
      refine Ex_go 2 (pc' := 1877) (L' := [some (.ref 2500), some (.ref 0), some (.ref 1000), some (.ref 2000), some (.int x4), some (.int r3), some (.int r8), none]) (st' := [.int (0 : Int32), .ref 2000]) (σ' := (S, M10, O5)) (rfl) ?_
      refine Ex_chk (b := ib (0 : Int32) 1) (pc' := 1878) (L' := [some (.ref 2500), some (.ref 0), some (.ref 1000), some (.ref 2000), some (.int x4), some (.int r3), some (.int r8), none]) (st' := [.long (al O5 2000 (Int32.toNatClampNeg (0 : Int32)))]) (σ' := (S, M10, O5)) rfl (by decide) ?_
      refine Ex_go 4 (pc' := if (lg_cmp (al O5 2000 (Int32.toNatClampNeg (0 : Int32))) (Int32.toInt64 r8)) = 0 then 1887 else 1885) (L' := [some (.ref 2500), some (.ref 0), some (.ref 1000), some (.ref 2000), some (.int x4), some (.int r3), some (.int r8), none]) (st' := []) (σ' := (S, M10, O5)) (rfl) ?_
      refine Ex_brI lc_eq (fun hc => ?_) (fun hc => ?_)
      · rw [if_pos hc] at hF
        exact Ex_mono (L := [some (.ref 2500), some (.ref 0), some (.ref 1000), some (.ref 2000), some (.int x4), none, none, none]) (Le_s (Le_s (Le_s (Le_s (Le_s (Le_n (Le_n (Le_n (Le_0))))))))) (X_l_law_1887 hd hk23 _ _ _ _ _ _ _ _ hF) (Nat.le_refl _) (by omega)
      · rw [if_neg hc] at hF
        refine Ex_go 1 (pc' := 1886) (L' := [some (.ref 2500), some (.ref 0), some (.ref 1000), some (.ref 2000), some (.int x4), some (.int r3), some (.int r8), none]) (st' := [.int (0 : Int32)]) (σ' := (S, M10, O5)) (rfl) ?_
        cases hF
        exact Ex_fin rfl
    · rw [if_neg hc] at hF
      exact Ex_mono (L := [some (.ref 2500), some (.ref 0), some (.ref 1000), some (.ref 2000), some (.int x4), none, none, none]) (Le_s (Le_s (Le_s (Le_s (Le_s (Le_n (Le_n (Le_n (Le_0))))))))) (X_l_law_1887 hd hk23 _ _ _ _ _ _ _ _ hF) (Nat.le_refl _) (by omega)
  · rw [if_neg hc] at hF
    refine Ex_go 1 (pc' := 1869) (L' := [some (.ref 2500), some (.ref 0), some (.ref 1000), some (.ref 2000), some (.int x4), some (.int r3), some (.int r8), none]) (st' := [.int (0 : Int32)]) (σ' := (S, M10, O5)) (rfl) ?_
    cases hF
    exact Ex_fin rfl
def F_l_law_1998 (nL : Nat) (xs : Nat → Int32) (k23 : Int32 → Sto → Sto → Sto → Option (Int32 × Sto × Sto × Sto)) (x4 : Int32) (S : Sto) (M : Sto) (O : Sto) : Option (Int32 × Sto × Sto × Sto) := F_l_law_2537 nL xs k23 x4 S M O
set_option maxRecDepth 100000 in
theorem X_l_law_1998 {nL : Nat} {xs : Nat → Int32} {d : Nat} (hd : 98 ≤ d) {K : Nat} {k23 : Int32 → Sto → Sto → Sto → Option (Int32 × Sto × Sto × Sto)} (hk23 : ∀ (x4 : Int32) (S : Sto) (M : Sto) (O : Sto) (r : Int32) (S' : Sto) (M' : Sto) (O' : Sto), k23 x4 S M O = some (r, S', M', O') → EX nL xs K MI_281 d 23 [some (.ref 2500), some (.ref 0), some (.ref 1000), some (.ref 2000), some (.int x4), none, none, none] [] (S, M, O) (.inl (some (.int r))) (S', M', O')) : ∀ (x4 : Int32) (S : Sto) (M : Sto) (O : Sto) (r : Int32) (S' : Sto) (M' : Sto) (O' : Sto), F_l_law_1998 nL xs k23 x4 S M O = some (r, S', M', O') → EX nL xs K MI_281 d 1998 [some (.ref 2500), some (.ref 0), some (.ref 1000), some (.ref 2000), some (.int x4), none, none, none] [] (S, M, O) (.inl (some (.int r))) (S', M', O') := by
  intro x4 S M O r S' M' O' hF
  unfold F_l_law_1998 at hF
  refine Ex_go 1 (pc' := 2537) (L' := [some (.ref 2500), some (.ref 0), some (.ref 1000), some (.ref 2000), some (.int x4), none, none, none]) (st' := []) (σ' := (S, M, O)) (rfl) ?_
  exact Ex_mono (L := [some (.ref 2500), some (.ref 0), some (.ref 1000), some (.ref 2000), some (.int x4), none, none, none]) (Le_s (Le_s (Le_s (Le_s (Le_s (Le_n (Le_n (Le_n (Le_0))))))))) (X_l_law_2537 hd hk23 _ _ _ _ _ _ _ _ hF) (Nat.le_refl _) (by omega)
def F_l_law_1890 (nL : Nat) (xs : Nat → Int32) (k23 : Int32 → Sto → Sto → Sto → Option (Int32 × Sto × Sto × Sto)) (x4 : Int32) (S : Sto) (M : Sto) (O : Sto) : Option (Int32 × Sto × Sto × Sto) := ck (ib (x4 + (1 : Int32)) nL) (ck (ib (x4 + (2 : Int32)) nL) (ck (ib (x4 + (3 : Int32)) nL) (ck (ib (x4 + (4 : Int32)) nL) (b3 (F_l_sums (((Int32.toInt64 (xs (Int32.toNatClampNeg (x4 + (1 : Int32))))) <<< (Int32.toInt64 (32 : Int32) &&& 63)) ||| ((Int32.toInt64 (xs (Int32.toNatClampNeg (x4 + (2 : Int32))))) &&& (4294967295 : Int64))) (xs (Int32.toNatClampNeg (x4 + (3 : Int32)))) (xs (Int32.toNatClampNeg (x4 + (4 : Int32)))) S O) (fun r5 S7 O8 => ck (ib (x4 + (1 : Int32)) nL) (ck (ib (x4 + (2 : Int32)) nL) (ck (ib (x4 + (3 : Int32)) nL) (ck (ib (x4 + (4 : Int32)) nL) (b2 (F_m_sums (((Int32.toInt64 (xs (Int32.toNatClampNeg (x4 + (1 : Int32))))) <<< (Int32.toInt64 (32 : Int32) &&& 63)) ||| ((Int32.toInt64 (xs (Int32.toNatClampNeg (x4 + (2 : Int32))))) &&& (4294967295 : Int64))) (xs (Int32.toNatClampNeg (x4 + (3 : Int32)))) (xs (Int32.toNatClampNeg (x4 + (4 : Int32)))) M) (fun r13 M15 => b1 (F_m_thrown M15) (fun r16 => if r16 = r5 then if r5 = 0 then if (al O8 2000 (Int32.toNatClampNeg (0 : Int32))) = r13 then F_l_law_1998 nL xs k23 x4 S7 M15 O8 else some ((0 : Int32), S7, M15, O8) else F_l_law_1998 nL xs k23 x4 S7 M15 O8 else some ((0 : Int32), S7, M15, O8))))))))))))
set_option maxRecDepth 100000 in
theorem X_l_law_1890 {nL : Nat} {xs : Nat → Int32} {d : Nat} (hd : 98 ≤ d) {K : Nat} {k23 : Int32 → Sto → Sto → Sto → Option (Int32 × Sto × Sto × Sto)} (hk23 : ∀ (x4 : Int32) (S : Sto) (M : Sto) (O : Sto) (r : Int32) (S' : Sto) (M' : Sto) (O' : Sto), k23 x4 S M O = some (r, S', M', O') → EX nL xs K MI_281 d 23 [some (.ref 2500), some (.ref 0), some (.ref 1000), some (.ref 2000), some (.int x4), none, none, none] [] (S, M, O) (.inl (some (.int r))) (S', M', O')) : ∀ (x4 : Int32) (S : Sto) (M : Sto) (O : Sto) (r : Int32) (S' : Sto) (M' : Sto) (O' : Sto), F_l_law_1890 nL xs k23 x4 S M O = some (r, S', M', O') → EX nL xs (K + 1) MI_281 d 1890 [some (.ref 2500), some (.ref 0), some (.ref 1000), some (.ref 2000), some (.int x4), none, none, none] [] (S, M, O) (.inl (some (.int r))) (S', M', O') := by
  intro x4 S M O r S' M' O' hF
  unfold F_l_law_1890 at hF
  refine Ex_go 5 (pc' := 1896) (L' := [some (.ref 2500), some (.ref 0), some (.ref 1000), some (.ref 2000), some (.int x4), none, none, none]) (st' := [.int (x4 + (1 : Int32)), .ref 2500, .ref 0]) (σ' := (S, M, O)) (rfl) ?_
  obtain ⟨hc1, hF⟩ := ck_i hF
  refine Ex_chk (b := ib (x4 + (1 : Int32)) nL) (pc' := 1897) (L' := [some (.ref 2500), some (.ref 0), some (.ref 1000), some (.ref 2000), some (.int x4), none, none, none]) (st' := [.int (xs (Int32.toNatClampNeg (x4 + (1 : Int32)))), .ref 0]) (σ' := (S, M, O)) rfl hc1 ?_
  refine Ex_go 7 (pc' := 1906) (L' := [some (.ref 2500), some (.ref 0), some (.ref 1000), some (.ref 2000), some (.int x4), none, none, none]) (st' := [.int (x4 + (2 : Int32)), .ref 2500, .long ((Int32.toInt64 (xs (Int32.toNatClampNeg (x4 + (1 : Int32))))) <<< (Int32.toInt64 (32 : Int32) &&& 63)), .ref 0]) (σ' := (S, M, O)) (rfl) ?_
  obtain ⟨hc2, hF⟩ := ck_i hF
  refine Ex_chk (b := ib (x4 + (2 : Int32)) nL) (pc' := 1907) (L' := [some (.ref 2500), some (.ref 0), some (.ref 1000), some (.ref 2000), some (.int x4), none, none, none]) (st' := [.int (xs (Int32.toNatClampNeg (x4 + (2 : Int32)))), .long ((Int32.toInt64 (xs (Int32.toNatClampNeg (x4 + (1 : Int32))))) <<< (Int32.toInt64 (32 : Int32) &&& 63)), .ref 0]) (σ' := (S, M, O)) rfl hc2 ?_
  refine Ex_go 8 (pc' := 1918) (L' := [some (.ref 2500), some (.ref 0), some (.ref 1000), some (.ref 2000), some (.int x4), none, none, none]) (st' := [.int (x4 + (3 : Int32)), .ref 2500, .long (((Int32.toInt64 (xs (Int32.toNatClampNeg (x4 + (1 : Int32))))) <<< (Int32.toInt64 (32 : Int32) &&& 63)) ||| ((Int32.toInt64 (xs (Int32.toNatClampNeg (x4 + (2 : Int32))))) &&& (4294967295 : Int64))), .ref 0]) (σ' := (S, M, O)) (rfl) ?_
  obtain ⟨hc3, hF⟩ := ck_i hF
  refine Ex_chk (b := ib (x4 + (3 : Int32)) nL) (pc' := 1919) (L' := [some (.ref 2500), some (.ref 0), some (.ref 1000), some (.ref 2000), some (.int x4), none, none, none]) (st' := [.int (xs (Int32.toNatClampNeg (x4 + (3 : Int32)))), .long (((Int32.toInt64 (xs (Int32.toNatClampNeg (x4 + (1 : Int32))))) <<< (Int32.toInt64 (32 : Int32) &&& 63)) ||| ((Int32.toInt64 (xs (Int32.toNatClampNeg (x4 + (2 : Int32))))) &&& (4294967295 : Int64))), .ref 0]) (σ' := (S, M, O)) rfl hc3 ?_
  refine Ex_go 4 (pc' := 1924) (L' := [some (.ref 2500), some (.ref 0), some (.ref 1000), some (.ref 2000), some (.int x4), none, none, none]) (st' := [.int (x4 + (4 : Int32)), .ref 2500, .int (xs (Int32.toNatClampNeg (x4 + (3 : Int32)))), .long (((Int32.toInt64 (xs (Int32.toNatClampNeg (x4 + (1 : Int32))))) <<< (Int32.toInt64 (32 : Int32) &&& 63)) ||| ((Int32.toInt64 (xs (Int32.toNatClampNeg (x4 + (2 : Int32))))) &&& (4294967295 : Int64))), .ref 0]) (σ' := (S, M, O)) (rfl) ?_
  obtain ⟨hc4, hF⟩ := ck_i hF
  refine Ex_chk (b := ib (x4 + (4 : Int32)) nL) (pc' := 1925) (L' := [some (.ref 2500), some (.ref 0), some (.ref 1000), some (.ref 2000), some (.int x4), none, none, none]) (st' := [.int (xs (Int32.toNatClampNeg (x4 + (4 : Int32)))), .int (xs (Int32.toNatClampNeg (x4 + (3 : Int32)))), .long (((Int32.toInt64 (xs (Int32.toNatClampNeg (x4 + (1 : Int32))))) <<< (Int32.toInt64 (32 : Int32) &&& 63)) ||| ((Int32.toInt64 (xs (Int32.toNatClampNeg (x4 + (2 : Int32))))) &&& (4294967295 : Int64))), .ref 0]) (σ' := (S, M, O)) rfl hc4 ?_
  refine Ex_go 1 (pc' := 1926) (L' := [some (.ref 2500), some (.ref 0), some (.ref 1000), some (.ref 2000), some (.int x4), none, none, none]) (st' := [.ref 2000, .int (xs (Int32.toNatClampNeg (x4 + (4 : Int32)))), .int (xs (Int32.toNatClampNeg (x4 + (3 : Int32)))), .long (((Int32.toInt64 (xs (Int32.toNatClampNeg (x4 + (1 : Int32))))) <<< (Int32.toInt64 (32 : Int32) &&& 63)) ||| ((Int32.toInt64 (xs (Int32.toNatClampNeg (x4 + (2 : Int32))))) &&& (4294967295 : Int64))), .ref 0]) (σ' := (S, M, O)) (rfl) ?_
  obtain ⟨r5, S7, O8, hx6, hF⟩ := b3_i hF
  refine Ex_callK (K1 := 1) (K2 := K) (kind := 4) (y := 232) (as := [.ref 0, .long (((Int32.toInt64 (xs (Int32.toNatClampNeg (x4 + (1 : Int32))))) <<< (Int32.toInt64 (32 : Int32) &&& 63)) ||| ((Int32.toInt64 (xs (Int32.toNatClampNeg (x4 + (2 : Int32))))) &&& (4294967295 : Int64))), .int (xs (Int32.toNatClampNeg (x4 + (3 : Int32)))), .int (xs (Int32.toNatClampNeg (x4 + (4 : Int32)))), .ref 2000]) (rest := []) (L0 := [some (.ref 0), some (.long (((Int32.toInt64 (xs (Int32.toNatClampNeg (x4 + (1 : Int32))))) <<< (Int32.toInt64 (32 : Int32) &&& 63)) ||| ((Int32.toInt64 (xs (Int32.toNatClampNeg (x4 + (2 : Int32))))) &&& (4294967295 : Int64)))), none, some (.int (xs (Int32.toNatClampNeg (x4 + (3 : Int32))))), some (.int (xs (Int32.toNatClampNeg (x4 + (4 : Int32))))), some (.ref 2000), none]) (d' := 9) (v := some (.int r5)) (σ1 := (S7, M, O8)) rfl rfl mt_232 rfl rfl (by omega) (X_l_sums (Nat.le_refl _) _ _ _ _ _ _ _ _ hx6) (Ex_st (st2 := [.int r5]) rfl ?_) (by omega)
  refine Ex_go 6 (pc' := 1937) (L' := [some (.ref 2500), some (.ref 0), some (.ref 1000), some (.ref 2000), some (.int x4), some (.int r5), none, none]) (st' := [.int (x4 + (1 : Int32)), .ref 2500, .ref 1000]) (σ' := (S7, M, O8)) (rfl) ?_
  obtain ⟨hc9, hF⟩ := ck_i hF
  refine Ex_chk (b := ib (x4 + (1 : Int32)) nL) (pc' := 1938) (L' := [some (.ref 2500), some (.ref 0), some (.ref 1000), some (.ref 2000), some (.int x4), some (.int r5), none, none]) (st' := [.int (xs (Int32.toNatClampNeg (x4 + (1 : Int32)))), .ref 1000]) (σ' := (S7, M, O8)) rfl hc9 ?_
  refine Ex_go 7 (pc' := 1947) (L' := [some (.ref 2500), some (.ref 0), some (.ref 1000), some (.ref 2000), some (.int x4), some (.int r5), none, none]) (st' := [.int (x4 + (2 : Int32)), .ref 2500, .long ((Int32.toInt64 (xs (Int32.toNatClampNeg (x4 + (1 : Int32))))) <<< (Int32.toInt64 (32 : Int32) &&& 63)), .ref 1000]) (σ' := (S7, M, O8)) (rfl) ?_
  obtain ⟨hc10, hF⟩ := ck_i hF
  refine Ex_chk (b := ib (x4 + (2 : Int32)) nL) (pc' := 1948) (L' := [some (.ref 2500), some (.ref 0), some (.ref 1000), some (.ref 2000), some (.int x4), some (.int r5), none, none]) (st' := [.int (xs (Int32.toNatClampNeg (x4 + (2 : Int32)))), .long ((Int32.toInt64 (xs (Int32.toNatClampNeg (x4 + (1 : Int32))))) <<< (Int32.toInt64 (32 : Int32) &&& 63)), .ref 1000]) (σ' := (S7, M, O8)) rfl hc10 ?_
  refine Ex_go 8 (pc' := 1959) (L' := [some (.ref 2500), some (.ref 0), some (.ref 1000), some (.ref 2000), some (.int x4), some (.int r5), none, none]) (st' := [.int (x4 + (3 : Int32)), .ref 2500, .long (((Int32.toInt64 (xs (Int32.toNatClampNeg (x4 + (1 : Int32))))) <<< (Int32.toInt64 (32 : Int32) &&& 63)) ||| ((Int32.toInt64 (xs (Int32.toNatClampNeg (x4 + (2 : Int32))))) &&& (4294967295 : Int64))), .ref 1000]) (σ' := (S7, M, O8)) (rfl) ?_
  obtain ⟨hc11, hF⟩ := ck_i hF
  refine Ex_chk (b := ib (x4 + (3 : Int32)) nL) (pc' := 1960) (L' := [some (.ref 2500), some (.ref 0), some (.ref 1000), some (.ref 2000), some (.int x4), some (.int r5), none, none]) (st' := [.int (xs (Int32.toNatClampNeg (x4 + (3 : Int32)))), .long (((Int32.toInt64 (xs (Int32.toNatClampNeg (x4 + (1 : Int32))))) <<< (Int32.toInt64 (32 : Int32) &&& 63)) ||| ((Int32.toInt64 (xs (Int32.toNatClampNeg (x4 + (2 : Int32))))) &&& (4294967295 : Int64))), .ref 1000]) (σ' := (S7, M, O8)) rfl hc11 ?_
  refine Ex_go 4 (pc' := 1965) (L' := [some (.ref 2500), some (.ref 0), some (.ref 1000), some (.ref 2000), some (.int x4), some (.int r5), none, none]) (st' := [.int (x4 + (4 : Int32)), .ref 2500, .int (xs (Int32.toNatClampNeg (x4 + (3 : Int32)))), .long (((Int32.toInt64 (xs (Int32.toNatClampNeg (x4 + (1 : Int32))))) <<< (Int32.toInt64 (32 : Int32) &&& 63)) ||| ((Int32.toInt64 (xs (Int32.toNatClampNeg (x4 + (2 : Int32))))) &&& (4294967295 : Int64))), .ref 1000]) (σ' := (S7, M, O8)) (rfl) ?_
  obtain ⟨hc12, hF⟩ := ck_i hF
  refine Ex_chk (b := ib (x4 + (4 : Int32)) nL) (pc' := 1966) (L' := [some (.ref 2500), some (.ref 0), some (.ref 1000), some (.ref 2000), some (.int x4), some (.int r5), none, none]) (st' := [.int (xs (Int32.toNatClampNeg (x4 + (4 : Int32)))), .int (xs (Int32.toNatClampNeg (x4 + (3 : Int32)))), .long (((Int32.toInt64 (xs (Int32.toNatClampNeg (x4 + (1 : Int32))))) <<< (Int32.toInt64 (32 : Int32) &&& 63)) ||| ((Int32.toInt64 (xs (Int32.toNatClampNeg (x4 + (2 : Int32))))) &&& (4294967295 : Int64))), .ref 1000]) (σ' := (S7, M, O8)) rfl hc12 ?_
  obtain ⟨r13, M15, hx14, hF⟩ := b2_i hF
  refine Ex_callK (K1 := 0) (K2 := K) (kind := 2) (y := 236) (as := [.ref 1000, .long (((Int32.toInt64 (xs (Int32.toNatClampNeg (x4 + (1 : Int32))))) <<< (Int32.toInt64 (32 : Int32) &&& 63)) ||| ((Int32.toInt64 (xs (Int32.toNatClampNeg (x4 + (2 : Int32))))) &&& (4294967295 : Int64))), .int (xs (Int32.toNatClampNeg (x4 + (3 : Int32)))), .int (xs (Int32.toNatClampNeg (x4 + (4 : Int32))))]) (rest := []) (L0 := [some (.ref 1000), some (.long (((Int32.toInt64 (xs (Int32.toNatClampNeg (x4 + (1 : Int32))))) <<< (Int32.toInt64 (32 : Int32) &&& 63)) ||| ((Int32.toInt64 (xs (Int32.toNatClampNeg (x4 + (2 : Int32))))) &&& (4294967295 : Int64)))), none, some (.int (xs (Int32.toNatClampNeg (x4 + (3 : Int32))))), some (.int (xs (Int32.toNatClampNeg (x4 + (4 : Int32))))), none, none, none, none, none]) (d' := 3) (v := some (.long r13)) (σ1 := (S7, M15, O8)) rfl rfl mt_236 rfl rfl (by omega) (X_m_sums (Nat.le_refl _) _ _ _ _ _ _ hx14) (Ex_st (st2 := [.long r13]) rfl ?_) (by omega)
  refine Ex_go 2 (pc' := 1972) (L' := [some (.ref 2500), some (.ref 0), some (.ref 1000), some (.ref 2000), some (.int x4), some (.int r5), some (.long r13), none]) (st' := [.ref 1000]) (σ' := (S7, M15, O8)) (rfl) ?_
  obtain ⟨r16, hx17, hF⟩ := b1_i hF
  refine Ex_callK (K1 := 0) (K2 := K) (kind := 2) (y := 77) (as := [.ref 1000]) (rest := []) (L0 := [some (.ref 1000)]) (d' := 1) (v := some (.int r16)) (σ1 := (S7, M15, O8)) rfl rfl mt_77 rfl rfl (by omega) (X_m_thrown (Nat.le_refl _) _ _ hx17) (Ex_st (st2 := [.int r16]) rfl ?_) (by omega)
  refine Ex_go 2 (pc' := if r16 = r5 then 1982 else 1980) (L' := [some (.ref 2500), some (.ref 0), some (.ref 1000), some (.ref 2000), some (.int x4), some (.int r5), some (.long r13), none]) (st' := []) (σ' := (S7, M15, O8)) (rfl) ?_
  refine Ex_br (fun hc => ?_) (fun hc => ?_)
  · rw [if_pos hc] at hF
    refine Ex_go 2 (pc' := if ¬ r5 = 0 then 1998 else 1987) (L' := [some (.ref 2500), some (.ref 0), some (.ref 1000), some (.ref 2000), some (.int x4), some (.int r5), some (.long r13), none]) (st' := []) (σ' := (S7, M15, O8)) (rfl) ?_
    refine Ex_brN (fun hc => ?_) (fun hc => ?_)
    · rw [if_pos hc] at hF
      refine Ex_go 2 (pc' := 1989) (L' := [some (.ref 2500), some (.ref 0), some (.ref 1000), some (.ref 2000), some (.int x4), some (.int r5), some (.long r13), none]) (st' := [.int (0 : Int32), .ref 2000]) (σ' := (S7, M15, O8)) (rfl) ?_
      refine Ex_chk (b := ib (0 : Int32) 1) (pc' := 1990) (L' := [some (.ref 2500), some (.ref 0), some (.ref 1000), some (.ref 2000), some (.int x4), some (.int r5), some (.long r13), none]) (st' := [.long (al O8 2000 (Int32.toNatClampNeg (0 : Int32)))]) (σ' := (S7, M15, O8)) rfl (by decide) ?_
      refine Ex_go 3 (pc' := if (lg_cmp (al O8 2000 (Int32.toNatClampNeg (0 : Int32))) r13) = 0 then 1998 else 1996) (L' := [some (.ref 2500), some (.ref 0), some (.ref 1000), some (.ref 2000), some (.int x4), some (.int r5), some (.long r13), none]) (st' := []) (σ' := (S7, M15, O8)) (rfl) ?_
      refine Ex_brI lc_eq (fun hc => ?_) (fun hc => ?_)
      · rw [if_pos hc] at hF
        exact Ex_mono (L := [some (.ref 2500), some (.ref 0), some (.ref 1000), some (.ref 2000), some (.int x4), none, none, none]) (Le_s (Le_s (Le_s (Le_s (Le_s (Le_n (Le_n (Le_n (Le_0))))))))) (X_l_law_1998 hd hk23 _ _ _ _ _ _ _ _ hF) (Nat.le_refl _) (by omega)
      · rw [if_neg hc] at hF
        refine Ex_go 1 (pc' := 1997) (L' := [some (.ref 2500), some (.ref 0), some (.ref 1000), some (.ref 2000), some (.int x4), some (.int r5), some (.long r13), none]) (st' := [.int (0 : Int32)]) (σ' := (S7, M15, O8)) (rfl) ?_
        cases hF
        exact Ex_fin rfl
    · rw [if_neg hc] at hF
      exact Ex_mono (L := [some (.ref 2500), some (.ref 0), some (.ref 1000), some (.ref 2000), some (.int x4), none, none, none]) (Le_s (Le_s (Le_s (Le_s (Le_s (Le_n (Le_n (Le_n (Le_0))))))))) (X_l_law_1998 hd hk23 _ _ _ _ _ _ _ _ hF) (Nat.le_refl _) (by omega)
  · rw [if_neg hc] at hF
    refine Ex_go 1 (pc' := 1981) (L' := [some (.ref 2500), some (.ref 0), some (.ref 1000), some (.ref 2000), some (.int x4), some (.int r5), some (.long r13), none]) (st' := [.int (0 : Int32)]) (σ' := (S7, M15, O8)) (rfl) ?_
    cases hF
    exact Ex_fin rfl
def F_l_law_2125 (nL : Nat) (xs : Nat → Int32) (k23 : Int32 → Sto → Sto → Sto → Option (Int32 × Sto × Sto × Sto)) (x4 : Int32) (S : Sto) (M : Sto) (O : Sto) : Option (Int32 × Sto × Sto × Sto) := F_l_law_2537 nL xs k23 x4 S M O
set_option maxRecDepth 100000 in
theorem X_l_law_2125 {nL : Nat} {xs : Nat → Int32} {d : Nat} (hd : 98 ≤ d) {K : Nat} {k23 : Int32 → Sto → Sto → Sto → Option (Int32 × Sto × Sto × Sto)} (hk23 : ∀ (x4 : Int32) (S : Sto) (M : Sto) (O : Sto) (r : Int32) (S' : Sto) (M' : Sto) (O' : Sto), k23 x4 S M O = some (r, S', M', O') → EX nL xs K MI_281 d 23 [some (.ref 2500), some (.ref 0), some (.ref 1000), some (.ref 2000), some (.int x4), none, none, none] [] (S, M, O) (.inl (some (.int r))) (S', M', O')) : ∀ (x4 : Int32) (S : Sto) (M : Sto) (O : Sto) (r : Int32) (S' : Sto) (M' : Sto) (O' : Sto), F_l_law_2125 nL xs k23 x4 S M O = some (r, S', M', O') → EX nL xs K MI_281 d 2125 [some (.ref 2500), some (.ref 0), some (.ref 1000), some (.ref 2000), some (.int x4), none, none, none] [] (S, M, O) (.inl (some (.int r))) (S', M', O') := by
  intro x4 S M O r S' M' O' hF
  unfold F_l_law_2125 at hF
  refine Ex_go 1 (pc' := 2537) (L' := [some (.ref 2500), some (.ref 0), some (.ref 1000), some (.ref 2000), some (.int x4), none, none, none]) (st' := []) (σ' := (S, M, O)) (rfl) ?_
  exact Ex_mono (L := [some (.ref 2500), some (.ref 0), some (.ref 1000), some (.ref 2000), some (.int x4), none, none, none]) (Le_s (Le_s (Le_s (Le_s (Le_s (Le_n (Le_n (Le_n (Le_0))))))))) (X_l_law_2537 hd hk23 _ _ _ _ _ _ _ _ hF) (Nat.le_refl _) (by omega)
def F_l_law_2093 (nL : Nat) (xs : Nat → Int32) (k23 : Int32 → Sto → Sto → Sto → Option (Int32 × Sto × Sto × Sto)) (x4 : Int32) (x5 : Int32) (s1 : Int64) (s2 : Int32) (s3 : Int32) (S : Sto) (M : Sto) (O : Sto) : Option (Int32 × Sto × Sto × Sto) := b2 (F_m_figures s1 s2 s3 M) (fun r1 M3 => b1 (F_m_thrown M3) (fun r4 => if r4 = x5 then if x5 = 0 then if (al O 2000 (Int32.toNatClampNeg (0 : Int32))) = r1 then F_l_law_2125 nL xs k23 x4 S M3 O else some ((0 : Int32), S, M3, O) else F_l_law_2125 nL xs k23 x4 S M3 O else some ((0 : Int32), S, M3, O)))
set_option maxRecDepth 100000 in
theorem X_l_law_2093 {nL : Nat} {xs : Nat → Int32} {d : Nat} (hd : 98 ≤ d) {K : Nat} {k23 : Int32 → Sto → Sto → Sto → Option (Int32 × Sto × Sto × Sto)} (hk23 : ∀ (x4 : Int32) (S : Sto) (M : Sto) (O : Sto) (r : Int32) (S' : Sto) (M' : Sto) (O' : Sto), k23 x4 S M O = some (r, S', M', O') → EX nL xs K MI_281 d 23 [some (.ref 2500), some (.ref 0), some (.ref 1000), some (.ref 2000), some (.int x4), none, none, none] [] (S, M, O) (.inl (some (.int r))) (S', M', O')) : ∀ (x4 : Int32) (x5 : Int32) (s1 : Int64) (s2 : Int32) (s3 : Int32) (S : Sto) (M : Sto) (O : Sto) (r : Int32) (S' : Sto) (M' : Sto) (O' : Sto), F_l_law_2093 nL xs k23 x4 x5 s1 s2 s3 S M O = some (r, S', M', O') → EX nL xs K MI_281 d 2093 [some (.ref 2500), some (.ref 0), some (.ref 1000), some (.ref 2000), some (.int x4), some (.int x5), none, none] [.int s3, .int s2, .long s1, .ref 1000] (S, M, O) (.inl (some (.int r))) (S', M', O') := by
  intro x4 x5 s1 s2 s3 S M O r S' M' O' hF
  unfold F_l_law_2093 at hF
  obtain ⟨r1, M3, hx2, hF⟩ := b2_i hF
  refine Ex_callK (K1 := 0) (K2 := K) (kind := 2) (y := 243) (as := [.ref 1000, .long s1, .int s2, .int s3]) (rest := []) (L0 := [some (.ref 1000), some (.long s1), none, some (.int s2), some (.int s3)]) (d' := 7) (v := some (.long r1)) (σ1 := (S, M3, O)) rfl rfl mt_243 rfl rfl (by omega) (X_m_figures (Nat.le_refl _) _ _ _ _ _ _ hx2) (Ex_st (st2 := [.long r1]) rfl ?_) (by omega)
  refine Ex_go 2 (pc' := 2099) (L' := [some (.ref 2500), some (.ref 0), some (.ref 1000), some (.ref 2000), some (.int x4), some (.int x5), some (.long r1), none]) (st' := [.ref 1000]) (σ' := (S, M3, O)) (rfl) ?_
  obtain ⟨r4, hx5, hF⟩ := b1_i hF
  refine Ex_callK (K1 := 0) (K2 := K) (kind := 2) (y := 77) (as := [.ref 1000]) (rest := []) (L0 := [some (.ref 1000)]) (d' := 1) (v := some (.int r4)) (σ1 := (S, M3, O)) rfl rfl mt_77 rfl rfl (by omega) (X_m_thrown (Nat.le_refl _) _ _ hx5) (Ex_st (st2 := [.int r4]) rfl ?_) (by omega)
  refine Ex_go 2 (pc' := if r4 = x5 then 2109 else 2107) (L' := [some (.ref 2500), some (.ref 0), some (.ref 1000), some (.ref 2000), some (.int x4), some (.int x5), some (.long r1), none]) (st' := []) (σ' := (S, M3, O)) (rfl) ?_
  refine Ex_br (fun hc => ?_) (fun hc => ?_)
  · rw [if_pos hc] at hF
    refine Ex_go 2 (pc' := if ¬ x5 = 0 then 2125 else 2114) (L' := [some (.ref 2500), some (.ref 0), some (.ref 1000), some (.ref 2000), some (.int x4), some (.int x5), some (.long r1), none]) (st' := []) (σ' := (S, M3, O)) (rfl) ?_
    refine Ex_brN (fun hc => ?_) (fun hc => ?_)
    · rw [if_pos hc] at hF
      refine Ex_go 2 (pc' := 2116) (L' := [some (.ref 2500), some (.ref 0), some (.ref 1000), some (.ref 2000), some (.int x4), some (.int x5), some (.long r1), none]) (st' := [.int (0 : Int32), .ref 2000]) (σ' := (S, M3, O)) (rfl) ?_
      refine Ex_chk (b := ib (0 : Int32) 1) (pc' := 2117) (L' := [some (.ref 2500), some (.ref 0), some (.ref 1000), some (.ref 2000), some (.int x4), some (.int x5), some (.long r1), none]) (st' := [.long (al O 2000 (Int32.toNatClampNeg (0 : Int32)))]) (σ' := (S, M3, O)) rfl (by decide) ?_
      refine Ex_go 3 (pc' := if (lg_cmp (al O 2000 (Int32.toNatClampNeg (0 : Int32))) r1) = 0 then 2125 else 2123) (L' := [some (.ref 2500), some (.ref 0), some (.ref 1000), some (.ref 2000), some (.int x4), some (.int x5), some (.long r1), none]) (st' := []) (σ' := (S, M3, O)) (rfl) ?_
      refine Ex_brI lc_eq (fun hc => ?_) (fun hc => ?_)
      · rw [if_pos hc] at hF
        exact Ex_mono (L := [some (.ref 2500), some (.ref 0), some (.ref 1000), some (.ref 2000), some (.int x4), none, none, none]) (Le_s (Le_s (Le_s (Le_s (Le_s (Le_n (Le_n (Le_n (Le_0))))))))) (X_l_law_2125 hd hk23 _ _ _ _ _ _ _ _ hF) (Nat.le_refl _) (by omega)
      · rw [if_neg hc] at hF
        refine Ex_go 1 (pc' := 2124) (L' := [some (.ref 2500), some (.ref 0), some (.ref 1000), some (.ref 2000), some (.int x4), some (.int x5), some (.long r1), none]) (st' := [.int (0 : Int32)]) (σ' := (S, M3, O)) (rfl) ?_
        cases hF
        exact Ex_fin rfl
    · rw [if_neg hc] at hF
      exact Ex_mono (L := [some (.ref 2500), some (.ref 0), some (.ref 1000), some (.ref 2000), some (.int x4), none, none, none]) (Le_s (Le_s (Le_s (Le_s (Le_s (Le_n (Le_n (Le_n (Le_0))))))))) (X_l_law_2125 hd hk23 _ _ _ _ _ _ _ _ hF) (Nat.le_refl _) (by omega)
  · rw [if_neg hc] at hF
    refine Ex_go 1 (pc' := 2108) (L' := [some (.ref 2500), some (.ref 0), some (.ref 1000), some (.ref 2000), some (.int x4), some (.int x5), some (.long r1), none]) (st' := [.int (0 : Int32)]) (σ' := (S, M3, O)) (rfl) ?_
    cases hF
    exact Ex_fin rfl
def F_l_law_2044 (nL : Nat) (xs : Nat → Int32) (k23 : Int32 → Sto → Sto → Sto → Option (Int32 × Sto × Sto × Sto)) (x4 : Int32) (s1 : Int64) (s2 : Int32) (s3 : Int32) (S : Sto) (M : Sto) (O : Sto) : Option (Int32 × Sto × Sto × Sto) := b2 (F_l_figures s1 s2 s3 O) (fun r1 O3 => ck (ib (x4 + (1 : Int32)) nL) (ck (ib (x4 + (2 : Int32)) nL) (ck (ib (x4 + (3 : Int32)) nL) (ck (ib (x4 + (4 : Int32)) nL) (if (xs (Int32.toNatClampNeg (x4 + (4 : Int32)))) = 0 then F_l_law_2093 nL xs k23 x4 r1 (((Int32.toInt64 (xs (Int32.toNatClampNeg (x4 + (1 : Int32))))) <<< (Int32.toInt64 (32 : Int32) &&& 63)) ||| ((Int32.toInt64 (xs (Int32.toNatClampNeg (x4 + (2 : Int32))))) &&& (4294967295 : Int64))) (xs (Int32.toNatClampNeg (x4 + (3 : Int32)))) (0 : Int32) S M O3 else F_l_law_2093 nL xs k23 x4 r1 (((Int32.toInt64 (xs (Int32.toNatClampNeg (x4 + (1 : Int32))))) <<< (Int32.toInt64 (32 : Int32) &&& 63)) ||| ((Int32.toInt64 (xs (Int32.toNatClampNeg (x4 + (2 : Int32))))) &&& (4294967295 : Int64))) (xs (Int32.toNatClampNeg (x4 + (3 : Int32)))) (1 : Int32) S M O3)))))
set_option maxRecDepth 100000 in
theorem X_l_law_2044 {nL : Nat} {xs : Nat → Int32} {d : Nat} (hd : 98 ≤ d) {K : Nat} {k23 : Int32 → Sto → Sto → Sto → Option (Int32 × Sto × Sto × Sto)} (hk23 : ∀ (x4 : Int32) (S : Sto) (M : Sto) (O : Sto) (r : Int32) (S' : Sto) (M' : Sto) (O' : Sto), k23 x4 S M O = some (r, S', M', O') → EX nL xs K MI_281 d 23 [some (.ref 2500), some (.ref 0), some (.ref 1000), some (.ref 2000), some (.int x4), none, none, none] [] (S, M, O) (.inl (some (.int r))) (S', M', O')) : ∀ (x4 : Int32) (s1 : Int64) (s2 : Int32) (s3 : Int32) (S : Sto) (M : Sto) (O : Sto) (r : Int32) (S' : Sto) (M' : Sto) (O' : Sto), F_l_law_2044 nL xs k23 x4 s1 s2 s3 S M O = some (r, S', M', O') → EX nL xs (K + 1) MI_281 d 2044 [some (.ref 2500), some (.ref 0), some (.ref 1000), some (.ref 2000), some (.int x4), none, none, none] [.int s3, .int s2, .long s1, .ref 0] (S, M, O) (.inl (some (.int r))) (S', M', O') := by
  intro x4 s1 s2 s3 S M O r S' M' O' hF
  unfold F_l_law_2044 at hF
  refine Ex_go 1 (pc' := 2045) (L' := [some (.ref 2500), some (.ref 0), some (.ref 1000), some (.ref 2000), some (.int x4), none, none, none]) (st' := [.ref 2000, .int s3, .int s2, .long s1, .ref 0]) (σ' := (S, M, O)) (rfl) ?_
  obtain ⟨r1, O3, hx2, hF⟩ := b2_i hF
  refine Ex_callK (K1 := 1) (K2 := K) (kind := 4) (y := 240) (as := [.ref 0, .long s1, .int s2, .int s3, .ref 2000]) (rest := []) (L0 := [some (.ref 0), some (.long s1), none, some (.int s2), some (.int s3), some (.ref 2000), none]) (d' := 9) (v := some (.int r1)) (σ1 := (S, M, O3)) rfl rfl mt_240 rfl rfl (by omega) (X_l_figures (Nat.le_refl _) _ _ _ _ _ _ hx2) (Ex_st (st2 := [.int r1]) rfl ?_) (by omega)
  refine Ex_go 6 (pc' := 2056) (L' := [some (.ref 2500), some (.ref 0), some (.ref 1000), some (.ref 2000), some (.int x4), some (.int r1), none, none]) (st' := [.int (x4 + (1 : Int32)), .ref 2500, .ref 1000]) (σ' := (S, M, O3)) (rfl) ?_
  obtain ⟨hc4, hF⟩ := ck_i hF
  refine Ex_chk (b := ib (x4 + (1 : Int32)) nL) (pc' := 2057) (L' := [some (.ref 2500), some (.ref 0), some (.ref 1000), some (.ref 2000), some (.int x4), some (.int r1), none, none]) (st' := [.int (xs (Int32.toNatClampNeg (x4 + (1 : Int32)))), .ref 1000]) (σ' := (S, M, O3)) rfl hc4 ?_
  refine Ex_go 7 (pc' := 2066) (L' := [some (.ref 2500), some (.ref 0), some (.ref 1000), some (.ref 2000), some (.int x4), some (.int r1), none, none]) (st' := [.int (x4 + (2 : Int32)), .ref 2500, .long ((Int32.toInt64 (xs (Int32.toNatClampNeg (x4 + (1 : Int32))))) <<< (Int32.toInt64 (32 : Int32) &&& 63)), .ref 1000]) (σ' := (S, M, O3)) (rfl) ?_
  obtain ⟨hc5, hF⟩ := ck_i hF
  refine Ex_chk (b := ib (x4 + (2 : Int32)) nL) (pc' := 2067) (L' := [some (.ref 2500), some (.ref 0), some (.ref 1000), some (.ref 2000), some (.int x4), some (.int r1), none, none]) (st' := [.int (xs (Int32.toNatClampNeg (x4 + (2 : Int32)))), .long ((Int32.toInt64 (xs (Int32.toNatClampNeg (x4 + (1 : Int32))))) <<< (Int32.toInt64 (32 : Int32) &&& 63)), .ref 1000]) (σ' := (S, M, O3)) rfl hc5 ?_
  refine Ex_go 8 (pc' := 2078) (L' := [some (.ref 2500), some (.ref 0), some (.ref 1000), some (.ref 2000), some (.int x4), some (.int r1), none, none]) (st' := [.int (x4 + (3 : Int32)), .ref 2500, .long (((Int32.toInt64 (xs (Int32.toNatClampNeg (x4 + (1 : Int32))))) <<< (Int32.toInt64 (32 : Int32) &&& 63)) ||| ((Int32.toInt64 (xs (Int32.toNatClampNeg (x4 + (2 : Int32))))) &&& (4294967295 : Int64))), .ref 1000]) (σ' := (S, M, O3)) (rfl) ?_
  obtain ⟨hc6, hF⟩ := ck_i hF
  refine Ex_chk (b := ib (x4 + (3 : Int32)) nL) (pc' := 2079) (L' := [some (.ref 2500), some (.ref 0), some (.ref 1000), some (.ref 2000), some (.int x4), some (.int r1), none, none]) (st' := [.int (xs (Int32.toNatClampNeg (x4 + (3 : Int32)))), .long (((Int32.toInt64 (xs (Int32.toNatClampNeg (x4 + (1 : Int32))))) <<< (Int32.toInt64 (32 : Int32) &&& 63)) ||| ((Int32.toInt64 (xs (Int32.toNatClampNeg (x4 + (2 : Int32))))) &&& (4294967295 : Int64))), .ref 1000]) (σ' := (S, M, O3)) rfl hc6 ?_
  refine Ex_go 4 (pc' := 2084) (L' := [some (.ref 2500), some (.ref 0), some (.ref 1000), some (.ref 2000), some (.int x4), some (.int r1), none, none]) (st' := [.int (x4 + (4 : Int32)), .ref 2500, .int (xs (Int32.toNatClampNeg (x4 + (3 : Int32)))), .long (((Int32.toInt64 (xs (Int32.toNatClampNeg (x4 + (1 : Int32))))) <<< (Int32.toInt64 (32 : Int32) &&& 63)) ||| ((Int32.toInt64 (xs (Int32.toNatClampNeg (x4 + (2 : Int32))))) &&& (4294967295 : Int64))), .ref 1000]) (σ' := (S, M, O3)) (rfl) ?_
  obtain ⟨hc7, hF⟩ := ck_i hF
  refine Ex_chk (b := ib (x4 + (4 : Int32)) nL) (pc' := 2085) (L' := [some (.ref 2500), some (.ref 0), some (.ref 1000), some (.ref 2000), some (.int x4), some (.int r1), none, none]) (st' := [.int (xs (Int32.toNatClampNeg (x4 + (4 : Int32)))), .int (xs (Int32.toNatClampNeg (x4 + (3 : Int32)))), .long (((Int32.toInt64 (xs (Int32.toNatClampNeg (x4 + (1 : Int32))))) <<< (Int32.toInt64 (32 : Int32) &&& 63)) ||| ((Int32.toInt64 (xs (Int32.toNatClampNeg (x4 + (2 : Int32))))) &&& (4294967295 : Int64))), .ref 1000]) (σ' := (S, M, O3)) rfl hc7 ?_
  refine Ex_go 1 (pc' := if (xs (Int32.toNatClampNeg (x4 + (4 : Int32)))) = 0 then 2092 else 2088) (L' := [some (.ref 2500), some (.ref 0), some (.ref 1000), some (.ref 2000), some (.int x4), some (.int r1), none, none]) (st' := [.int (xs (Int32.toNatClampNeg (x4 + (3 : Int32)))), .long (((Int32.toInt64 (xs (Int32.toNatClampNeg (x4 + (1 : Int32))))) <<< (Int32.toInt64 (32 : Int32) &&& 63)) ||| ((Int32.toInt64 (xs (Int32.toNatClampNeg (x4 + (2 : Int32))))) &&& (4294967295 : Int64))), .ref 1000]) (σ' := (S, M, O3)) (rfl) ?_
  refine Ex_br (fun hc => ?_) (fun hc => ?_)
  · rw [if_pos hc] at hF
    refine Ex_go 1 (pc' := 2093) (L' := [some (.ref 2500), some (.ref 0), some (.ref 1000), some (.ref 2000), some (.int x4), some (.int r1), none, none]) (st' := [.int (0 : Int32), .int (xs (Int32.toNatClampNeg (x4 + (3 : Int32)))), .long (((Int32.toInt64 (xs (Int32.toNatClampNeg (x4 + (1 : Int32))))) <<< (Int32.toInt64 (32 : Int32) &&& 63)) ||| ((Int32.toInt64 (xs (Int32.toNatClampNeg (x4 + (2 : Int32))))) &&& (4294967295 : Int64))), .ref 1000]) (σ' := (S, M, O3)) (rfl) ?_
    exact Ex_mono (L := [some (.ref 2500), some (.ref 0), some (.ref 1000), some (.ref 2000), some (.int x4), some (.int r1), none, none]) (Le_s (Le_s (Le_s (Le_s (Le_s (Le_s (Le_n (Le_n (Le_0))))))))) (X_l_law_2093 hd hk23 _ _ _ _ _ _ _ _ _ _ _ _ hF) (Nat.le_refl _) (by omega)
  · rw [if_neg hc] at hF
    refine Ex_go 2 (pc' := 2093) (L' := [some (.ref 2500), some (.ref 0), some (.ref 1000), some (.ref 2000), some (.int x4), some (.int r1), none, none]) (st' := [.int (1 : Int32), .int (xs (Int32.toNatClampNeg (x4 + (3 : Int32)))), .long (((Int32.toInt64 (xs (Int32.toNatClampNeg (x4 + (1 : Int32))))) <<< (Int32.toInt64 (32 : Int32) &&& 63)) ||| ((Int32.toInt64 (xs (Int32.toNatClampNeg (x4 + (2 : Int32))))) &&& (4294967295 : Int64))), .ref 1000]) (σ' := (S, M, O3)) (rfl) ?_
    exact Ex_mono (L := [some (.ref 2500), some (.ref 0), some (.ref 1000), some (.ref 2000), some (.int x4), some (.int r1), none, none]) (Le_s (Le_s (Le_s (Le_s (Le_s (Le_s (Le_n (Le_n (Le_0))))))))) (X_l_law_2093 hd hk23 _ _ _ _ _ _ _ _ _ _ _ _ hF) (Nat.le_refl _) (by omega)
def F_l_law_2001 (nL : Nat) (xs : Nat → Int32) (k23 : Int32 → Sto → Sto → Sto → Option (Int32 × Sto × Sto × Sto)) (x4 : Int32) (S : Sto) (M : Sto) (O : Sto) : Option (Int32 × Sto × Sto × Sto) := ck (ib (x4 + (1 : Int32)) nL) (ck (ib (x4 + (2 : Int32)) nL) (ck (ib (x4 + (3 : Int32)) nL) (ck (ib (x4 + (4 : Int32)) nL) (if (xs (Int32.toNatClampNeg (x4 + (4 : Int32)))) = 0 then F_l_law_2044 nL xs k23 x4 (((Int32.toInt64 (xs (Int32.toNatClampNeg (x4 + (1 : Int32))))) <<< (Int32.toInt64 (32 : Int32) &&& 63)) ||| ((Int32.toInt64 (xs (Int32.toNatClampNeg (x4 + (2 : Int32))))) &&& (4294967295 : Int64))) (xs (Int32.toNatClampNeg (x4 + (3 : Int32)))) (0 : Int32) S M O else F_l_law_2044 nL xs k23 x4 (((Int32.toInt64 (xs (Int32.toNatClampNeg (x4 + (1 : Int32))))) <<< (Int32.toInt64 (32 : Int32) &&& 63)) ||| ((Int32.toInt64 (xs (Int32.toNatClampNeg (x4 + (2 : Int32))))) &&& (4294967295 : Int64))) (xs (Int32.toNatClampNeg (x4 + (3 : Int32)))) (1 : Int32) S M O))))
set_option maxRecDepth 100000 in
theorem X_l_law_2001 {nL : Nat} {xs : Nat → Int32} {d : Nat} (hd : 98 ≤ d) {K : Nat} {k23 : Int32 → Sto → Sto → Sto → Option (Int32 × Sto × Sto × Sto)} (hk23 : ∀ (x4 : Int32) (S : Sto) (M : Sto) (O : Sto) (r : Int32) (S' : Sto) (M' : Sto) (O' : Sto), k23 x4 S M O = some (r, S', M', O') → EX nL xs K MI_281 d 23 [some (.ref 2500), some (.ref 0), some (.ref 1000), some (.ref 2000), some (.int x4), none, none, none] [] (S, M, O) (.inl (some (.int r))) (S', M', O')) : ∀ (x4 : Int32) (S : Sto) (M : Sto) (O : Sto) (r : Int32) (S' : Sto) (M' : Sto) (O' : Sto), F_l_law_2001 nL xs k23 x4 S M O = some (r, S', M', O') → EX nL xs (K + 1) MI_281 d 2001 [some (.ref 2500), some (.ref 0), some (.ref 1000), some (.ref 2000), some (.int x4), none, none, none] [] (S, M, O) (.inl (some (.int r))) (S', M', O') := by
  intro x4 S M O r S' M' O' hF
  unfold F_l_law_2001 at hF
  refine Ex_go 5 (pc' := 2007) (L' := [some (.ref 2500), some (.ref 0), some (.ref 1000), some (.ref 2000), some (.int x4), none, none, none]) (st' := [.int (x4 + (1 : Int32)), .ref 2500, .ref 0]) (σ' := (S, M, O)) (rfl) ?_
  obtain ⟨hc1, hF⟩ := ck_i hF
  refine Ex_chk (b := ib (x4 + (1 : Int32)) nL) (pc' := 2008) (L' := [some (.ref 2500), some (.ref 0), some (.ref 1000), some (.ref 2000), some (.int x4), none, none, none]) (st' := [.int (xs (Int32.toNatClampNeg (x4 + (1 : Int32)))), .ref 0]) (σ' := (S, M, O)) rfl hc1 ?_
  refine Ex_go 7 (pc' := 2017) (L' := [some (.ref 2500), some (.ref 0), some (.ref 1000), some (.ref 2000), some (.int x4), none, none, none]) (st' := [.int (x4 + (2 : Int32)), .ref 2500, .long ((Int32.toInt64 (xs (Int32.toNatClampNeg (x4 + (1 : Int32))))) <<< (Int32.toInt64 (32 : Int32) &&& 63)), .ref 0]) (σ' := (S, M, O)) (rfl) ?_
  obtain ⟨hc2, hF⟩ := ck_i hF
  refine Ex_chk (b := ib (x4 + (2 : Int32)) nL) (pc' := 2018) (L' := [some (.ref 2500), some (.ref 0), some (.ref 1000), some (.ref 2000), some (.int x4), none, none, none]) (st' := [.int (xs (Int32.toNatClampNeg (x4 + (2 : Int32)))), .long ((Int32.toInt64 (xs (Int32.toNatClampNeg (x4 + (1 : Int32))))) <<< (Int32.toInt64 (32 : Int32) &&& 63)), .ref 0]) (σ' := (S, M, O)) rfl hc2 ?_
  refine Ex_go 8 (pc' := 2029) (L' := [some (.ref 2500), some (.ref 0), some (.ref 1000), some (.ref 2000), some (.int x4), none, none, none]) (st' := [.int (x4 + (3 : Int32)), .ref 2500, .long (((Int32.toInt64 (xs (Int32.toNatClampNeg (x4 + (1 : Int32))))) <<< (Int32.toInt64 (32 : Int32) &&& 63)) ||| ((Int32.toInt64 (xs (Int32.toNatClampNeg (x4 + (2 : Int32))))) &&& (4294967295 : Int64))), .ref 0]) (σ' := (S, M, O)) (rfl) ?_
  obtain ⟨hc3, hF⟩ := ck_i hF
  refine Ex_chk (b := ib (x4 + (3 : Int32)) nL) (pc' := 2030) (L' := [some (.ref 2500), some (.ref 0), some (.ref 1000), some (.ref 2000), some (.int x4), none, none, none]) (st' := [.int (xs (Int32.toNatClampNeg (x4 + (3 : Int32)))), .long (((Int32.toInt64 (xs (Int32.toNatClampNeg (x4 + (1 : Int32))))) <<< (Int32.toInt64 (32 : Int32) &&& 63)) ||| ((Int32.toInt64 (xs (Int32.toNatClampNeg (x4 + (2 : Int32))))) &&& (4294967295 : Int64))), .ref 0]) (σ' := (S, M, O)) rfl hc3 ?_
  refine Ex_go 4 (pc' := 2035) (L' := [some (.ref 2500), some (.ref 0), some (.ref 1000), some (.ref 2000), some (.int x4), none, none, none]) (st' := [.int (x4 + (4 : Int32)), .ref 2500, .int (xs (Int32.toNatClampNeg (x4 + (3 : Int32)))), .long (((Int32.toInt64 (xs (Int32.toNatClampNeg (x4 + (1 : Int32))))) <<< (Int32.toInt64 (32 : Int32) &&& 63)) ||| ((Int32.toInt64 (xs (Int32.toNatClampNeg (x4 + (2 : Int32))))) &&& (4294967295 : Int64))), .ref 0]) (σ' := (S, M, O)) (rfl) ?_
  obtain ⟨hc4, hF⟩ := ck_i hF
  refine Ex_chk (b := ib (x4 + (4 : Int32)) nL) (pc' := 2036) (L' := [some (.ref 2500), some (.ref 0), some (.ref 1000), some (.ref 2000), some (.int x4), none, none, none]) (st' := [.int (xs (Int32.toNatClampNeg (x4 + (4 : Int32)))), .int (xs (Int32.toNatClampNeg (x4 + (3 : Int32)))), .long (((Int32.toInt64 (xs (Int32.toNatClampNeg (x4 + (1 : Int32))))) <<< (Int32.toInt64 (32 : Int32) &&& 63)) ||| ((Int32.toInt64 (xs (Int32.toNatClampNeg (x4 + (2 : Int32))))) &&& (4294967295 : Int64))), .ref 0]) (σ' := (S, M, O)) rfl hc4 ?_
  refine Ex_go 1 (pc' := if (xs (Int32.toNatClampNeg (x4 + (4 : Int32)))) = 0 then 2043 else 2039) (L' := [some (.ref 2500), some (.ref 0), some (.ref 1000), some (.ref 2000), some (.int x4), none, none, none]) (st' := [.int (xs (Int32.toNatClampNeg (x4 + (3 : Int32)))), .long (((Int32.toInt64 (xs (Int32.toNatClampNeg (x4 + (1 : Int32))))) <<< (Int32.toInt64 (32 : Int32) &&& 63)) ||| ((Int32.toInt64 (xs (Int32.toNatClampNeg (x4 + (2 : Int32))))) &&& (4294967295 : Int64))), .ref 0]) (σ' := (S, M, O)) (rfl) ?_
  refine Ex_br (fun hc => ?_) (fun hc => ?_)
  · rw [if_pos hc] at hF
    refine Ex_go 1 (pc' := 2044) (L' := [some (.ref 2500), some (.ref 0), some (.ref 1000), some (.ref 2000), some (.int x4), none, none, none]) (st' := [.int (0 : Int32), .int (xs (Int32.toNatClampNeg (x4 + (3 : Int32)))), .long (((Int32.toInt64 (xs (Int32.toNatClampNeg (x4 + (1 : Int32))))) <<< (Int32.toInt64 (32 : Int32) &&& 63)) ||| ((Int32.toInt64 (xs (Int32.toNatClampNeg (x4 + (2 : Int32))))) &&& (4294967295 : Int64))), .ref 0]) (σ' := (S, M, O)) (rfl) ?_
    exact Ex_mono (L := [some (.ref 2500), some (.ref 0), some (.ref 1000), some (.ref 2000), some (.int x4), none, none, none]) (Le_s (Le_s (Le_s (Le_s (Le_s (Le_n (Le_n (Le_n (Le_0))))))))) (X_l_law_2044 hd hk23 _ _ _ _ _ _ _ _ _ _ _ hF) (Nat.le_refl _) (by omega)
  · rw [if_neg hc] at hF
    refine Ex_go 2 (pc' := 2044) (L' := [some (.ref 2500), some (.ref 0), some (.ref 1000), some (.ref 2000), some (.int x4), none, none, none]) (st' := [.int (1 : Int32), .int (xs (Int32.toNatClampNeg (x4 + (3 : Int32)))), .long (((Int32.toInt64 (xs (Int32.toNatClampNeg (x4 + (1 : Int32))))) <<< (Int32.toInt64 (32 : Int32) &&& 63)) ||| ((Int32.toInt64 (xs (Int32.toNatClampNeg (x4 + (2 : Int32))))) &&& (4294967295 : Int64))), .ref 0]) (σ' := (S, M, O)) (rfl) ?_
    exact Ex_mono (L := [some (.ref 2500), some (.ref 0), some (.ref 1000), some (.ref 2000), some (.int x4), none, none, none]) (Le_s (Le_s (Le_s (Le_s (Le_s (Le_n (Le_n (Le_n (Le_0))))))))) (X_l_law_2044 hd hk23 _ _ _ _ _ _ _ _ _ _ _ hF) (Nat.le_refl _) (by omega)
def F_l_law_2192 (nL : Nat) (xs : Nat → Int32) (k23 : Int32 → Sto → Sto → Sto → Option (Int32 × Sto × Sto × Sto)) (x4 : Int32) (S : Sto) (M : Sto) (O : Sto) : Option (Int32 × Sto × Sto × Sto) := F_l_law_2537 nL xs k23 x4 S M O
set_option maxRecDepth 100000 in
theorem X_l_law_2192 {nL : Nat} {xs : Nat → Int32} {d : Nat} (hd : 98 ≤ d) {K : Nat} {k23 : Int32 → Sto → Sto → Sto → Option (Int32 × Sto × Sto × Sto)} (hk23 : ∀ (x4 : Int32) (S : Sto) (M : Sto) (O : Sto) (r : Int32) (S' : Sto) (M' : Sto) (O' : Sto), k23 x4 S M O = some (r, S', M', O') → EX nL xs K MI_281 d 23 [some (.ref 2500), some (.ref 0), some (.ref 1000), some (.ref 2000), some (.int x4), none, none, none] [] (S, M, O) (.inl (some (.int r))) (S', M', O')) : ∀ (x4 : Int32) (S : Sto) (M : Sto) (O : Sto) (r : Int32) (S' : Sto) (M' : Sto) (O' : Sto), F_l_law_2192 nL xs k23 x4 S M O = some (r, S', M', O') → EX nL xs K MI_281 d 2192 [some (.ref 2500), some (.ref 0), some (.ref 1000), some (.ref 2000), some (.int x4), none, none, none] [] (S, M, O) (.inl (some (.int r))) (S', M', O') := by
  intro x4 S M O r S' M' O' hF
  unfold F_l_law_2192 at hF
  refine Ex_go 1 (pc' := 2537) (L' := [some (.ref 2500), some (.ref 0), some (.ref 1000), some (.ref 2000), some (.int x4), none, none, none]) (st' := []) (σ' := (S, M, O)) (rfl) ?_
  exact Ex_mono (L := [some (.ref 2500), some (.ref 0), some (.ref 1000), some (.ref 2000), some (.int x4), none, none, none]) (Le_s (Le_s (Le_s (Le_s (Le_s (Le_n (Le_n (Le_n (Le_0))))))))) (X_l_law_2537 hd hk23 _ _ _ _ _ _ _ _ hF) (Nat.le_refl _) (by omega)
def F_l_law_2128 (nL : Nat) (xs : Nat → Int32) (k23 : Int32 → Sto → Sto → Sto → Option (Int32 × Sto × Sto × Sto)) (x4 : Int32) (S : Sto) (M : Sto) (O : Sto) : Option (Int32 × Sto × Sto × Sto) := ck (ib (x4 + (1 : Int32)) nL) (ck (ib (x4 + (2 : Int32)) nL) (b2 (F_l_split (xs (Int32.toNatClampNeg (x4 + (1 : Int32)))) (xs (Int32.toNatClampNeg (x4 + (2 : Int32)))) S O) (fun r3 O5 => ck (ib (x4 + (1 : Int32)) nL) (ck (ib (x4 + (2 : Int32)) nL) (b2 (F_m_split (xs (Int32.toNatClampNeg (x4 + (1 : Int32)))) (xs (Int32.toNatClampNeg (x4 + (2 : Int32)))) M) (fun r8 M10 => b1 (F_m_thrown M10) (fun r11 => if r11 = r3 then if r3 = 0 then if (al O5 2000 (Int32.toNatClampNeg (0 : Int32))) = r8 then F_l_law_2192 nL xs k23 x4 S M10 O5 else some ((0 : Int32), S, M10, O5) else F_l_law_2192 nL xs k23 x4 S M10 O5 else some ((0 : Int32), S, M10, O5))))))))
set_option maxRecDepth 100000 in
theorem X_l_law_2128 {nL : Nat} {xs : Nat → Int32} {d : Nat} (hd : 98 ≤ d) {K : Nat} {k23 : Int32 → Sto → Sto → Sto → Option (Int32 × Sto × Sto × Sto)} (hk23 : ∀ (x4 : Int32) (S : Sto) (M : Sto) (O : Sto) (r : Int32) (S' : Sto) (M' : Sto) (O' : Sto), k23 x4 S M O = some (r, S', M', O') → EX nL xs K MI_281 d 23 [some (.ref 2500), some (.ref 0), some (.ref 1000), some (.ref 2000), some (.int x4), none, none, none] [] (S, M, O) (.inl (some (.int r))) (S', M', O')) : ∀ (x4 : Int32) (S : Sto) (M : Sto) (O : Sto) (r : Int32) (S' : Sto) (M' : Sto) (O' : Sto), F_l_law_2128 nL xs k23 x4 S M O = some (r, S', M', O') → EX nL xs (K + 1) MI_281 d 2128 [some (.ref 2500), some (.ref 0), some (.ref 1000), some (.ref 2000), some (.int x4), none, none, none] [] (S, M, O) (.inl (some (.int r))) (S', M', O') := by
  intro x4 S M O r S' M' O' hF
  unfold F_l_law_2128 at hF
  refine Ex_go 5 (pc' := 2134) (L' := [some (.ref 2500), some (.ref 0), some (.ref 1000), some (.ref 2000), some (.int x4), none, none, none]) (st' := [.int (x4 + (1 : Int32)), .ref 2500, .ref 0]) (σ' := (S, M, O)) (rfl) ?_
  obtain ⟨hc1, hF⟩ := ck_i hF
  refine Ex_chk (b := ib (x4 + (1 : Int32)) nL) (pc' := 2135) (L' := [some (.ref 2500), some (.ref 0), some (.ref 1000), some (.ref 2000), some (.int x4), none, none, none]) (st' := [.int (xs (Int32.toNatClampNeg (x4 + (1 : Int32)))), .ref 0]) (σ' := (S, M, O)) rfl hc1 ?_
  refine Ex_go 4 (pc' := 2140) (L' := [some (.ref 2500), some (.ref 0), some (.ref 1000), some (.ref 2000), some (.int x4), none, none, none]) (st' := [.int (x4 + (2 : Int32)), .ref 2500, .int (xs (Int32.toNatClampNeg (x4 + (1 : Int32)))), .ref 0]) (σ' := (S, M, O)) (rfl) ?_
  obtain ⟨hc2, hF⟩ := ck_i hF
  refine Ex_chk (b := ib (x4 + (2 : Int32)) nL) (pc' := 2141) (L' := [some (.ref 2500), some (.ref 0), some (.ref 1000), some (.ref 2000), some (.int x4), none, none, none]) (st' := [.int (xs (Int32.toNatClampNeg (x4 + (2 : Int32)))), .int (xs (Int32.toNatClampNeg (x4 + (1 : Int32)))), .ref 0]) (σ' := (S, M, O)) rfl hc2 ?_
  refine Ex_go 1 (pc' := 2142) (L' := [some (.ref 2500), some (.ref 0), some (.ref 1000), some (.ref 2000), some (.int x4), none, none, none]) (st' := [.ref 2000, .int (xs (Int32.toNatClampNeg (x4 + (2 : Int32)))), .int (xs (Int32.toNatClampNeg (x4 + (1 : Int32)))), .ref 0]) (σ' := (S, M, O)) (rfl) ?_
  obtain ⟨r3, O5, hx4, hF⟩ := b2_i hF
  refine Ex_callK (K1 := 1) (K2 := K) (kind := 4) (y := 245) (as := [.ref 0, .int (xs (Int32.toNatClampNeg (x4 + (1 : Int32)))), .int (xs (Int32.toNatClampNeg (x4 + (2 : Int32)))), .ref 2000]) (rest := []) (L0 := [some (.ref 0), some (.int (xs (Int32.toNatClampNeg (x4 + (1 : Int32))))), some (.int (xs (Int32.toNatClampNeg (x4 + (2 : Int32))))), some (.ref 2000), none]) (d' := 9) (v := some (.int r3)) (σ1 := (S, M, O5)) rfl rfl mt_245 rfl rfl (by omega) (X_l_split (Nat.le_refl _) _ _ _ _ _ _ hx4) (Ex_st (st2 := [.int r3]) rfl ?_) (by omega)
  refine Ex_go 6 (pc' := 2153) (L' := [some (.ref 2500), some (.ref 0), some (.ref 1000), some (.ref 2000), some (.int x4), some (.int r3), none, none]) (st' := [.int (x4 + (1 : Int32)), .ref 2500, .ref 1000]) (σ' := (S, M, O5)) (rfl) ?_
  obtain ⟨hc6, hF⟩ := ck_i hF
  refine Ex_chk (b := ib (x4 + (1 : Int32)) nL) (pc' := 2154) (L' := [some (.ref 2500), some (.ref 0), some (.ref 1000), some (.ref 2000), some (.int x4), some (.int r3), none, none]) (st' := [.int (xs (Int32.toNatClampNeg (x4 + (1 : Int32)))), .ref 1000]) (σ' := (S, M, O5)) rfl hc6 ?_
  refine Ex_go 4 (pc' := 2159) (L' := [some (.ref 2500), some (.ref 0), some (.ref 1000), some (.ref 2000), some (.int x4), some (.int r3), none, none]) (st' := [.int (x4 + (2 : Int32)), .ref 2500, .int (xs (Int32.toNatClampNeg (x4 + (1 : Int32)))), .ref 1000]) (σ' := (S, M, O5)) (rfl) ?_
  obtain ⟨hc7, hF⟩ := ck_i hF
  refine Ex_chk (b := ib (x4 + (2 : Int32)) nL) (pc' := 2160) (L' := [some (.ref 2500), some (.ref 0), some (.ref 1000), some (.ref 2000), some (.int x4), some (.int r3), none, none]) (st' := [.int (xs (Int32.toNatClampNeg (x4 + (2 : Int32)))), .int (xs (Int32.toNatClampNeg (x4 + (1 : Int32)))), .ref 1000]) (σ' := (S, M, O5)) rfl hc7 ?_
  obtain ⟨r8, M10, hx9, hF⟩ := b2_i hF
  refine Ex_callK (K1 := 0) (K2 := K) (kind := 2) (y := 246) (as := [.ref 1000, .int (xs (Int32.toNatClampNeg (x4 + (1 : Int32)))), .int (xs (Int32.toNatClampNeg (x4 + (2 : Int32))))]) (rest := []) (L0 := [some (.ref 1000), some (.int (xs (Int32.toNatClampNeg (x4 + (1 : Int32))))), some (.int (xs (Int32.toNatClampNeg (x4 + (2 : Int32))))), none, none, none]) (d' := 7) (v := some (.long r8)) (σ1 := (S, M10, O5)) rfl rfl mt_246 rfl rfl (by omega) (X_m_split (Nat.le_refl _) _ _ _ _ _ hx9) (Ex_st (st2 := [.long r8]) rfl ?_) (by omega)
  refine Ex_go 2 (pc' := 2166) (L' := [some (.ref 2500), some (.ref 0), some (.ref 1000), some (.ref 2000), some (.int x4), some (.int r3), some (.long r8), none]) (st' := [.ref 1000]) (σ' := (S, M10, O5)) (rfl) ?_
  obtain ⟨r11, hx12, hF⟩ := b1_i hF
  refine Ex_callK (K1 := 0) (K2 := K) (kind := 2) (y := 77) (as := [.ref 1000]) (rest := []) (L0 := [some (.ref 1000)]) (d' := 1) (v := some (.int r11)) (σ1 := (S, M10, O5)) rfl rfl mt_77 rfl rfl (by omega) (X_m_thrown (Nat.le_refl _) _ _ hx12) (Ex_st (st2 := [.int r11]) rfl ?_) (by omega)
  refine Ex_go 2 (pc' := if r11 = r3 then 2176 else 2174) (L' := [some (.ref 2500), some (.ref 0), some (.ref 1000), some (.ref 2000), some (.int x4), some (.int r3), some (.long r8), none]) (st' := []) (σ' := (S, M10, O5)) (rfl) ?_
  refine Ex_br (fun hc => ?_) (fun hc => ?_)
  · rw [if_pos hc] at hF
    refine Ex_go 2 (pc' := if ¬ r3 = 0 then 2192 else 2181) (L' := [some (.ref 2500), some (.ref 0), some (.ref 1000), some (.ref 2000), some (.int x4), some (.int r3), some (.long r8), none]) (st' := []) (σ' := (S, M10, O5)) (rfl) ?_
    refine Ex_brN (fun hc => ?_) (fun hc => ?_)
    · rw [if_pos hc] at hF
      refine Ex_go 2 (pc' := 2183) (L' := [some (.ref 2500), some (.ref 0), some (.ref 1000), some (.ref 2000), some (.int x4), some (.int r3), some (.long r8), none]) (st' := [.int (0 : Int32), .ref 2000]) (σ' := (S, M10, O5)) (rfl) ?_
      refine Ex_chk (b := ib (0 : Int32) 1) (pc' := 2184) (L' := [some (.ref 2500), some (.ref 0), some (.ref 1000), some (.ref 2000), some (.int x4), some (.int r3), some (.long r8), none]) (st' := [.long (al O5 2000 (Int32.toNatClampNeg (0 : Int32)))]) (σ' := (S, M10, O5)) rfl (by decide) ?_
      refine Ex_go 3 (pc' := if (lg_cmp (al O5 2000 (Int32.toNatClampNeg (0 : Int32))) r8) = 0 then 2192 else 2190) (L' := [some (.ref 2500), some (.ref 0), some (.ref 1000), some (.ref 2000), some (.int x4), some (.int r3), some (.long r8), none]) (st' := []) (σ' := (S, M10, O5)) (rfl) ?_
      refine Ex_brI lc_eq (fun hc => ?_) (fun hc => ?_)
      · rw [if_pos hc] at hF
        exact Ex_mono (L := [some (.ref 2500), some (.ref 0), some (.ref 1000), some (.ref 2000), some (.int x4), none, none, none]) (Le_s (Le_s (Le_s (Le_s (Le_s (Le_n (Le_n (Le_n (Le_0))))))))) (X_l_law_2192 hd hk23 _ _ _ _ _ _ _ _ hF) (Nat.le_refl _) (by omega)
      · rw [if_neg hc] at hF
        refine Ex_go 1 (pc' := 2191) (L' := [some (.ref 2500), some (.ref 0), some (.ref 1000), some (.ref 2000), some (.int x4), some (.int r3), some (.long r8), none]) (st' := [.int (0 : Int32)]) (σ' := (S, M10, O5)) (rfl) ?_
        cases hF
        exact Ex_fin rfl
    · rw [if_neg hc] at hF
      exact Ex_mono (L := [some (.ref 2500), some (.ref 0), some (.ref 1000), some (.ref 2000), some (.int x4), none, none, none]) (Le_s (Le_s (Le_s (Le_s (Le_s (Le_n (Le_n (Le_n (Le_0))))))))) (X_l_law_2192 hd hk23 _ _ _ _ _ _ _ _ hF) (Nat.le_refl _) (by omega)
  · rw [if_neg hc] at hF
    refine Ex_go 1 (pc' := 2175) (L' := [some (.ref 2500), some (.ref 0), some (.ref 1000), some (.ref 2000), some (.int x4), some (.int r3), some (.long r8), none]) (st' := [.int (0 : Int32)]) (σ' := (S, M10, O5)) (rfl) ?_
    cases hF
    exact Ex_fin rfl
def F_l_law_2248 (nL : Nat) (xs : Nat → Int32) (k23 : Int32 → Sto → Sto → Sto → Option (Int32 × Sto × Sto × Sto)) (x4 : Int32) (S : Sto) (M : Sto) (O : Sto) : Option (Int32 × Sto × Sto × Sto) := F_l_law_2537 nL xs k23 x4 S M O
set_option maxRecDepth 100000 in
theorem X_l_law_2248 {nL : Nat} {xs : Nat → Int32} {d : Nat} (hd : 98 ≤ d) {K : Nat} {k23 : Int32 → Sto → Sto → Sto → Option (Int32 × Sto × Sto × Sto)} (hk23 : ∀ (x4 : Int32) (S : Sto) (M : Sto) (O : Sto) (r : Int32) (S' : Sto) (M' : Sto) (O' : Sto), k23 x4 S M O = some (r, S', M', O') → EX nL xs K MI_281 d 23 [some (.ref 2500), some (.ref 0), some (.ref 1000), some (.ref 2000), some (.int x4), none, none, none] [] (S, M, O) (.inl (some (.int r))) (S', M', O')) : ∀ (x4 : Int32) (S : Sto) (M : Sto) (O : Sto) (r : Int32) (S' : Sto) (M' : Sto) (O' : Sto), F_l_law_2248 nL xs k23 x4 S M O = some (r, S', M', O') → EX nL xs K MI_281 d 2248 [some (.ref 2500), some (.ref 0), some (.ref 1000), some (.ref 2000), some (.int x4), none, none, none] [] (S, M, O) (.inl (some (.int r))) (S', M', O') := by
  intro x4 S M O r S' M' O' hF
  unfold F_l_law_2248 at hF
  refine Ex_go 1 (pc' := 2537) (L' := [some (.ref 2500), some (.ref 0), some (.ref 1000), some (.ref 2000), some (.int x4), none, none, none]) (st' := []) (σ' := (S, M, O)) (rfl) ?_
  exact Ex_mono (L := [some (.ref 2500), some (.ref 0), some (.ref 1000), some (.ref 2000), some (.int x4), none, none, none]) (Le_s (Le_s (Le_s (Le_s (Le_s (Le_n (Le_n (Le_n (Le_0))))))))) (X_l_law_2537 hd hk23 _ _ _ _ _ _ _ _ hF) (Nat.le_refl _) (by omega)
def F_l_law_2195 (nL : Nat) (xs : Nat → Int32) (k23 : Int32 → Sto → Sto → Sto → Option (Int32 × Sto × Sto × Sto)) (x4 : Int32) (S : Sto) (M : Sto) (O : Sto) : Option (Int32 × Sto × Sto × Sto) := ck (ib (x4 + (1 : Int32)) nL) (b3 (F_l_round (xs (Int32.toNatClampNeg (x4 + (1 : Int32)))) S O) (fun r2 S4 O5 => ck (ib (x4 + (1 : Int32)) nL) (b2 (F_m_round (xs (Int32.toNatClampNeg (x4 + (1 : Int32)))) M) (fun r7 M9 => b1 (F_m_thrown M9) (fun r10 => if r10 = r2 then if r2 = 0 then if (al O5 2000 (Int32.toNatClampNeg (0 : Int32))) = (Int32.toInt64 r7) then F_l_law_2248 nL xs k23 x4 S4 M9 O5 else some ((0 : Int32), S4, M9, O5) else F_l_law_2248 nL xs k23 x4 S4 M9 O5 else some ((0 : Int32), S4, M9, O5))))))
set_option maxRecDepth 100000 in
theorem X_l_law_2195 {nL : Nat} {xs : Nat → Int32} {d : Nat} (hd : 98 ≤ d) {K : Nat} {k23 : Int32 → Sto → Sto → Sto → Option (Int32 × Sto × Sto × Sto)} (hk23 : ∀ (x4 : Int32) (S : Sto) (M : Sto) (O : Sto) (r : Int32) (S' : Sto) (M' : Sto) (O' : Sto), k23 x4 S M O = some (r, S', M', O') → EX nL xs K MI_281 d 23 [some (.ref 2500), some (.ref 0), some (.ref 1000), some (.ref 2000), some (.int x4), none, none, none] [] (S, M, O) (.inl (some (.int r))) (S', M', O')) : ∀ (x4 : Int32) (S : Sto) (M : Sto) (O : Sto) (r : Int32) (S' : Sto) (M' : Sto) (O' : Sto), F_l_law_2195 nL xs k23 x4 S M O = some (r, S', M', O') → EX nL xs (K + 1) MI_281 d 2195 [some (.ref 2500), some (.ref 0), some (.ref 1000), some (.ref 2000), some (.int x4), none, none, none] [] (S, M, O) (.inl (some (.int r))) (S', M', O') := by
  intro x4 S M O r S' M' O' hF
  unfold F_l_law_2195 at hF
  refine Ex_go 5 (pc' := 2201) (L' := [some (.ref 2500), some (.ref 0), some (.ref 1000), some (.ref 2000), some (.int x4), none, none, none]) (st' := [.int (x4 + (1 : Int32)), .ref 2500, .ref 0]) (σ' := (S, M, O)) (rfl) ?_
  obtain ⟨hc1, hF⟩ := ck_i hF
  refine Ex_chk (b := ib (x4 + (1 : Int32)) nL) (pc' := 2202) (L' := [some (.ref 2500), some (.ref 0), some (.ref 1000), some (.ref 2000), some (.int x4), none, none, none]) (st' := [.int (xs (Int32.toNatClampNeg (x4 + (1 : Int32)))), .ref 0]) (σ' := (S, M, O)) rfl hc1 ?_
  refine Ex_go 1 (pc' := 2203) (L' := [some (.ref 2500), some (.ref 0), some (.ref 1000), some (.ref 2000), some (.int x4), none, none, none]) (st' := [.ref 2000, .int (xs (Int32.toNatClampNeg (x4 + (1 : Int32)))), .ref 0]) (σ' := (S, M, O)) (rfl) ?_
  obtain ⟨r2, S4, O5, hx3, hF⟩ := b3_i hF
  refine Ex_callK (K1 := 1) (K2 := K) (kind := 4) (y := 249) (as := [.ref 0, .int (xs (Int32.toNatClampNeg (x4 + (1 : Int32)))), .ref 2000]) (rest := []) (L0 := [some (.ref 0), some (.int (xs (Int32.toNatClampNeg (x4 + (1 : Int32))))), some (.ref 2000), none]) (d' := 9) (v := some (.int r2)) (σ1 := (S4, M, O5)) rfl rfl mt_249 rfl rfl (by omega) (X_l_round (Nat.le_refl _) _ _ _ _ _ _ hx3) (Ex_st (st2 := [.int r2]) rfl ?_) (by omega)
  refine Ex_go 6 (pc' := 2214) (L' := [some (.ref 2500), some (.ref 0), some (.ref 1000), some (.ref 2000), some (.int x4), some (.int r2), none, none]) (st' := [.int (x4 + (1 : Int32)), .ref 2500, .ref 1000]) (σ' := (S4, M, O5)) (rfl) ?_
  obtain ⟨hc6, hF⟩ := ck_i hF
  refine Ex_chk (b := ib (x4 + (1 : Int32)) nL) (pc' := 2215) (L' := [some (.ref 2500), some (.ref 0), some (.ref 1000), some (.ref 2000), some (.int x4), some (.int r2), none, none]) (st' := [.int (xs (Int32.toNatClampNeg (x4 + (1 : Int32)))), .ref 1000]) (σ' := (S4, M, O5)) rfl hc6 ?_
  obtain ⟨r7, M9, hx8, hF⟩ := b2_i hF
  refine Ex_callK (K1 := 0) (K2 := K) (kind := 2) (y := 250) (as := [.ref 1000, .int (xs (Int32.toNatClampNeg (x4 + (1 : Int32))))]) (rest := []) (L0 := [some (.ref 1000), some (.int (xs (Int32.toNatClampNeg (x4 + (1 : Int32))))), none, none]) (d' := 4) (v := some (.int r7)) (σ1 := (S4, M9, O5)) rfl rfl mt_250 rfl rfl (by omega) (X_m_round (Nat.le_refl _) _ _ _ _ hx8) (Ex_st (st2 := [.int r7]) rfl ?_) (by omega)
  refine Ex_go 2 (pc' := 2221) (L' := [some (.ref 2500), some (.ref 0), some (.ref 1000), some (.ref 2000), some (.int x4), some (.int r2), some (.int r7), none]) (st' := [.ref 1000]) (σ' := (S4, M9, O5)) (rfl) ?_
  obtain ⟨r10, hx11, hF⟩ := b1_i hF
  refine Ex_callK (K1 := 0) (K2 := K) (kind := 2) (y := 77) (as := [.ref 1000]) (rest := []) (L0 := [some (.ref 1000)]) (d' := 1) (v := some (.int r10)) (σ1 := (S4, M9, O5)) rfl rfl mt_77 rfl rfl (by omega) (X_m_thrown (Nat.le_refl _) _ _ hx11) (Ex_st (st2 := [.int r10]) rfl ?_) (by omega)
  refine Ex_go 2 (pc' := if r10 = r2 then 2231 else 2229) (L' := [some (.ref 2500), some (.ref 0), some (.ref 1000), some (.ref 2000), some (.int x4), some (.int r2), some (.int r7), none]) (st' := []) (σ' := (S4, M9, O5)) (rfl) ?_
  refine Ex_br (fun hc => ?_) (fun hc => ?_)
  · rw [if_pos hc] at hF
    refine Ex_go 2 (pc' := if ¬ r2 = 0 then 2248 else 2236) (L' := [some (.ref 2500), some (.ref 0), some (.ref 1000), some (.ref 2000), some (.int x4), some (.int r2), some (.int r7), none]) (st' := []) (σ' := (S4, M9, O5)) (rfl) ?_
    refine Ex_brN (fun hc => ?_) (fun hc => ?_)
    · rw [if_pos hc] at hF
      refine Ex_go 2 (pc' := 2238) (L' := [some (.ref 2500), some (.ref 0), some (.ref 1000), some (.ref 2000), some (.int x4), some (.int r2), some (.int r7), none]) (st' := [.int (0 : Int32), .ref 2000]) (σ' := (S4, M9, O5)) (rfl) ?_
      refine Ex_chk (b := ib (0 : Int32) 1) (pc' := 2239) (L' := [some (.ref 2500), some (.ref 0), some (.ref 1000), some (.ref 2000), some (.int x4), some (.int r2), some (.int r7), none]) (st' := [.long (al O5 2000 (Int32.toNatClampNeg (0 : Int32)))]) (σ' := (S4, M9, O5)) rfl (by decide) ?_
      refine Ex_go 4 (pc' := if (lg_cmp (al O5 2000 (Int32.toNatClampNeg (0 : Int32))) (Int32.toInt64 r7)) = 0 then 2248 else 2246) (L' := [some (.ref 2500), some (.ref 0), some (.ref 1000), some (.ref 2000), some (.int x4), some (.int r2), some (.int r7), none]) (st' := []) (σ' := (S4, M9, O5)) (rfl) ?_
      refine Ex_brI lc_eq (fun hc => ?_) (fun hc => ?_)
      · rw [if_pos hc] at hF
        exact Ex_mono (L := [some (.ref 2500), some (.ref 0), some (.ref 1000), some (.ref 2000), some (.int x4), none, none, none]) (Le_s (Le_s (Le_s (Le_s (Le_s (Le_n (Le_n (Le_n (Le_0))))))))) (X_l_law_2248 hd hk23 _ _ _ _ _ _ _ _ hF) (Nat.le_refl _) (by omega)
      · rw [if_neg hc] at hF
        refine Ex_go 1 (pc' := 2247) (L' := [some (.ref 2500), some (.ref 0), some (.ref 1000), some (.ref 2000), some (.int x4), some (.int r2), some (.int r7), none]) (st' := [.int (0 : Int32)]) (σ' := (S4, M9, O5)) (rfl) ?_
        cases hF
        exact Ex_fin rfl
    · rw [if_neg hc] at hF
      exact Ex_mono (L := [some (.ref 2500), some (.ref 0), some (.ref 1000), some (.ref 2000), some (.int x4), none, none, none]) (Le_s (Le_s (Le_s (Le_s (Le_s (Le_n (Le_n (Le_n (Le_0))))))))) (X_l_law_2248 hd hk23 _ _ _ _ _ _ _ _ hF) (Nat.le_refl _) (by omega)
  · rw [if_neg hc] at hF
    refine Ex_go 1 (pc' := 2230) (L' := [some (.ref 2500), some (.ref 0), some (.ref 1000), some (.ref 2000), some (.int x4), some (.int r2), some (.int r7), none]) (st' := [.int (0 : Int32)]) (σ' := (S4, M9, O5)) (rfl) ?_
    cases hF
    exact Ex_fin rfl
def F_l_law_2251 (nL : Nat) (xs : Nat → Int32) (k23 : Int32 → Sto → Sto → Sto → Option (Int32 × Sto × Sto × Sto)) (x4 : Int32) (S : Sto) (M : Sto) (O : Sto) : Option (Int32 × Sto × Sto × Sto) := b2 (F_w_ends S) (fun r1 S3 => b2 (F_m_ends M) (fun r4 M6 => if r1 = r4 then F_l_law_2537 nL xs k23 x4 S3 M6 O else some ((0 : Int32), S3, M6, O)))
set_option maxRecDepth 100000 in
theorem X_l_law_2251 {nL : Nat} {xs : Nat → Int32} {d : Nat} (hd : 98 ≤ d) {K : Nat} {k23 : Int32 → Sto → Sto → Sto → Option (Int32 × Sto × Sto × Sto)} (hk23 : ∀ (x4 : Int32) (S : Sto) (M : Sto) (O : Sto) (r : Int32) (S' : Sto) (M' : Sto) (O' : Sto), k23 x4 S M O = some (r, S', M', O') → EX nL xs K MI_281 d 23 [some (.ref 2500), some (.ref 0), some (.ref 1000), some (.ref 2000), some (.int x4), none, none, none] [] (S, M, O) (.inl (some (.int r))) (S', M', O')) : ∀ (x4 : Int32) (S : Sto) (M : Sto) (O : Sto) (r : Int32) (S' : Sto) (M' : Sto) (O' : Sto), F_l_law_2251 nL xs k23 x4 S M O = some (r, S', M', O') → EX nL xs K MI_281 d 2251 [some (.ref 2500), some (.ref 0), some (.ref 1000), some (.ref 2000), some (.int x4), none, none, none] [] (S, M, O) (.inl (some (.int r))) (S', M', O') := by
  intro x4 S M O r S' M' O' hF
  unfold F_l_law_2251 at hF
  refine Ex_go 1 (pc' := 2252) (L' := [some (.ref 2500), some (.ref 0), some (.ref 1000), some (.ref 2000), some (.int x4), none, none, none]) (st' := [.ref 0]) (σ' := (S, M, O)) (rfl) ?_
  obtain ⟨r1, S3, hx2, hF⟩ := b2_i hF
  refine Ex_callK (K1 := 0) (K2 := K) (kind := 2) (y := 252) (as := [.ref 0]) (rest := []) (L0 := [some (.ref 0)]) (d' := 5) (v := some (.int r1)) (σ1 := (S3, M, O)) rfl rfl mt_252 rfl rfl (by omega) (X_w_ends (Nat.le_refl _) _ _ _ hx2) (Ex_st (st2 := [.int r1]) rfl ?_) (by omega)
  refine Ex_go 1 (pc' := 2256) (L' := [some (.ref 2500), some (.ref 0), some (.ref 1000), some (.ref 2000), some (.int x4), none, none, none]) (st' := [.ref 1000, .int r1]) (σ' := (S3, M, O)) (rfl) ?_
  obtain ⟨r4, M6, hx5, hF⟩ := b2_i hF
  refine Ex_callK (K1 := 0) (K2 := K) (kind := 2) (y := 253) (as := [.ref 1000]) (rest := [.int r1]) (L0 := [some (.ref 1000), none, none, none]) (d' := 4) (v := some (.int r4)) (σ1 := (S3, M6, O)) rfl rfl mt_253 rfl rfl (by omega) (X_m_ends (Nat.le_refl _) _ _ _ hx5) (Ex_st (st2 := [.int r4, .int r1]) rfl ?_) (by omega)
  refine Ex_go 1 (pc' := if r1 = r4 then 2537 else 2262) (L' := [some (.ref 2500), some (.ref 0), some (.ref 1000), some (.ref 2000), some (.int x4), none, none, none]) (st' := []) (σ' := (S3, M6, O)) (rfl) ?_
  refine Ex_br (fun hc => ?_) (fun hc => ?_)
  · rw [if_pos hc] at hF
    exact Ex_mono (L := [some (.ref 2500), some (.ref 0), some (.ref 1000), some (.ref 2000), some (.int x4), none, none, none]) (Le_s (Le_s (Le_s (Le_s (Le_s (Le_n (Le_n (Le_n (Le_0))))))))) (X_l_law_2537 hd hk23 _ _ _ _ _ _ _ _ hF) (Nat.le_refl _) (by omega)
  · rw [if_neg hc] at hF
    refine Ex_go 1 (pc' := 2263) (L' := [some (.ref 2500), some (.ref 0), some (.ref 1000), some (.ref 2000), some (.int x4), none, none, none]) (st' := [.int (0 : Int32)]) (σ' := (S3, M6, O)) (rfl) ?_
    cases hF
    exact Ex_fin rfl
def F_l_law_2264 (nL : Nat) (xs : Nat → Int32) (k23 : Int32 → Sto → Sto → Sto → Option (Int32 × Sto × Sto × Sto)) (x4 : Int32) (S : Sto) (M : Sto) (O : Sto) : Option (Int32 × Sto × Sto × Sto) := ck (ib (x4 + (1 : Int32)) nL) (ck (ib (x4 + (2 : Int32)) nL) (b2 (F_w_see (((Int32.toInt64 (xs (Int32.toNatClampNeg (x4 + (1 : Int32))))) <<< (Int32.toInt64 (32 : Int32) &&& 63)) ||| ((Int32.toInt64 (xs (Int32.toNatClampNeg (x4 + (2 : Int32))))) &&& (4294967295 : Int64))) S) (fun r3 S5 => ck (ib (x4 + (1 : Int32)) nL) (ck (ib (x4 + (2 : Int32)) nL) (b2 (F_m_see (((Int32.toInt64 (xs (Int32.toNatClampNeg (x4 + (1 : Int32))))) <<< (Int32.toInt64 (32 : Int32) &&& 63)) ||| ((Int32.toInt64 (xs (Int32.toNatClampNeg (x4 + (2 : Int32))))) &&& (4294967295 : Int64))) M) (fun r8 M10 => if r3 = r8 then F_l_law_2537 nL xs k23 x4 S5 M10 O else some ((0 : Int32), S5, M10, O)))))))
set_option maxRecDepth 100000 in
theorem X_l_law_2264 {nL : Nat} {xs : Nat → Int32} {d : Nat} (hd : 98 ≤ d) {K : Nat} {k23 : Int32 → Sto → Sto → Sto → Option (Int32 × Sto × Sto × Sto)} (hk23 : ∀ (x4 : Int32) (S : Sto) (M : Sto) (O : Sto) (r : Int32) (S' : Sto) (M' : Sto) (O' : Sto), k23 x4 S M O = some (r, S', M', O') → EX nL xs K MI_281 d 23 [some (.ref 2500), some (.ref 0), some (.ref 1000), some (.ref 2000), some (.int x4), none, none, none] [] (S, M, O) (.inl (some (.int r))) (S', M', O')) : ∀ (x4 : Int32) (S : Sto) (M : Sto) (O : Sto) (r : Int32) (S' : Sto) (M' : Sto) (O' : Sto), F_l_law_2264 nL xs k23 x4 S M O = some (r, S', M', O') → EX nL xs K MI_281 d 2264 [some (.ref 2500), some (.ref 0), some (.ref 1000), some (.ref 2000), some (.int x4), none, none, none] [] (S, M, O) (.inl (some (.int r))) (S', M', O') := by
  intro x4 S M O r S' M' O' hF
  unfold F_l_law_2264 at hF
  refine Ex_go 5 (pc' := 2270) (L' := [some (.ref 2500), some (.ref 0), some (.ref 1000), some (.ref 2000), some (.int x4), none, none, none]) (st' := [.int (x4 + (1 : Int32)), .ref 2500, .ref 0]) (σ' := (S, M, O)) (rfl) ?_
  obtain ⟨hc1, hF⟩ := ck_i hF
  refine Ex_chk (b := ib (x4 + (1 : Int32)) nL) (pc' := 2271) (L' := [some (.ref 2500), some (.ref 0), some (.ref 1000), some (.ref 2000), some (.int x4), none, none, none]) (st' := [.int (xs (Int32.toNatClampNeg (x4 + (1 : Int32)))), .ref 0]) (σ' := (S, M, O)) rfl hc1 ?_
  refine Ex_go 7 (pc' := 2280) (L' := [some (.ref 2500), some (.ref 0), some (.ref 1000), some (.ref 2000), some (.int x4), none, none, none]) (st' := [.int (x4 + (2 : Int32)), .ref 2500, .long ((Int32.toInt64 (xs (Int32.toNatClampNeg (x4 + (1 : Int32))))) <<< (Int32.toInt64 (32 : Int32) &&& 63)), .ref 0]) (σ' := (S, M, O)) (rfl) ?_
  obtain ⟨hc2, hF⟩ := ck_i hF
  refine Ex_chk (b := ib (x4 + (2 : Int32)) nL) (pc' := 2281) (L' := [some (.ref 2500), some (.ref 0), some (.ref 1000), some (.ref 2000), some (.int x4), none, none, none]) (st' := [.int (xs (Int32.toNatClampNeg (x4 + (2 : Int32)))), .long ((Int32.toInt64 (xs (Int32.toNatClampNeg (x4 + (1 : Int32))))) <<< (Int32.toInt64 (32 : Int32) &&& 63)), .ref 0]) (σ' := (S, M, O)) rfl hc2 ?_
  refine Ex_go 4 (pc' := 2287) (L' := [some (.ref 2500), some (.ref 0), some (.ref 1000), some (.ref 2000), some (.int x4), none, none, none]) (st' := [.long (((Int32.toInt64 (xs (Int32.toNatClampNeg (x4 + (1 : Int32))))) <<< (Int32.toInt64 (32 : Int32) &&& 63)) ||| ((Int32.toInt64 (xs (Int32.toNatClampNeg (x4 + (2 : Int32))))) &&& (4294967295 : Int64))), .ref 0]) (σ' := (S, M, O)) (rfl) ?_
  obtain ⟨r3, S5, hx4, hF⟩ := b2_i hF
  refine Ex_callK (K1 := 0) (K2 := K) (kind := 2) (y := 255) (as := [.ref 0, .long (((Int32.toInt64 (xs (Int32.toNatClampNeg (x4 + (1 : Int32))))) <<< (Int32.toInt64 (32 : Int32) &&& 63)) ||| ((Int32.toInt64 (xs (Int32.toNatClampNeg (x4 + (2 : Int32))))) &&& (4294967295 : Int64)))]) (rest := []) (L0 := [some (.ref 0), some (.long (((Int32.toInt64 (xs (Int32.toNatClampNeg (x4 + (1 : Int32))))) <<< (Int32.toInt64 (32 : Int32) &&& 63)) ||| ((Int32.toInt64 (xs (Int32.toNatClampNeg (x4 + (2 : Int32))))) &&& (4294967295 : Int64)))), none]) (d' := 2) (v := some (.int r3)) (σ1 := (S5, M, O)) rfl rfl mt_255 rfl rfl (by omega) (X_w_see (Nat.le_refl _) _ _ _ _ hx4) (Ex_st (st2 := [.int r3]) rfl ?_) (by omega)
  refine Ex_go 5 (pc' := 2296) (L' := [some (.ref 2500), some (.ref 0), some (.ref 1000), some (.ref 2000), some (.int x4), none, none, none]) (st' := [.int (x4 + (1 : Int32)), .ref 2500, .ref 1000, .int r3]) (σ' := (S5, M, O)) (rfl) ?_
  obtain ⟨hc6, hF⟩ := ck_i hF
  refine Ex_chk (b := ib (x4 + (1 : Int32)) nL) (pc' := 2297) (L' := [some (.ref 2500), some (.ref 0), some (.ref 1000), some (.ref 2000), some (.int x4), none, none, none]) (st' := [.int (xs (Int32.toNatClampNeg (x4 + (1 : Int32)))), .ref 1000, .int r3]) (σ' := (S5, M, O)) rfl hc6 ?_
  refine Ex_go 7 (pc' := 2306) (L' := [some (.ref 2500), some (.ref 0), some (.ref 1000), some (.ref 2000), some (.int x4), none, none, none]) (st' := [.int (x4 + (2 : Int32)), .ref 2500, .long ((Int32.toInt64 (xs (Int32.toNatClampNeg (x4 + (1 : Int32))))) <<< (Int32.toInt64 (32 : Int32) &&& 63)), .ref 1000, .int r3]) (σ' := (S5, M, O)) (rfl) ?_
  obtain ⟨hc7, hF⟩ := ck_i hF
  refine Ex_chk (b := ib (x4 + (2 : Int32)) nL) (pc' := 2307) (L' := [some (.ref 2500), some (.ref 0), some (.ref 1000), some (.ref 2000), some (.int x4), none, none, none]) (st' := [.int (xs (Int32.toNatClampNeg (x4 + (2 : Int32)))), .long ((Int32.toInt64 (xs (Int32.toNatClampNeg (x4 + (1 : Int32))))) <<< (Int32.toInt64 (32 : Int32) &&& 63)), .ref 1000, .int r3]) (σ' := (S5, M, O)) rfl hc7 ?_
  refine Ex_go 4 (pc' := 2313) (L' := [some (.ref 2500), some (.ref 0), some (.ref 1000), some (.ref 2000), some (.int x4), none, none, none]) (st' := [.long (((Int32.toInt64 (xs (Int32.toNatClampNeg (x4 + (1 : Int32))))) <<< (Int32.toInt64 (32 : Int32) &&& 63)) ||| ((Int32.toInt64 (xs (Int32.toNatClampNeg (x4 + (2 : Int32))))) &&& (4294967295 : Int64))), .ref 1000, .int r3]) (σ' := (S5, M, O)) (rfl) ?_
  obtain ⟨r8, M10, hx9, hF⟩ := b2_i hF
  refine Ex_callK (K1 := 0) (K2 := K) (kind := 2) (y := 256) (as := [.ref 1000, .long (((Int32.toInt64 (xs (Int32.toNatClampNeg (x4 + (1 : Int32))))) <<< (Int32.toInt64 (32 : Int32) &&& 63)) ||| ((Int32.toInt64 (xs (Int32.toNatClampNeg (x4 + (2 : Int32))))) &&& (4294967295 : Int64)))]) (rest := [.int r3]) (L0 := [some (.ref 1000), some (.long (((Int32.toInt64 (xs (Int32.toNatClampNeg (x4 + (1 : Int32))))) <<< (Int32.toInt64 (32 : Int32) &&& 63)) ||| ((Int32.toInt64 (xs (Int32.toNatClampNeg (x4 + (2 : Int32))))) &&& (4294967295 : Int64)))), none]) (d' := 3) (v := some (.int r8)) (σ1 := (S5, M10, O)) rfl rfl mt_256 rfl rfl (by omega) (X_m_see (Nat.le_refl _) _ _ _ _ hx9) (Ex_st (st2 := [.int r8, .int r3]) rfl ?_) (by omega)
  refine Ex_go 1 (pc' := if r3 = r8 then 2537 else 2319) (L' := [some (.ref 2500), some (.ref 0), some (.ref 1000), some (.ref 2000), some (.int x4), none, none, none]) (st' := []) (σ' := (S5, M10, O)) (rfl) ?_
  refine Ex_br (fun hc => ?_) (fun hc => ?_)
  · rw [if_pos hc] at hF
    exact Ex_mono (L := [some (.ref 2500), some (.ref 0), some (.ref 1000), some (.ref 2000), some (.int x4), none, none, none]) (Le_s (Le_s (Le_s (Le_s (Le_s (Le_n (Le_n (Le_n (Le_0))))))))) (X_l_law_2537 hd hk23 _ _ _ _ _ _ _ _ hF) (Nat.le_refl _) (by omega)
  · rw [if_neg hc] at hF
    refine Ex_go 1 (pc' := 2320) (L' := [some (.ref 2500), some (.ref 0), some (.ref 1000), some (.ref 2000), some (.int x4), none, none, none]) (st' := [.int (0 : Int32)]) (σ' := (S5, M10, O)) (rfl) ?_
    cases hF
    exact Ex_fin rfl
def F_l_law_2374 (nL : Nat) (xs : Nat → Int32) (k23 : Int32 → Sto → Sto → Sto → Option (Int32 × Sto × Sto × Sto)) (x4 : Int32) (S : Sto) (M : Sto) (O : Sto) : Option (Int32 × Sto × Sto × Sto) := F_l_law_2537 nL xs k23 x4 S M O
set_option maxRecDepth 100000 in
theorem X_l_law_2374 {nL : Nat} {xs : Nat → Int32} {d : Nat} (hd : 98 ≤ d) {K : Nat} {k23 : Int32 → Sto → Sto → Sto → Option (Int32 × Sto × Sto × Sto)} (hk23 : ∀ (x4 : Int32) (S : Sto) (M : Sto) (O : Sto) (r : Int32) (S' : Sto) (M' : Sto) (O' : Sto), k23 x4 S M O = some (r, S', M', O') → EX nL xs K MI_281 d 23 [some (.ref 2500), some (.ref 0), some (.ref 1000), some (.ref 2000), some (.int x4), none, none, none] [] (S, M, O) (.inl (some (.int r))) (S', M', O')) : ∀ (x4 : Int32) (S : Sto) (M : Sto) (O : Sto) (r : Int32) (S' : Sto) (M' : Sto) (O' : Sto), F_l_law_2374 nL xs k23 x4 S M O = some (r, S', M', O') → EX nL xs K MI_281 d 2374 [some (.ref 2500), some (.ref 0), some (.ref 1000), some (.ref 2000), some (.int x4), none, none, none] [] (S, M, O) (.inl (some (.int r))) (S', M', O') := by
  intro x4 S M O r S' M' O' hF
  unfold F_l_law_2374 at hF
  refine Ex_go 1 (pc' := 2537) (L' := [some (.ref 2500), some (.ref 0), some (.ref 1000), some (.ref 2000), some (.int x4), none, none, none]) (st' := []) (σ' := (S, M, O)) (rfl) ?_
  exact Ex_mono (L := [some (.ref 2500), some (.ref 0), some (.ref 1000), some (.ref 2000), some (.int x4), none, none, none]) (Le_s (Le_s (Le_s (Le_s (Le_s (Le_n (Le_n (Le_n (Le_0))))))))) (X_l_law_2537 hd hk23 _ _ _ _ _ _ _ _ hF) (Nat.le_refl _) (by omega)
def F_l_law_2321 (nL : Nat) (xs : Nat → Int32) (k23 : Int32 → Sto → Sto → Sto → Option (Int32 × Sto × Sto × Sto)) (x4 : Int32) (S : Sto) (M : Sto) (O : Sto) : Option (Int32 × Sto × Sto × Sto) := ck (ib (x4 + (1 : Int32)) nL) (b3 (F_l_fits (xs (Int32.toNatClampNeg (x4 + (1 : Int32)))) S O) (fun r2 S4 O5 => ck (ib (x4 + (1 : Int32)) nL) (b2 (F_m_fits (xs (Int32.toNatClampNeg (x4 + (1 : Int32)))) M) (fun r7 M9 => b1 (F_m_thrown M9) (fun r10 => if r10 = r2 then if r2 = 0 then if (al O5 2000 (Int32.toNatClampNeg (0 : Int32))) = (Int32.toInt64 r7) then F_l_law_2374 nL xs k23 x4 S4 M9 O5 else some ((0 : Int32), S4, M9, O5) else F_l_law_2374 nL xs k23 x4 S4 M9 O5 else some ((0 : Int32), S4, M9, O5))))))
set_option maxRecDepth 100000 in
theorem X_l_law_2321 {nL : Nat} {xs : Nat → Int32} {d : Nat} (hd : 98 ≤ d) {K : Nat} {k23 : Int32 → Sto → Sto → Sto → Option (Int32 × Sto × Sto × Sto)} (hk23 : ∀ (x4 : Int32) (S : Sto) (M : Sto) (O : Sto) (r : Int32) (S' : Sto) (M' : Sto) (O' : Sto), k23 x4 S M O = some (r, S', M', O') → EX nL xs K MI_281 d 23 [some (.ref 2500), some (.ref 0), some (.ref 1000), some (.ref 2000), some (.int x4), none, none, none] [] (S, M, O) (.inl (some (.int r))) (S', M', O')) : ∀ (x4 : Int32) (S : Sto) (M : Sto) (O : Sto) (r : Int32) (S' : Sto) (M' : Sto) (O' : Sto), F_l_law_2321 nL xs k23 x4 S M O = some (r, S', M', O') → EX nL xs (K + 1) MI_281 d 2321 [some (.ref 2500), some (.ref 0), some (.ref 1000), some (.ref 2000), some (.int x4), none, none, none] [] (S, M, O) (.inl (some (.int r))) (S', M', O') := by
  intro x4 S M O r S' M' O' hF
  unfold F_l_law_2321 at hF
  refine Ex_go 5 (pc' := 2327) (L' := [some (.ref 2500), some (.ref 0), some (.ref 1000), some (.ref 2000), some (.int x4), none, none, none]) (st' := [.int (x4 + (1 : Int32)), .ref 2500, .ref 0]) (σ' := (S, M, O)) (rfl) ?_
  obtain ⟨hc1, hF⟩ := ck_i hF
  refine Ex_chk (b := ib (x4 + (1 : Int32)) nL) (pc' := 2328) (L' := [some (.ref 2500), some (.ref 0), some (.ref 1000), some (.ref 2000), some (.int x4), none, none, none]) (st' := [.int (xs (Int32.toNatClampNeg (x4 + (1 : Int32)))), .ref 0]) (σ' := (S, M, O)) rfl hc1 ?_
  refine Ex_go 1 (pc' := 2329) (L' := [some (.ref 2500), some (.ref 0), some (.ref 1000), some (.ref 2000), some (.int x4), none, none, none]) (st' := [.ref 2000, .int (xs (Int32.toNatClampNeg (x4 + (1 : Int32)))), .ref 0]) (σ' := (S, M, O)) (rfl) ?_
  obtain ⟨r2, S4, O5, hx3, hF⟩ := b3_i hF
  refine Ex_callK (K1 := 1) (K2 := K) (kind := 4) (y := 260) (as := [.ref 0, .int (xs (Int32.toNatClampNeg (x4 + (1 : Int32)))), .ref 2000]) (rest := []) (L0 := [some (.ref 0), some (.int (xs (Int32.toNatClampNeg (x4 + (1 : Int32))))), some (.ref 2000), none]) (d' := 9) (v := some (.int r2)) (σ1 := (S4, M, O5)) rfl rfl mt_260 rfl rfl (by omega) (X_l_fits (Nat.le_refl _) _ _ _ _ _ _ hx3) (Ex_st (st2 := [.int r2]) rfl ?_) (by omega)
  refine Ex_go 6 (pc' := 2340) (L' := [some (.ref 2500), some (.ref 0), some (.ref 1000), some (.ref 2000), some (.int x4), some (.int r2), none, none]) (st' := [.int (x4 + (1 : Int32)), .ref 2500, .ref 1000]) (σ' := (S4, M, O5)) (rfl) ?_
  obtain ⟨hc6, hF⟩ := ck_i hF
  refine Ex_chk (b := ib (x4 + (1 : Int32)) nL) (pc' := 2341) (L' := [some (.ref 2500), some (.ref 0), some (.ref 1000), some (.ref 2000), some (.int x4), some (.int r2), none, none]) (st' := [.int (xs (Int32.toNatClampNeg (x4 + (1 : Int32)))), .ref 1000]) (σ' := (S4, M, O5)) rfl hc6 ?_
  obtain ⟨r7, M9, hx8, hF⟩ := b2_i hF
  refine Ex_callK (K1 := 0) (K2 := K) (kind := 2) (y := 262) (as := [.ref 1000, .int (xs (Int32.toNatClampNeg (x4 + (1 : Int32))))]) (rest := []) (L0 := [some (.ref 1000), some (.int (xs (Int32.toNatClampNeg (x4 + (1 : Int32))))), none, none, none, none]) (d' := 5) (v := some (.int r7)) (σ1 := (S4, M9, O5)) rfl rfl mt_262 rfl rfl (by omega) (X_m_fits (Nat.le_refl _) _ _ _ _ hx8) (Ex_st (st2 := [.int r7]) rfl ?_) (by omega)
  refine Ex_go 2 (pc' := 2347) (L' := [some (.ref 2500), some (.ref 0), some (.ref 1000), some (.ref 2000), some (.int x4), some (.int r2), some (.int r7), none]) (st' := [.ref 1000]) (σ' := (S4, M9, O5)) (rfl) ?_
  obtain ⟨r10, hx11, hF⟩ := b1_i hF
  refine Ex_callK (K1 := 0) (K2 := K) (kind := 2) (y := 77) (as := [.ref 1000]) (rest := []) (L0 := [some (.ref 1000)]) (d' := 1) (v := some (.int r10)) (σ1 := (S4, M9, O5)) rfl rfl mt_77 rfl rfl (by omega) (X_m_thrown (Nat.le_refl _) _ _ hx11) (Ex_st (st2 := [.int r10]) rfl ?_) (by omega)
  refine Ex_go 2 (pc' := if r10 = r2 then 2357 else 2355) (L' := [some (.ref 2500), some (.ref 0), some (.ref 1000), some (.ref 2000), some (.int x4), some (.int r2), some (.int r7), none]) (st' := []) (σ' := (S4, M9, O5)) (rfl) ?_
  refine Ex_br (fun hc => ?_) (fun hc => ?_)
  · rw [if_pos hc] at hF
    refine Ex_go 2 (pc' := if ¬ r2 = 0 then 2374 else 2362) (L' := [some (.ref 2500), some (.ref 0), some (.ref 1000), some (.ref 2000), some (.int x4), some (.int r2), some (.int r7), none]) (st' := []) (σ' := (S4, M9, O5)) (rfl) ?_
    refine Ex_brN (fun hc => ?_) (fun hc => ?_)
    · rw [if_pos hc] at hF
      refine Ex_go 2 (pc' := 2364) (L' := [some (.ref 2500), some (.ref 0), some (.ref 1000), some (.ref 2000), some (.int x4), some (.int r2), some (.int r7), none]) (st' := [.int (0 : Int32), .ref 2000]) (σ' := (S4, M9, O5)) (rfl) ?_
      refine Ex_chk (b := ib (0 : Int32) 1) (pc' := 2365) (L' := [some (.ref 2500), some (.ref 0), some (.ref 1000), some (.ref 2000), some (.int x4), some (.int r2), some (.int r7), none]) (st' := [.long (al O5 2000 (Int32.toNatClampNeg (0 : Int32)))]) (σ' := (S4, M9, O5)) rfl (by decide) ?_
      refine Ex_go 4 (pc' := if (lg_cmp (al O5 2000 (Int32.toNatClampNeg (0 : Int32))) (Int32.toInt64 r7)) = 0 then 2374 else 2372) (L' := [some (.ref 2500), some (.ref 0), some (.ref 1000), some (.ref 2000), some (.int x4), some (.int r2), some (.int r7), none]) (st' := []) (σ' := (S4, M9, O5)) (rfl) ?_
      refine Ex_brI lc_eq (fun hc => ?_) (fun hc => ?_)
      · rw [if_pos hc] at hF
        exact Ex_mono (L := [some (.ref 2500), some (.ref 0), some (.ref 1000), some (.ref 2000), some (.int x4), none, none, none]) (Le_s (Le_s (Le_s (Le_s (Le_s (Le_n (Le_n (Le_n (Le_0))))))))) (X_l_law_2374 hd hk23 _ _ _ _ _ _ _ _ hF) (Nat.le_refl _) (by omega)
      · rw [if_neg hc] at hF
        refine Ex_go 1 (pc' := 2373) (L' := [some (.ref 2500), some (.ref 0), some (.ref 1000), some (.ref 2000), some (.int x4), some (.int r2), some (.int r7), none]) (st' := [.int (0 : Int32)]) (σ' := (S4, M9, O5)) (rfl) ?_
        cases hF
        exact Ex_fin rfl
    · rw [if_neg hc] at hF
      exact Ex_mono (L := [some (.ref 2500), some (.ref 0), some (.ref 1000), some (.ref 2000), some (.int x4), none, none, none]) (Le_s (Le_s (Le_s (Le_s (Le_s (Le_n (Le_n (Le_n (Le_0))))))))) (X_l_law_2374 hd hk23 _ _ _ _ _ _ _ _ hF) (Nat.le_refl _) (by omega)
  · rw [if_neg hc] at hF
    refine Ex_go 1 (pc' := 2356) (L' := [some (.ref 2500), some (.ref 0), some (.ref 1000), some (.ref 2000), some (.int x4), some (.int r2), some (.int r7), none]) (st' := [.int (0 : Int32)]) (σ' := (S4, M9, O5)) (rfl) ?_
    cases hF
    exact Ex_fin rfl
def F_l_law_2430 (nL : Nat) (xs : Nat → Int32) (k23 : Int32 → Sto → Sto → Sto → Option (Int32 × Sto × Sto × Sto)) (x4 : Int32) (S : Sto) (M : Sto) (O : Sto) : Option (Int32 × Sto × Sto × Sto) := F_l_law_2537 nL xs k23 x4 S M O
set_option maxRecDepth 100000 in
theorem X_l_law_2430 {nL : Nat} {xs : Nat → Int32} {d : Nat} (hd : 98 ≤ d) {K : Nat} {k23 : Int32 → Sto → Sto → Sto → Option (Int32 × Sto × Sto × Sto)} (hk23 : ∀ (x4 : Int32) (S : Sto) (M : Sto) (O : Sto) (r : Int32) (S' : Sto) (M' : Sto) (O' : Sto), k23 x4 S M O = some (r, S', M', O') → EX nL xs K MI_281 d 23 [some (.ref 2500), some (.ref 0), some (.ref 1000), some (.ref 2000), some (.int x4), none, none, none] [] (S, M, O) (.inl (some (.int r))) (S', M', O')) : ∀ (x4 : Int32) (S : Sto) (M : Sto) (O : Sto) (r : Int32) (S' : Sto) (M' : Sto) (O' : Sto), F_l_law_2430 nL xs k23 x4 S M O = some (r, S', M', O') → EX nL xs K MI_281 d 2430 [some (.ref 2500), some (.ref 0), some (.ref 1000), some (.ref 2000), some (.int x4), none, none, none] [] (S, M, O) (.inl (some (.int r))) (S', M', O') := by
  intro x4 S M O r S' M' O' hF
  unfold F_l_law_2430 at hF
  refine Ex_go 1 (pc' := 2537) (L' := [some (.ref 2500), some (.ref 0), some (.ref 1000), some (.ref 2000), some (.int x4), none, none, none]) (st' := []) (σ' := (S, M, O)) (rfl) ?_
  exact Ex_mono (L := [some (.ref 2500), some (.ref 0), some (.ref 1000), some (.ref 2000), some (.int x4), none, none, none]) (Le_s (Le_s (Le_s (Le_s (Le_s (Le_n (Le_n (Le_n (Le_0))))))))) (X_l_law_2537 hd hk23 _ _ _ _ _ _ _ _ hF) (Nat.le_refl _) (by omega)
def F_l_law_2377 (nL : Nat) (xs : Nat → Int32) (k23 : Int32 → Sto → Sto → Sto → Option (Int32 × Sto × Sto × Sto)) (x4 : Int32) (S : Sto) (M : Sto) (O : Sto) : Option (Int32 × Sto × Sto × Sto) := ck (ib (x4 + (1 : Int32)) nL) (b3 (F_l_fleets (xs (Int32.toNatClampNeg (x4 + (1 : Int32)))) S O) (fun r2 S4 O5 => ck (ib (x4 + (1 : Int32)) nL) (b2 (F_m_fleets (xs (Int32.toNatClampNeg (x4 + (1 : Int32)))) M) (fun r7 M9 => b1 (F_m_thrown M9) (fun r10 => if r10 = r2 then if r2 = 0 then if (al O5 2000 (Int32.toNatClampNeg (0 : Int32))) = (Int32.toInt64 r7) then F_l_law_2430 nL xs k23 x4 S4 M9 O5 else some ((0 : Int32), S4, M9, O5) else F_l_law_2430 nL xs k23 x4 S4 M9 O5 else some ((0 : Int32), S4, M9, O5))))))
set_option maxRecDepth 100000 in
theorem X_l_law_2377 {nL : Nat} {xs : Nat → Int32} {d : Nat} (hd : 98 ≤ d) {K : Nat} {k23 : Int32 → Sto → Sto → Sto → Option (Int32 × Sto × Sto × Sto)} (hk23 : ∀ (x4 : Int32) (S : Sto) (M : Sto) (O : Sto) (r : Int32) (S' : Sto) (M' : Sto) (O' : Sto), k23 x4 S M O = some (r, S', M', O') → EX nL xs K MI_281 d 23 [some (.ref 2500), some (.ref 0), some (.ref 1000), some (.ref 2000), some (.int x4), none, none, none] [] (S, M, O) (.inl (some (.int r))) (S', M', O')) : ∀ (x4 : Int32) (S : Sto) (M : Sto) (O : Sto) (r : Int32) (S' : Sto) (M' : Sto) (O' : Sto), F_l_law_2377 nL xs k23 x4 S M O = some (r, S', M', O') → EX nL xs (K + 1) MI_281 d 2377 [some (.ref 2500), some (.ref 0), some (.ref 1000), some (.ref 2000), some (.int x4), none, none, none] [] (S, M, O) (.inl (some (.int r))) (S', M', O') := by
  intro x4 S M O r S' M' O' hF
  unfold F_l_law_2377 at hF
  refine Ex_go 5 (pc' := 2383) (L' := [some (.ref 2500), some (.ref 0), some (.ref 1000), some (.ref 2000), some (.int x4), none, none, none]) (st' := [.int (x4 + (1 : Int32)), .ref 2500, .ref 0]) (σ' := (S, M, O)) (rfl) ?_
  obtain ⟨hc1, hF⟩ := ck_i hF
  refine Ex_chk (b := ib (x4 + (1 : Int32)) nL) (pc' := 2384) (L' := [some (.ref 2500), some (.ref 0), some (.ref 1000), some (.ref 2000), some (.int x4), none, none, none]) (st' := [.int (xs (Int32.toNatClampNeg (x4 + (1 : Int32)))), .ref 0]) (σ' := (S, M, O)) rfl hc1 ?_
  refine Ex_go 1 (pc' := 2385) (L' := [some (.ref 2500), some (.ref 0), some (.ref 1000), some (.ref 2000), some (.int x4), none, none, none]) (st' := [.ref 2000, .int (xs (Int32.toNatClampNeg (x4 + (1 : Int32)))), .ref 0]) (σ' := (S, M, O)) (rfl) ?_
  obtain ⟨r2, S4, O5, hx3, hF⟩ := b3_i hF
  refine Ex_callK (K1 := 1) (K2 := K) (kind := 4) (y := 267) (as := [.ref 0, .int (xs (Int32.toNatClampNeg (x4 + (1 : Int32)))), .ref 2000]) (rest := []) (L0 := [some (.ref 0), some (.int (xs (Int32.toNatClampNeg (x4 + (1 : Int32))))), some (.ref 2000), none]) (d' := 10) (v := some (.int r2)) (σ1 := (S4, M, O5)) rfl rfl mt_267 rfl rfl (by omega) (X_l_fleets (Nat.le_refl _) _ _ _ _ _ _ hx3) (Ex_st (st2 := [.int r2]) rfl ?_) (by omega)
  refine Ex_go 6 (pc' := 2396) (L' := [some (.ref 2500), some (.ref 0), some (.ref 1000), some (.ref 2000), some (.int x4), some (.int r2), none, none]) (st' := [.int (x4 + (1 : Int32)), .ref 2500, .ref 1000]) (σ' := (S4, M, O5)) (rfl) ?_
  obtain ⟨hc6, hF⟩ := ck_i hF
  refine Ex_chk (b := ib (x4 + (1 : Int32)) nL) (pc' := 2397) (L' := [some (.ref 2500), some (.ref 0), some (.ref 1000), some (.ref 2000), some (.int x4), some (.int r2), none, none]) (st' := [.int (xs (Int32.toNatClampNeg (x4 + (1 : Int32)))), .ref 1000]) (σ' := (S4, M, O5)) rfl hc6 ?_
  obtain ⟨r7, M9, hx8, hF⟩ := b2_i hF
  refine Ex_callK (K1 := 0) (K2 := K) (kind := 2) (y := 270) (as := [.ref 1000, .int (xs (Int32.toNatClampNeg (x4 + (1 : Int32))))]) (rest := []) (L0 := [some (.ref 1000), some (.int (xs (Int32.toNatClampNeg (x4 + (1 : Int32))))), none, none, none, none]) (d' := 9) (v := some (.int r7)) (σ1 := (S4, M9, O5)) rfl rfl mt_270 rfl rfl (by omega) (X_m_fleets (Nat.le_refl _) _ _ _ _ hx8) (Ex_st (st2 := [.int r7]) rfl ?_) (by omega)
  refine Ex_go 2 (pc' := 2403) (L' := [some (.ref 2500), some (.ref 0), some (.ref 1000), some (.ref 2000), some (.int x4), some (.int r2), some (.int r7), none]) (st' := [.ref 1000]) (σ' := (S4, M9, O5)) (rfl) ?_
  obtain ⟨r10, hx11, hF⟩ := b1_i hF
  refine Ex_callK (K1 := 0) (K2 := K) (kind := 2) (y := 77) (as := [.ref 1000]) (rest := []) (L0 := [some (.ref 1000)]) (d' := 1) (v := some (.int r10)) (σ1 := (S4, M9, O5)) rfl rfl mt_77 rfl rfl (by omega) (X_m_thrown (Nat.le_refl _) _ _ hx11) (Ex_st (st2 := [.int r10]) rfl ?_) (by omega)
  refine Ex_go 2 (pc' := if r10 = r2 then 2413 else 2411) (L' := [some (.ref 2500), some (.ref 0), some (.ref 1000), some (.ref 2000), some (.int x4), some (.int r2), some (.int r7), none]) (st' := []) (σ' := (S4, M9, O5)) (rfl) ?_
  refine Ex_br (fun hc => ?_) (fun hc => ?_)
  · rw [if_pos hc] at hF
    refine Ex_go 2 (pc' := if ¬ r2 = 0 then 2430 else 2418) (L' := [some (.ref 2500), some (.ref 0), some (.ref 1000), some (.ref 2000), some (.int x4), some (.int r2), some (.int r7), none]) (st' := []) (σ' := (S4, M9, O5)) (rfl) ?_
    refine Ex_brN (fun hc => ?_) (fun hc => ?_)
    · rw [if_pos hc] at hF
      refine Ex_go 2 (pc' := 2420) (L' := [some (.ref 2500), some (.ref 0), some (.ref 1000), some (.ref 2000), some (.int x4), some (.int r2), some (.int r7), none]) (st' := [.int (0 : Int32), .ref 2000]) (σ' := (S4, M9, O5)) (rfl) ?_
      refine Ex_chk (b := ib (0 : Int32) 1) (pc' := 2421) (L' := [some (.ref 2500), some (.ref 0), some (.ref 1000), some (.ref 2000), some (.int x4), some (.int r2), some (.int r7), none]) (st' := [.long (al O5 2000 (Int32.toNatClampNeg (0 : Int32)))]) (σ' := (S4, M9, O5)) rfl (by decide) ?_
      refine Ex_go 4 (pc' := if (lg_cmp (al O5 2000 (Int32.toNatClampNeg (0 : Int32))) (Int32.toInt64 r7)) = 0 then 2430 else 2428) (L' := [some (.ref 2500), some (.ref 0), some (.ref 1000), some (.ref 2000), some (.int x4), some (.int r2), some (.int r7), none]) (st' := []) (σ' := (S4, M9, O5)) (rfl) ?_
      refine Ex_brI lc_eq (fun hc => ?_) (fun hc => ?_)
      · rw [if_pos hc] at hF
        exact Ex_mono (L := [some (.ref 2500), some (.ref 0), some (.ref 1000), some (.ref 2000), some (.int x4), none, none, none]) (Le_s (Le_s (Le_s (Le_s (Le_s (Le_n (Le_n (Le_n (Le_0))))))))) (X_l_law_2430 hd hk23 _ _ _ _ _ _ _ _ hF) (Nat.le_refl _) (by omega)
      · rw [if_neg hc] at hF
        refine Ex_go 1 (pc' := 2429) (L' := [some (.ref 2500), some (.ref 0), some (.ref 1000), some (.ref 2000), some (.int x4), some (.int r2), some (.int r7), none]) (st' := [.int (0 : Int32)]) (σ' := (S4, M9, O5)) (rfl) ?_
        cases hF
        exact Ex_fin rfl
    · rw [if_neg hc] at hF
      exact Ex_mono (L := [some (.ref 2500), some (.ref 0), some (.ref 1000), some (.ref 2000), some (.int x4), none, none, none]) (Le_s (Le_s (Le_s (Le_s (Le_s (Le_n (Le_n (Le_n (Le_0))))))))) (X_l_law_2430 hd hk23 _ _ _ _ _ _ _ _ hF) (Nat.le_refl _) (by omega)
  · rw [if_neg hc] at hF
    refine Ex_go 1 (pc' := 2412) (L' := [some (.ref 2500), some (.ref 0), some (.ref 1000), some (.ref 2000), some (.int x4), some (.int r2), some (.int r7), none]) (st' := [.int (0 : Int32)]) (σ' := (S4, M9, O5)) (rfl) ?_
    cases hF
    exact Ex_fin rfl
def F_l_law_2510 (nL : Nat) (xs : Nat → Int32) (k23 : Int32 → Sto → Sto → Sto → Option (Int32 × Sto × Sto × Sto)) (x4 : Int32) (S : Sto) (M : Sto) (O : Sto) : Option (Int32 × Sto × Sto × Sto) := F_l_law_2537 nL xs k23 x4 S M O
set_option maxRecDepth 100000 in
theorem X_l_law_2510 {nL : Nat} {xs : Nat → Int32} {d : Nat} (hd : 98 ≤ d) {K : Nat} {k23 : Int32 → Sto → Sto → Sto → Option (Int32 × Sto × Sto × Sto)} (hk23 : ∀ (x4 : Int32) (S : Sto) (M : Sto) (O : Sto) (r : Int32) (S' : Sto) (M' : Sto) (O' : Sto), k23 x4 S M O = some (r, S', M', O') → EX nL xs K MI_281 d 23 [some (.ref 2500), some (.ref 0), some (.ref 1000), some (.ref 2000), some (.int x4), none, none, none] [] (S, M, O) (.inl (some (.int r))) (S', M', O')) : ∀ (x4 : Int32) (S : Sto) (M : Sto) (O : Sto) (r : Int32) (S' : Sto) (M' : Sto) (O' : Sto), F_l_law_2510 nL xs k23 x4 S M O = some (r, S', M', O') → EX nL xs K MI_281 d 2510 [some (.ref 2500), some (.ref 0), some (.ref 1000), some (.ref 2000), some (.int x4), none, none, none] [] (S, M, O) (.inl (some (.int r))) (S', M', O') := by
  intro x4 S M O r S' M' O' hF
  unfold F_l_law_2510 at hF
  refine Ex_go 1 (pc' := 2537) (L' := [some (.ref 2500), some (.ref 0), some (.ref 1000), some (.ref 2000), some (.int x4), none, none, none]) (st' := []) (σ' := (S, M, O)) (rfl) ?_
  exact Ex_mono (L := [some (.ref 2500), some (.ref 0), some (.ref 1000), some (.ref 2000), some (.int x4), none, none, none]) (Le_s (Le_s (Le_s (Le_s (Le_s (Le_n (Le_n (Le_n (Le_0))))))))) (X_l_law_2537 hd hk23 _ _ _ _ _ _ _ _ hF) (Nat.le_refl _) (by omega)
def F_l_law_2433 (nL : Nat) (xs : Nat → Int32) (k23 : Int32 → Sto → Sto → Sto → Option (Int32 × Sto × Sto × Sto)) (x4 : Int32) (S : Sto) (M : Sto) (O : Sto) : Option (Int32 × Sto × Sto × Sto) := ck (ib (x4 + (1 : Int32)) nL) (ck (ib (x4 + (2 : Int32)) nL) (ck (ib (x4 + (3 : Int32)) nL) (b2 (F_l_days (xs (Int32.toNatClampNeg (x4 + (1 : Int32)))) (xs (Int32.toNatClampNeg (x4 + (2 : Int32)))) (xs (Int32.toNatClampNeg (x4 + (3 : Int32)))) S O) (fun r4 O6 => ck (ib (x4 + (1 : Int32)) nL) (ck (ib (x4 + (2 : Int32)) nL) (ck (ib (x4 + (3 : Int32)) nL) (b2 (F_m_days (xs (Int32.toNatClampNeg (x4 + (1 : Int32)))) (xs (Int32.toNatClampNeg (x4 + (2 : Int32)))) (xs (Int32.toNatClampNeg (x4 + (3 : Int32)))) M) (fun r10 M12 => b1 (F_m_thrown M12) (fun r13 => if r13 = r4 then if r4 = 0 then if (al O6 2000 (Int32.toNatClampNeg (0 : Int32))) = (Int32.toInt64 r10) then F_l_law_2510 nL xs k23 x4 S M12 O6 else some ((0 : Int32), S, M12, O6) else F_l_law_2510 nL xs k23 x4 S M12 O6 else some ((0 : Int32), S, M12, O6))))))))))
set_option maxRecDepth 100000 in
theorem X_l_law_2433 {nL : Nat} {xs : Nat → Int32} {d : Nat} (hd : 98 ≤ d) {K : Nat} {k23 : Int32 → Sto → Sto → Sto → Option (Int32 × Sto × Sto × Sto)} (hk23 : ∀ (x4 : Int32) (S : Sto) (M : Sto) (O : Sto) (r : Int32) (S' : Sto) (M' : Sto) (O' : Sto), k23 x4 S M O = some (r, S', M', O') → EX nL xs K MI_281 d 23 [some (.ref 2500), some (.ref 0), some (.ref 1000), some (.ref 2000), some (.int x4), none, none, none] [] (S, M, O) (.inl (some (.int r))) (S', M', O')) : ∀ (x4 : Int32) (S : Sto) (M : Sto) (O : Sto) (r : Int32) (S' : Sto) (M' : Sto) (O' : Sto), F_l_law_2433 nL xs k23 x4 S M O = some (r, S', M', O') → EX nL xs (K + 1) MI_281 d 2433 [some (.ref 2500), some (.ref 0), some (.ref 1000), some (.ref 2000), some (.int x4), none, none, none] [] (S, M, O) (.inl (some (.int r))) (S', M', O') := by
  intro x4 S M O r S' M' O' hF
  unfold F_l_law_2433 at hF
  refine Ex_go 5 (pc' := 2439) (L' := [some (.ref 2500), some (.ref 0), some (.ref 1000), some (.ref 2000), some (.int x4), none, none, none]) (st' := [.int (x4 + (1 : Int32)), .ref 2500, .ref 0]) (σ' := (S, M, O)) (rfl) ?_
  obtain ⟨hc1, hF⟩ := ck_i hF
  refine Ex_chk (b := ib (x4 + (1 : Int32)) nL) (pc' := 2440) (L' := [some (.ref 2500), some (.ref 0), some (.ref 1000), some (.ref 2000), some (.int x4), none, none, none]) (st' := [.int (xs (Int32.toNatClampNeg (x4 + (1 : Int32)))), .ref 0]) (σ' := (S, M, O)) rfl hc1 ?_
  refine Ex_go 4 (pc' := 2445) (L' := [some (.ref 2500), some (.ref 0), some (.ref 1000), some (.ref 2000), some (.int x4), none, none, none]) (st' := [.int (x4 + (2 : Int32)), .ref 2500, .int (xs (Int32.toNatClampNeg (x4 + (1 : Int32)))), .ref 0]) (σ' := (S, M, O)) (rfl) ?_
  obtain ⟨hc2, hF⟩ := ck_i hF
  refine Ex_chk (b := ib (x4 + (2 : Int32)) nL) (pc' := 2446) (L' := [some (.ref 2500), some (.ref 0), some (.ref 1000), some (.ref 2000), some (.int x4), none, none, none]) (st' := [.int (xs (Int32.toNatClampNeg (x4 + (2 : Int32)))), .int (xs (Int32.toNatClampNeg (x4 + (1 : Int32)))), .ref 0]) (σ' := (S, M, O)) rfl hc2 ?_
  refine Ex_go 4 (pc' := 2451) (L' := [some (.ref 2500), some (.ref 0), some (.ref 1000), some (.ref 2000), some (.int x4), none, none, none]) (st' := [.int (x4 + (3 : Int32)), .ref 2500, .int (xs (Int32.toNatClampNeg (x4 + (2 : Int32)))), .int (xs (Int32.toNatClampNeg (x4 + (1 : Int32)))), .ref 0]) (σ' := (S, M, O)) (rfl) ?_
  obtain ⟨hc3, hF⟩ := ck_i hF
  refine Ex_chk (b := ib (x4 + (3 : Int32)) nL) (pc' := 2452) (L' := [some (.ref 2500), some (.ref 0), some (.ref 1000), some (.ref 2000), some (.int x4), none, none, none]) (st' := [.int (xs (Int32.toNatClampNeg (x4 + (3 : Int32)))), .int (xs (Int32.toNatClampNeg (x4 + (2 : Int32)))), .int (xs (Int32.toNatClampNeg (x4 + (1 : Int32)))), .ref 0]) (σ' := (S, M, O)) rfl hc3 ?_
  refine Ex_go 1 (pc' := 2453) (L' := [some (.ref 2500), some (.ref 0), some (.ref 1000), some (.ref 2000), some (.int x4), none, none, none]) (st' := [.ref 2000, .int (xs (Int32.toNatClampNeg (x4 + (3 : Int32)))), .int (xs (Int32.toNatClampNeg (x4 + (2 : Int32)))), .int (xs (Int32.toNatClampNeg (x4 + (1 : Int32)))), .ref 0]) (σ' := (S, M, O)) (rfl) ?_
  obtain ⟨r4, O6, hx5, hF⟩ := b2_i hF
  refine Ex_callK (K1 := 1) (K2 := K) (kind := 4) (y := 272) (as := [.ref 0, .int (xs (Int32.toNatClampNeg (x4 + (1 : Int32)))), .int (xs (Int32.toNatClampNeg (x4 + (2 : Int32)))), .int (xs (Int32.toNatClampNeg (x4 + (3 : Int32)))), .ref 2000]) (rest := []) (L0 := [some (.ref 0), some (.int (xs (Int32.toNatClampNeg (x4 + (1 : Int32))))), some (.int (xs (Int32.toNatClampNeg (x4 + (2 : Int32))))), some (.int (xs (Int32.toNatClampNeg (x4 + (3 : Int32))))), some (.ref 2000), none]) (d' := 9) (v := some (.int r4)) (σ1 := (S, M, O6)) rfl rfl mt_272 rfl rfl (by omega) (X_l_days (Nat.le_refl _) _ _ _ _ _ _ _ hx5) (Ex_st (st2 := [.int r4]) rfl ?_) (by omega)
  refine Ex_go 6 (pc' := 2464) (L' := [some (.ref 2500), some (.ref 0), some (.ref 1000), some (.ref 2000), some (.int x4), some (.int r4), none, none]) (st' := [.int (x4 + (1 : Int32)), .ref 2500, .ref 1000]) (σ' := (S, M, O6)) (rfl) ?_
  obtain ⟨hc7, hF⟩ := ck_i hF
  refine Ex_chk (b := ib (x4 + (1 : Int32)) nL) (pc' := 2465) (L' := [some (.ref 2500), some (.ref 0), some (.ref 1000), some (.ref 2000), some (.int x4), some (.int r4), none, none]) (st' := [.int (xs (Int32.toNatClampNeg (x4 + (1 : Int32)))), .ref 1000]) (σ' := (S, M, O6)) rfl hc7 ?_
  refine Ex_go 4 (pc' := 2470) (L' := [some (.ref 2500), some (.ref 0), some (.ref 1000), some (.ref 2000), some (.int x4), some (.int r4), none, none]) (st' := [.int (x4 + (2 : Int32)), .ref 2500, .int (xs (Int32.toNatClampNeg (x4 + (1 : Int32)))), .ref 1000]) (σ' := (S, M, O6)) (rfl) ?_
  obtain ⟨hc8, hF⟩ := ck_i hF
  refine Ex_chk (b := ib (x4 + (2 : Int32)) nL) (pc' := 2471) (L' := [some (.ref 2500), some (.ref 0), some (.ref 1000), some (.ref 2000), some (.int x4), some (.int r4), none, none]) (st' := [.int (xs (Int32.toNatClampNeg (x4 + (2 : Int32)))), .int (xs (Int32.toNatClampNeg (x4 + (1 : Int32)))), .ref 1000]) (σ' := (S, M, O6)) rfl hc8 ?_
  refine Ex_go 4 (pc' := 2476) (L' := [some (.ref 2500), some (.ref 0), some (.ref 1000), some (.ref 2000), some (.int x4), some (.int r4), none, none]) (st' := [.int (x4 + (3 : Int32)), .ref 2500, .int (xs (Int32.toNatClampNeg (x4 + (2 : Int32)))), .int (xs (Int32.toNatClampNeg (x4 + (1 : Int32)))), .ref 1000]) (σ' := (S, M, O6)) (rfl) ?_
  obtain ⟨hc9, hF⟩ := ck_i hF
  refine Ex_chk (b := ib (x4 + (3 : Int32)) nL) (pc' := 2477) (L' := [some (.ref 2500), some (.ref 0), some (.ref 1000), some (.ref 2000), some (.int x4), some (.int r4), none, none]) (st' := [.int (xs (Int32.toNatClampNeg (x4 + (3 : Int32)))), .int (xs (Int32.toNatClampNeg (x4 + (2 : Int32)))), .int (xs (Int32.toNatClampNeg (x4 + (1 : Int32)))), .ref 1000]) (σ' := (S, M, O6)) rfl hc9 ?_
  obtain ⟨r10, M12, hx11, hF⟩ := b2_i hF
  refine Ex_callK (K1 := 0) (K2 := K) (kind := 2) (y := 273) (as := [.ref 1000, .int (xs (Int32.toNatClampNeg (x4 + (1 : Int32)))), .int (xs (Int32.toNatClampNeg (x4 + (2 : Int32)))), .int (xs (Int32.toNatClampNeg (x4 + (3 : Int32))))]) (rest := []) (L0 := [some (.ref 1000), some (.int (xs (Int32.toNatClampNeg (x4 + (1 : Int32))))), some (.int (xs (Int32.toNatClampNeg (x4 + (2 : Int32))))), some (.int (xs (Int32.toNatClampNeg (x4 + (3 : Int32))))), none, none, none, none, none, none]) (d' := 6) (v := some (.int r10)) (σ1 := (S, M12, O6)) rfl rfl mt_273 rfl rfl (by omega) (X_m_days (Nat.le_refl _) _ _ _ _ _ _ hx11) (Ex_st (st2 := [.int r10]) rfl ?_) (by omega)
  refine Ex_go 2 (pc' := 2483) (L' := [some (.ref 2500), some (.ref 0), some (.ref 1000), some (.ref 2000), some (.int x4), some (.int r4), some (.int r10), none]) (st' := [.ref 1000]) (σ' := (S, M12, O6)) (rfl) ?_
  obtain ⟨r13, hx14, hF⟩ := b1_i hF
  refine Ex_callK (K1 := 0) (K2 := K) (kind := 2) (y := 77) (as := [.ref 1000]) (rest := []) (L0 := [some (.ref 1000)]) (d' := 1) (v := some (.int r13)) (σ1 := (S, M12, O6)) rfl rfl mt_77 rfl rfl (by omega) (X_m_thrown (Nat.le_refl _) _ _ hx14) (Ex_st (st2 := [.int r13]) rfl ?_) (by omega)
  refine Ex_go 2 (pc' := if r13 = r4 then 2493 else 2491) (L' := [some (.ref 2500), some (.ref 0), some (.ref 1000), some (.ref 2000), some (.int x4), some (.int r4), some (.int r10), none]) (st' := []) (σ' := (S, M12, O6)) (rfl) ?_
  refine Ex_br (fun hc => ?_) (fun hc => ?_)
  · rw [if_pos hc] at hF
    refine Ex_go 2 (pc' := if ¬ r4 = 0 then 2510 else 2498) (L' := [some (.ref 2500), some (.ref 0), some (.ref 1000), some (.ref 2000), some (.int x4), some (.int r4), some (.int r10), none]) (st' := []) (σ' := (S, M12, O6)) (rfl) ?_
    refine Ex_brN (fun hc => ?_) (fun hc => ?_)
    · rw [if_pos hc] at hF
      refine Ex_go 2 (pc' := 2500) (L' := [some (.ref 2500), some (.ref 0), some (.ref 1000), some (.ref 2000), some (.int x4), some (.int r4), some (.int r10), none]) (st' := [.int (0 : Int32), .ref 2000]) (σ' := (S, M12, O6)) (rfl) ?_
      refine Ex_chk (b := ib (0 : Int32) 1) (pc' := 2501) (L' := [some (.ref 2500), some (.ref 0), some (.ref 1000), some (.ref 2000), some (.int x4), some (.int r4), some (.int r10), none]) (st' := [.long (al O6 2000 (Int32.toNatClampNeg (0 : Int32)))]) (σ' := (S, M12, O6)) rfl (by decide) ?_
      refine Ex_go 4 (pc' := if (lg_cmp (al O6 2000 (Int32.toNatClampNeg (0 : Int32))) (Int32.toInt64 r10)) = 0 then 2510 else 2508) (L' := [some (.ref 2500), some (.ref 0), some (.ref 1000), some (.ref 2000), some (.int x4), some (.int r4), some (.int r10), none]) (st' := []) (σ' := (S, M12, O6)) (rfl) ?_
      refine Ex_brI lc_eq (fun hc => ?_) (fun hc => ?_)
      · rw [if_pos hc] at hF
        exact Ex_mono (L := [some (.ref 2500), some (.ref 0), some (.ref 1000), some (.ref 2000), some (.int x4), none, none, none]) (Le_s (Le_s (Le_s (Le_s (Le_s (Le_n (Le_n (Le_n (Le_0))))))))) (X_l_law_2510 hd hk23 _ _ _ _ _ _ _ _ hF) (Nat.le_refl _) (by omega)
      · rw [if_neg hc] at hF
        refine Ex_go 1 (pc' := 2509) (L' := [some (.ref 2500), some (.ref 0), some (.ref 1000), some (.ref 2000), some (.int x4), some (.int r4), some (.int r10), none]) (st' := [.int (0 : Int32)]) (σ' := (S, M12, O6)) (rfl) ?_
        cases hF
        exact Ex_fin rfl
    · rw [if_neg hc] at hF
      exact Ex_mono (L := [some (.ref 2500), some (.ref 0), some (.ref 1000), some (.ref 2000), some (.int x4), none, none, none]) (Le_s (Le_s (Le_s (Le_s (Le_s (Le_n (Le_n (Le_n (Le_0))))))))) (X_l_law_2510 hd hk23 _ _ _ _ _ _ _ _ hF) (Nat.le_refl _) (by omega)
  · rw [if_neg hc] at hF
    refine Ex_go 1 (pc' := 2492) (L' := [some (.ref 2500), some (.ref 0), some (.ref 1000), some (.ref 2000), some (.int x4), some (.int r4), some (.int r10), none]) (st' := [.int (0 : Int32)]) (σ' := (S, M12, O6)) (rfl) ?_
    cases hF
    exact Ex_fin rfl
def F_l_law_2513 (nL : Nat) (xs : Nat → Int32) (k23 : Int32 → Sto → Sto → Sto → Option (Int32 × Sto × Sto × Sto)) (x4 : Int32) (S : Sto) (M : Sto) (O : Sto) : Option (Int32 × Sto × Sto × Sto) := b2 (F_w_image S) (fun r1 S3 => b2 (F_m_image M) (fun r4 M6 => F_l_law_2537 nL xs k23 x4 S3 M6 O))
set_option maxRecDepth 100000 in
theorem X_l_law_2513 {nL : Nat} {xs : Nat → Int32} {d : Nat} (hd : 98 ≤ d) {K : Nat} {k23 : Int32 → Sto → Sto → Sto → Option (Int32 × Sto × Sto × Sto)} (hk23 : ∀ (x4 : Int32) (S : Sto) (M : Sto) (O : Sto) (r : Int32) (S' : Sto) (M' : Sto) (O' : Sto), k23 x4 S M O = some (r, S', M', O') → EX nL xs K MI_281 d 23 [some (.ref 2500), some (.ref 0), some (.ref 1000), some (.ref 2000), some (.int x4), none, none, none] [] (S, M, O) (.inl (some (.int r))) (S', M', O')) : ∀ (x4 : Int32) (S : Sto) (M : Sto) (O : Sto) (r : Int32) (S' : Sto) (M' : Sto) (O' : Sto), F_l_law_2513 nL xs k23 x4 S M O = some (r, S', M', O') → EX nL xs K MI_281 d 2513 [some (.ref 2500), some (.ref 0), some (.ref 1000), some (.ref 2000), some (.int x4), none, none, none] [] (S, M, O) (.inl (some (.int r))) (S', M', O') := by
  intro x4 S M O r S' M' O' hF
  unfold F_l_law_2513 at hF
  refine Ex_go 1 (pc' := 2514) (L' := [some (.ref 2500), some (.ref 0), some (.ref 1000), some (.ref 2000), some (.int x4), none, none, none]) (st' := [.ref 0]) (σ' := (S, M, O)) (rfl) ?_
  obtain ⟨r1, S3, hx2, hF⟩ := b2_i hF
  refine Ex_callK (K1 := 0) (K2 := K) (kind := 2) (y := 275) (as := [.ref 0]) (rest := []) (L0 := [some (.ref 0)]) (d' := 2) (v := none) (σ1 := (S3, M, O)) rfl rfl mt_275 rfl rfl (by omega) (X_w_image (Nat.le_refl _) _ _ _ hx2) (Ex_st (st2 := []) rfl ?_) (by omega)
  refine Ex_go 1 (pc' := 2518) (L' := [some (.ref 2500), some (.ref 0), some (.ref 1000), some (.ref 2000), some (.int x4), none, none, none]) (st' := [.ref 1000]) (σ' := (S3, M, O)) (rfl) ?_
  obtain ⟨r4, M6, hx5, hF⟩ := b2_i hF
  refine Ex_callK (K1 := 0) (K2 := K) (kind := 2) (y := 278) (as := [.ref 1000]) (rest := []) (L0 := [some (.ref 1000), none]) (d' := 2) (v := none) (σ1 := (S3, M6, O)) rfl rfl mt_278 rfl rfl (by omega) (X_m_image (Nat.le_refl _) _ _ _ hx5) (Ex_st (st2 := []) rfl ?_) (by omega)
  refine Ex_go 1 (pc' := 2537) (L' := [some (.ref 2500), some (.ref 0), some (.ref 1000), some (.ref 2000), some (.int x4), none, none, none]) (st' := []) (σ' := (S3, M6, O)) (rfl) ?_
  exact Ex_mono (L := [some (.ref 2500), some (.ref 0), some (.ref 1000), some (.ref 2000), some (.int x4), none, none, none]) (Le_s (Le_s (Le_s (Le_s (Le_s (Le_n (Le_n (Le_n (Le_0))))))))) (X_l_law_2537 hd hk23 _ _ _ _ _ _ _ _ hF) (Nat.le_refl _) (by omega)
def F_l_law_2524 (nL : Nat) (xs : Nat → Int32) (k23 : Int32 → Sto → Sto → Sto → Option (Int32 × Sto × Sto × Sto)) (x4 : Int32) (S : Sto) (M : Sto) (O : Sto) : Option (Int32 × Sto × Sto × Sto) := b2 (F_w_restore S) (fun r1 S3 => b2 (F_m_restore M) (fun r4 M6 => if r1 = r4 then F_l_law_2537 nL xs k23 x4 S3 M6 O else some ((0 : Int32), S3, M6, O)))
set_option maxRecDepth 100000 in
theorem X_l_law_2524 {nL : Nat} {xs : Nat → Int32} {d : Nat} (hd : 98 ≤ d) {K : Nat} {k23 : Int32 → Sto → Sto → Sto → Option (Int32 × Sto × Sto × Sto)} (hk23 : ∀ (x4 : Int32) (S : Sto) (M : Sto) (O : Sto) (r : Int32) (S' : Sto) (M' : Sto) (O' : Sto), k23 x4 S M O = some (r, S', M', O') → EX nL xs K MI_281 d 23 [some (.ref 2500), some (.ref 0), some (.ref 1000), some (.ref 2000), some (.int x4), none, none, none] [] (S, M, O) (.inl (some (.int r))) (S', M', O')) : ∀ (x4 : Int32) (S : Sto) (M : Sto) (O : Sto) (r : Int32) (S' : Sto) (M' : Sto) (O' : Sto), F_l_law_2524 nL xs k23 x4 S M O = some (r, S', M', O') → EX nL xs K MI_281 d 2524 [some (.ref 2500), some (.ref 0), some (.ref 1000), some (.ref 2000), some (.int x4), none, none, none] [] (S, M, O) (.inl (some (.int r))) (S', M', O') := by
  intro x4 S M O r S' M' O' hF
  unfold F_l_law_2524 at hF
  refine Ex_go 1 (pc' := 2525) (L' := [some (.ref 2500), some (.ref 0), some (.ref 1000), some (.ref 2000), some (.int x4), none, none, none]) (st' := [.ref 0]) (σ' := (S, M, O)) (rfl) ?_
  obtain ⟨r1, S3, hx2, hF⟩ := b2_i hF
  refine Ex_callK (K1 := 0) (K2 := K) (kind := 2) (y := 279) (as := [.ref 0]) (rest := []) (L0 := [some (.ref 0)]) (d' := 2) (v := some (.int r1)) (σ1 := (S3, M, O)) rfl rfl mt_279 rfl rfl (by omega) (X_w_restore (Nat.le_refl _) _ _ _ hx2) (Ex_st (st2 := [.int r1]) rfl ?_) (by omega)
  refine Ex_go 1 (pc' := 2529) (L' := [some (.ref 2500), some (.ref 0), some (.ref 1000), some (.ref 2000), some (.int x4), none, none, none]) (st' := [.ref 1000, .int r1]) (σ' := (S3, M, O)) (rfl) ?_
  obtain ⟨r4, M6, hx5, hF⟩ := b2_i hF
  refine Ex_callK (K1 := 0) (K2 := K) (kind := 2) (y := 280) (as := [.ref 1000]) (rest := [.int r1]) (L0 := [some (.ref 1000), none]) (d' := 2) (v := some (.int r4)) (σ1 := (S3, M6, O)) rfl rfl mt_280 rfl rfl (by omega) (X_m_restore (Nat.le_refl _) _ _ _ hx5) (Ex_st (st2 := [.int r4, .int r1]) rfl ?_) (by omega)
  refine Ex_go 1 (pc' := if r1 = r4 then 2537 else 2535) (L' := [some (.ref 2500), some (.ref 0), some (.ref 1000), some (.ref 2000), some (.int x4), none, none, none]) (st' := []) (σ' := (S3, M6, O)) (rfl) ?_
  refine Ex_br (fun hc => ?_) (fun hc => ?_)
  · rw [if_pos hc] at hF
    exact Ex_mono (L := [some (.ref 2500), some (.ref 0), some (.ref 1000), some (.ref 2000), some (.int x4), none, none, none]) (Le_s (Le_s (Le_s (Le_s (Le_s (Le_n (Le_n (Le_n (Le_0))))))))) (X_l_law_2537 hd hk23 _ _ _ _ _ _ _ _ hF) (Nat.le_refl _) (by omega)
  · rw [if_neg hc] at hF
    refine Ex_go 1 (pc' := 2536) (L' := [some (.ref 2500), some (.ref 0), some (.ref 1000), some (.ref 2000), some (.int x4), none, none, none]) (st' := [.int (0 : Int32)]) (σ' := (S3, M6, O)) (rfl) ?_
    cases hF
    exact Ex_fin rfl
def F_l_law_23 (nL : Nat) (xs : Nat → Int32) : Nat → Int32 → Sto → Sto → Sto → Option (Int32 × Sto × Sto × Sto)
  | 0, _, _, _, _ => none
  | n + 1, x4, S, M, O => if ((nI nL) - (6 : Int32)) < x4 then some ((1 : Int32), S, M, O) else ck (ib x4 nL) (if ((xs (Int32.toNatClampNeg x4)) &&& (63 : Int32)) = 0 then F_l_law_212 nL xs (F_l_law_23 nL xs n) x4 S M O else (if ((xs (Int32.toNatClampNeg x4)) &&& (63 : Int32)) = 1 then F_l_law_285 nL xs (F_l_law_23 nL xs n) x4 S M O else (if ((xs (Int32.toNatClampNeg x4)) &&& (63 : Int32)) = 2 then F_l_law_341 nL xs (F_l_law_23 nL xs n) x4 S M O else (if ((xs (Int32.toNatClampNeg x4)) &&& (63 : Int32)) = 3 then F_l_law_354 nL xs (F_l_law_23 nL xs n) x4 S M O else (if ((xs (Int32.toNatClampNeg x4)) &&& (63 : Int32)) = 4 then F_l_law_409 nL xs (F_l_law_23 nL xs n) x4 S M O else (if ((xs (Int32.toNatClampNeg x4)) &&& (63 : Int32)) = 5 then F_l_law_476 nL xs (F_l_law_23 nL xs n) x4 S M O else (if ((xs (Int32.toNatClampNeg x4)) &&& (63 : Int32)) = 6 then F_l_law_539 nL xs (F_l_law_23 nL xs n) x4 S M O else (if ((xs (Int32.toNatClampNeg x4)) &&& (63 : Int32)) = 7 then F_l_law_640 nL xs (F_l_law_23 nL xs n) x4 S M O else (if ((xs (Int32.toNatClampNeg x4)) &&& (63 : Int32)) = 8 then F_l_law_731 nL xs (F_l_law_23 nL xs n) x4 S M O else (if ((xs (Int32.toNatClampNeg x4)) &&& (63 : Int32)) = 9 then F_l_law_756 nL xs (F_l_law_23 nL xs n) x4 S M O else (if ((xs (Int32.toNatClampNeg x4)) &&& (63 : Int32)) = 10 then F_l_law_769 nL xs (F_l_law_23 nL xs n) x4 S M O else (if ((xs (Int32.toNatClampNeg x4)) &&& (63 : Int32)) = 11 then F_l_law_857 nL xs (F_l_law_23 nL xs n) x4 S M O else (if ((xs (Int32.toNatClampNeg x4)) &&& (63 : Int32)) = 12 then F_l_law_912 nL xs (F_l_law_23 nL xs n) x4 S M O else (if ((xs (Int32.toNatClampNeg x4)) &&& (63 : Int32)) = 13 then F_l_law_967 nL xs (F_l_law_23 nL xs n) x4 S M O else (if ((xs (Int32.toNatClampNeg x4)) &&& (63 : Int32)) = 14 then F_l_law_1034 nL xs (F_l_law_23 nL xs n) x4 S M O else (if ((xs (Int32.toNatClampNeg x4)) &&& (63 : Int32)) = 15 then F_l_law_1048 nL xs (F_l_law_23 nL xs n) x4 S M O else (if ((xs (Int32.toNatClampNeg x4)) &&& (63 : Int32)) = 16 then F_l_law_1147 nL xs (F_l_law_23 nL xs n) x4 S M O else (if ((xs (Int32.toNatClampNeg x4)) &&& (63 : Int32)) = 17 then F_l_law_1246 nL xs (F_l_law_23 nL xs n) x4 S M O else (if ((xs (Int32.toNatClampNeg x4)) &&& (63 : Int32)) = 18 then F_l_law_1302 nL xs (F_l_law_23 nL xs n) x4 S M O else (if ((xs (Int32.toNatClampNeg x4)) &&& (63 : Int32)) = 19 then F_l_law_1387 nL xs (F_l_law_23 nL xs n) x4 S M O else (if ((xs (Int32.toNatClampNeg x4)) &&& (63 : Int32)) = 20 then F_l_law_1398 nL xs (F_l_law_23 nL xs n) x4 S M O else (if ((xs (Int32.toNatClampNeg x4)) &&& (63 : Int32)) = 21 then F_l_law_1411 nL xs (F_l_law_23 nL xs n) x4 S M O else (if ((xs (Int32.toNatClampNeg x4)) &&& (63 : Int32)) = 22 then F_l_law_1467 nL xs (F_l_law_23 nL xs n) x4 S M O else (if ((xs (Int32.toNatClampNeg x4)) &&& (63 : Int32)) = 23 then F_l_law_1535 nL xs (F_l_law_23 nL xs n) x4 S M O else (if ((xs (Int32.toNatClampNeg x4)) &&& (63 : Int32)) = 24 then F_l_law_1631 nL xs (F_l_law_23 nL xs n) x4 S M O else (if ((xs (Int32.toNatClampNeg x4)) &&& (63 : Int32)) = 25 then F_l_law_1698 nL xs (F_l_law_23 nL xs n) x4 S M O else (if ((xs (Int32.toNatClampNeg x4)) &&& (63 : Int32)) = 26 then F_l_law_1766 nL xs (F_l_law_23 nL xs n) x4 S M O else (if ((xs (Int32.toNatClampNeg x4)) &&& (63 : Int32)) = 27 then F_l_law_1822 nL xs (F_l_law_23 nL xs n) x4 S M O else (if ((xs (Int32.toNatClampNeg x4)) &&& (63 : Int32)) = 28 then F_l_law_1890 nL xs (F_l_law_23 nL xs n) x4 S M O else (if ((xs (Int32.toNatClampNeg x4)) &&& (63 : Int32)) = 29 then F_l_law_2001 nL xs (F_l_law_23 nL xs n) x4 S M O else (if ((xs (Int32.toNatClampNeg x4)) &&& (63 : Int32)) = 30 then F_l_law_2128 nL xs (F_l_law_23 nL xs n) x4 S M O else (if ((xs (Int32.toNatClampNeg x4)) &&& (63 : Int32)) = 31 then F_l_law_2195 nL xs (F_l_law_23 nL xs n) x4 S M O else (if ((xs (Int32.toNatClampNeg x4)) &&& (63 : Int32)) = 32 then F_l_law_2251 nL xs (F_l_law_23 nL xs n) x4 S M O else (if ((xs (Int32.toNatClampNeg x4)) &&& (63 : Int32)) = 33 then F_l_law_2264 nL xs (F_l_law_23 nL xs n) x4 S M O else (if ((xs (Int32.toNatClampNeg x4)) &&& (63 : Int32)) = 34 then F_l_law_2321 nL xs (F_l_law_23 nL xs n) x4 S M O else (if ((xs (Int32.toNatClampNeg x4)) &&& (63 : Int32)) = 35 then F_l_law_2377 nL xs (F_l_law_23 nL xs n) x4 S M O else (if ((xs (Int32.toNatClampNeg x4)) &&& (63 : Int32)) = 36 then F_l_law_2433 nL xs (F_l_law_23 nL xs n) x4 S M O else (if ((xs (Int32.toNatClampNeg x4)) &&& (63 : Int32)) = 37 then F_l_law_2513 nL xs (F_l_law_23 nL xs n) x4 S M O else (if ((xs (Int32.toNatClampNeg x4)) &&& (63 : Int32)) = 38 then F_l_law_2524 nL xs (F_l_law_23 nL xs n) x4 S M O else (F_l_law_2537 nL xs (F_l_law_23 nL xs n) x4 S M O))))))))))))))))))))))))))))))))))))))))
set_option maxRecDepth 100000 in
theorem X_l_law_23 {nL : Nat} {xs : Nat → Int32} {d : Nat} (hd : 98 ≤ d) : ∀ n : Nat, ∀ (x4 : Int32) (S : Sto) (M : Sto) (O : Sto) (r : Int32) (S' : Sto) (M' : Sto) (O' : Sto), F_l_law_23 nL xs n x4 S M O = some (r, S', M', O') → EX nL xs n MI_281 d 23 [some (.ref 2500), some (.ref 0), some (.ref 1000), some (.ref 2000), some (.int x4), none, none, none] [] (S, M, O) (.inl (some (.int r))) (S', M', O') := by
  intro n
  induction n with
  | zero => intro x4 S M O r S' M' O' hF; cases hF
  | succ n ih =>
  intro x4 S M O r S' M' O' hF
  unfold F_l_law_23 at hF
  refine Ex_go 6 (pc' := if ((nI nL) - (6 : Int32)) < x4 then 2543 else 33) (L' := [some (.ref 2500), some (.ref 0), some (.ref 1000), some (.ref 2000), some (.int x4), none, none, none]) (st' := []) (σ' := (S, M, O)) (rfl) ?_
  refine Ex_br (fun hc => ?_) (fun hc => ?_)
  · rw [if_pos hc] at hF
    refine Ex_go 1 (pc' := 2544) (L' := [some (.ref 2500), some (.ref 0), some (.ref 1000), some (.ref 2000), some (.int x4), none, none, none]) (st' := [.int (1 : Int32)]) (σ' := (S, M, O)) (rfl) ?_
    cases hF
    exact Ex_fin rfl
  · rw [if_neg hc] at hF
    refine Ex_go 2 (pc' := 36) (L' := [some (.ref 2500), some (.ref 0), some (.ref 1000), some (.ref 2000), some (.int x4), none, none, none]) (st' := [.int x4, .ref 2500]) (σ' := (S, M, O)) (rfl) ?_
    obtain ⟨hc1, hF⟩ := ck_i hF
    refine Ex_chk (b := ib x4 nL) (pc' := 37) (L' := [some (.ref 2500), some (.ref 0), some (.ref 1000), some (.ref 2000), some (.int x4), none, none, none]) (st' := [.int (xs (Int32.toNatClampNeg x4))]) (σ' := (S, M, O)) rfl hc1 ?_
    refine Ex_go 3 (pc' := swp ((xs (Int32.toNatClampNeg x4)) &&& (63 : Int32)) [(0, 212), (1, 285), (2, 341), (3, 354), (4, 409), (5, 476), (6, 539), (7, 640), (8, 731), (9, 756), (10, 769), (11, 857), (12, 912), (13, 967), (14, 1034), (15, 1048), (16, 1147), (17, 1246), (18, 1302), (19, 1387), (20, 1398), (21, 1411), (22, 1467), (23, 1535), (24, 1631), (25, 1698), (26, 1766), (27, 1822), (28, 1890), (29, 2001), (30, 2128), (31, 2195), (32, 2251), (33, 2264), (34, 2321), (35, 2377), (36, 2433), (37, 2513), (38, 2524)] 2537) (L' := [some (.ref 2500), some (.ref 0), some (.ref 1000), some (.ref 2000), some (.int x4), none, none, none]) (st' := []) (σ' := (S, M, O)) (rfl) ?_
    refine Ex_br (c := ((xs (Int32.toNatClampNeg x4)) &&& (63 : Int32)) = 0) (fun hc => ?_) (fun hc => ?_)
    · rw [if_pos hc] at hF
      exact Ex_mono (L := [some (.ref 2500), some (.ref 0), some (.ref 1000), some (.ref 2000), some (.int x4), none, none, none]) (Le_s (Le_s (Le_s (Le_s (Le_s (Le_n (Le_n (Le_n (Le_0))))))))) (X_l_law_212 hd ih _ _ _ _ _ _ _ _ hF) (Nat.le_refl _) (by omega)
    rw [if_neg hc] at hF
    refine Ex_br (c := ((xs (Int32.toNatClampNeg x4)) &&& (63 : Int32)) = 1) (fun hc => ?_) (fun hc => ?_)
    · rw [if_pos hc] at hF
      exact Ex_mono (L := [some (.ref 2500), some (.ref 0), some (.ref 1000), some (.ref 2000), some (.int x4), none, none, none]) (Le_s (Le_s (Le_s (Le_s (Le_s (Le_n (Le_n (Le_n (Le_0))))))))) (X_l_law_285 hd ih _ _ _ _ _ _ _ _ hF) (Nat.le_refl _) (by omega)
    rw [if_neg hc] at hF
    refine Ex_br (c := ((xs (Int32.toNatClampNeg x4)) &&& (63 : Int32)) = 2) (fun hc => ?_) (fun hc => ?_)
    · rw [if_pos hc] at hF
      exact Ex_mono (L := [some (.ref 2500), some (.ref 0), some (.ref 1000), some (.ref 2000), some (.int x4), none, none, none]) (Le_s (Le_s (Le_s (Le_s (Le_s (Le_n (Le_n (Le_n (Le_0))))))))) (X_l_law_341 hd ih _ _ _ _ _ _ _ _ hF) (Nat.le_refl _) (by omega)
    rw [if_neg hc] at hF
    refine Ex_br (c := ((xs (Int32.toNatClampNeg x4)) &&& (63 : Int32)) = 3) (fun hc => ?_) (fun hc => ?_)
    · rw [if_pos hc] at hF
      exact Ex_mono (L := [some (.ref 2500), some (.ref 0), some (.ref 1000), some (.ref 2000), some (.int x4), none, none, none]) (Le_s (Le_s (Le_s (Le_s (Le_s (Le_n (Le_n (Le_n (Le_0))))))))) (X_l_law_354 hd ih _ _ _ _ _ _ _ _ hF) (Nat.le_refl _) (by omega)
    rw [if_neg hc] at hF
    refine Ex_br (c := ((xs (Int32.toNatClampNeg x4)) &&& (63 : Int32)) = 4) (fun hc => ?_) (fun hc => ?_)
    · rw [if_pos hc] at hF
      exact Ex_mono (L := [some (.ref 2500), some (.ref 0), some (.ref 1000), some (.ref 2000), some (.int x4), none, none, none]) (Le_s (Le_s (Le_s (Le_s (Le_s (Le_n (Le_n (Le_n (Le_0))))))))) (X_l_law_409 hd ih _ _ _ _ _ _ _ _ hF) (Nat.le_refl _) (by omega)
    rw [if_neg hc] at hF
    refine Ex_br (c := ((xs (Int32.toNatClampNeg x4)) &&& (63 : Int32)) = 5) (fun hc => ?_) (fun hc => ?_)
    · rw [if_pos hc] at hF
      exact Ex_mono (L := [some (.ref 2500), some (.ref 0), some (.ref 1000), some (.ref 2000), some (.int x4), none, none, none]) (Le_s (Le_s (Le_s (Le_s (Le_s (Le_n (Le_n (Le_n (Le_0))))))))) (X_l_law_476 hd ih _ _ _ _ _ _ _ _ hF) (Nat.le_refl _) (by omega)
    rw [if_neg hc] at hF
    refine Ex_br (c := ((xs (Int32.toNatClampNeg x4)) &&& (63 : Int32)) = 6) (fun hc => ?_) (fun hc => ?_)
    · rw [if_pos hc] at hF
      exact Ex_mono (L := [some (.ref 2500), some (.ref 0), some (.ref 1000), some (.ref 2000), some (.int x4), none, none, none]) (Le_s (Le_s (Le_s (Le_s (Le_s (Le_n (Le_n (Le_n (Le_0))))))))) (X_l_law_539 hd ih _ _ _ _ _ _ _ _ hF) (Nat.le_refl _) (by omega)
    rw [if_neg hc] at hF
    refine Ex_br (c := ((xs (Int32.toNatClampNeg x4)) &&& (63 : Int32)) = 7) (fun hc => ?_) (fun hc => ?_)
    · rw [if_pos hc] at hF
      exact Ex_mono (L := [some (.ref 2500), some (.ref 0), some (.ref 1000), some (.ref 2000), some (.int x4), none, none, none]) (Le_s (Le_s (Le_s (Le_s (Le_s (Le_n (Le_n (Le_n (Le_0))))))))) (X_l_law_640 hd ih _ _ _ _ _ _ _ _ hF) (Nat.le_refl _) (by omega)
    rw [if_neg hc] at hF
    refine Ex_br (c := ((xs (Int32.toNatClampNeg x4)) &&& (63 : Int32)) = 8) (fun hc => ?_) (fun hc => ?_)
    · rw [if_pos hc] at hF
      exact Ex_mono (L := [some (.ref 2500), some (.ref 0), some (.ref 1000), some (.ref 2000), some (.int x4), none, none, none]) (Le_s (Le_s (Le_s (Le_s (Le_s (Le_n (Le_n (Le_n (Le_0))))))))) (X_l_law_731 hd ih _ _ _ _ _ _ _ _ hF) (Nat.le_refl _) (by omega)
    rw [if_neg hc] at hF
    refine Ex_br (c := ((xs (Int32.toNatClampNeg x4)) &&& (63 : Int32)) = 9) (fun hc => ?_) (fun hc => ?_)
    · rw [if_pos hc] at hF
      exact Ex_mono (L := [some (.ref 2500), some (.ref 0), some (.ref 1000), some (.ref 2000), some (.int x4), none, none, none]) (Le_s (Le_s (Le_s (Le_s (Le_s (Le_n (Le_n (Le_n (Le_0))))))))) (X_l_law_756 hd ih _ _ _ _ _ _ _ _ hF) (Nat.le_refl _) (by omega)
    rw [if_neg hc] at hF
    refine Ex_br (c := ((xs (Int32.toNatClampNeg x4)) &&& (63 : Int32)) = 10) (fun hc => ?_) (fun hc => ?_)
    · rw [if_pos hc] at hF
      exact Ex_mono (L := [some (.ref 2500), some (.ref 0), some (.ref 1000), some (.ref 2000), some (.int x4), none, none, none]) (Le_s (Le_s (Le_s (Le_s (Le_s (Le_n (Le_n (Le_n (Le_0))))))))) (X_l_law_769 hd ih _ _ _ _ _ _ _ _ hF) (Nat.le_refl _) (by omega)
    rw [if_neg hc] at hF
    refine Ex_br (c := ((xs (Int32.toNatClampNeg x4)) &&& (63 : Int32)) = 11) (fun hc => ?_) (fun hc => ?_)
    · rw [if_pos hc] at hF
      exact Ex_mono (L := [some (.ref 2500), some (.ref 0), some (.ref 1000), some (.ref 2000), some (.int x4), none, none, none]) (Le_s (Le_s (Le_s (Le_s (Le_s (Le_n (Le_n (Le_n (Le_0))))))))) (X_l_law_857 hd ih _ _ _ _ _ _ _ _ hF) (Nat.le_refl _) (by omega)
    rw [if_neg hc] at hF
    refine Ex_br (c := ((xs (Int32.toNatClampNeg x4)) &&& (63 : Int32)) = 12) (fun hc => ?_) (fun hc => ?_)
    · rw [if_pos hc] at hF
      exact Ex_mono (L := [some (.ref 2500), some (.ref 0), some (.ref 1000), some (.ref 2000), some (.int x4), none, none, none]) (Le_s (Le_s (Le_s (Le_s (Le_s (Le_n (Le_n (Le_n (Le_0))))))))) (X_l_law_912 hd ih _ _ _ _ _ _ _ _ hF) (Nat.le_refl _) (by omega)
    rw [if_neg hc] at hF
    refine Ex_br (c := ((xs (Int32.toNatClampNeg x4)) &&& (63 : Int32)) = 13) (fun hc => ?_) (fun hc => ?_)
    · rw [if_pos hc] at hF
      exact Ex_mono (L := [some (.ref 2500), some (.ref 0), some (.ref 1000), some (.ref 2000), some (.int x4), none, none, none]) (Le_s (Le_s (Le_s (Le_s (Le_s (Le_n (Le_n (Le_n (Le_0))))))))) (X_l_law_967 hd ih _ _ _ _ _ _ _ _ hF) (Nat.le_refl _) (by omega)
    rw [if_neg hc] at hF
    refine Ex_br (c := ((xs (Int32.toNatClampNeg x4)) &&& (63 : Int32)) = 14) (fun hc => ?_) (fun hc => ?_)
    · rw [if_pos hc] at hF
      exact Ex_mono (L := [some (.ref 2500), some (.ref 0), some (.ref 1000), some (.ref 2000), some (.int x4), none, none, none]) (Le_s (Le_s (Le_s (Le_s (Le_s (Le_n (Le_n (Le_n (Le_0))))))))) (X_l_law_1034 hd ih _ _ _ _ _ _ _ _ hF) (Nat.le_refl _) (by omega)
    rw [if_neg hc] at hF
    refine Ex_br (c := ((xs (Int32.toNatClampNeg x4)) &&& (63 : Int32)) = 15) (fun hc => ?_) (fun hc => ?_)
    · rw [if_pos hc] at hF
      exact Ex_mono (L := [some (.ref 2500), some (.ref 0), some (.ref 1000), some (.ref 2000), some (.int x4), none, none, none]) (Le_s (Le_s (Le_s (Le_s (Le_s (Le_n (Le_n (Le_n (Le_0))))))))) (X_l_law_1048 hd ih _ _ _ _ _ _ _ _ hF) (Nat.le_refl _) (by omega)
    rw [if_neg hc] at hF
    refine Ex_br (c := ((xs (Int32.toNatClampNeg x4)) &&& (63 : Int32)) = 16) (fun hc => ?_) (fun hc => ?_)
    · rw [if_pos hc] at hF
      exact Ex_mono (L := [some (.ref 2500), some (.ref 0), some (.ref 1000), some (.ref 2000), some (.int x4), none, none, none]) (Le_s (Le_s (Le_s (Le_s (Le_s (Le_n (Le_n (Le_n (Le_0))))))))) (X_l_law_1147 hd ih _ _ _ _ _ _ _ _ hF) (Nat.le_refl _) (by omega)
    rw [if_neg hc] at hF
    refine Ex_br (c := ((xs (Int32.toNatClampNeg x4)) &&& (63 : Int32)) = 17) (fun hc => ?_) (fun hc => ?_)
    · rw [if_pos hc] at hF
      exact Ex_mono (L := [some (.ref 2500), some (.ref 0), some (.ref 1000), some (.ref 2000), some (.int x4), none, none, none]) (Le_s (Le_s (Le_s (Le_s (Le_s (Le_n (Le_n (Le_n (Le_0))))))))) (X_l_law_1246 hd ih _ _ _ _ _ _ _ _ hF) (Nat.le_refl _) (by omega)
    rw [if_neg hc] at hF
    refine Ex_br (c := ((xs (Int32.toNatClampNeg x4)) &&& (63 : Int32)) = 18) (fun hc => ?_) (fun hc => ?_)
    · rw [if_pos hc] at hF
      exact Ex_mono (L := [some (.ref 2500), some (.ref 0), some (.ref 1000), some (.ref 2000), some (.int x4), none, none, none]) (Le_s (Le_s (Le_s (Le_s (Le_s (Le_n (Le_n (Le_n (Le_0))))))))) (X_l_law_1302 hd ih _ _ _ _ _ _ _ _ hF) (Nat.le_refl _) (by omega)
    rw [if_neg hc] at hF
    refine Ex_br (c := ((xs (Int32.toNatClampNeg x4)) &&& (63 : Int32)) = 19) (fun hc => ?_) (fun hc => ?_)
    · rw [if_pos hc] at hF
      exact Ex_mono (L := [some (.ref 2500), some (.ref 0), some (.ref 1000), some (.ref 2000), some (.int x4), none, none, none]) (Le_s (Le_s (Le_s (Le_s (Le_s (Le_n (Le_n (Le_n (Le_0))))))))) (X_l_law_1387 hd ih _ _ _ _ _ _ _ _ hF) (Nat.le_refl _) (by omega)
    rw [if_neg hc] at hF
    refine Ex_br (c := ((xs (Int32.toNatClampNeg x4)) &&& (63 : Int32)) = 20) (fun hc => ?_) (fun hc => ?_)
    · rw [if_pos hc] at hF
      exact Ex_mono (L := [some (.ref 2500), some (.ref 0), some (.ref 1000), some (.ref 2000), some (.int x4), none, none, none]) (Le_s (Le_s (Le_s (Le_s (Le_s (Le_n (Le_n (Le_n (Le_0))))))))) (X_l_law_1398 hd ih _ _ _ _ _ _ _ _ hF) (Nat.le_refl _) (by omega)
    rw [if_neg hc] at hF
    refine Ex_br (c := ((xs (Int32.toNatClampNeg x4)) &&& (63 : Int32)) = 21) (fun hc => ?_) (fun hc => ?_)
    · rw [if_pos hc] at hF
      exact Ex_mono (L := [some (.ref 2500), some (.ref 0), some (.ref 1000), some (.ref 2000), some (.int x4), none, none, none]) (Le_s (Le_s (Le_s (Le_s (Le_s (Le_n (Le_n (Le_n (Le_0))))))))) (X_l_law_1411 hd ih _ _ _ _ _ _ _ _ hF) (Nat.le_refl _) (by omega)
    rw [if_neg hc] at hF
    refine Ex_br (c := ((xs (Int32.toNatClampNeg x4)) &&& (63 : Int32)) = 22) (fun hc => ?_) (fun hc => ?_)
    · rw [if_pos hc] at hF
      exact Ex_mono (L := [some (.ref 2500), some (.ref 0), some (.ref 1000), some (.ref 2000), some (.int x4), none, none, none]) (Le_s (Le_s (Le_s (Le_s (Le_s (Le_n (Le_n (Le_n (Le_0))))))))) (X_l_law_1467 hd ih _ _ _ _ _ _ _ _ hF) (Nat.le_refl _) (by omega)
    rw [if_neg hc] at hF
    refine Ex_br (c := ((xs (Int32.toNatClampNeg x4)) &&& (63 : Int32)) = 23) (fun hc => ?_) (fun hc => ?_)
    · rw [if_pos hc] at hF
      exact Ex_mono (L := [some (.ref 2500), some (.ref 0), some (.ref 1000), some (.ref 2000), some (.int x4), none, none, none]) (Le_s (Le_s (Le_s (Le_s (Le_s (Le_n (Le_n (Le_n (Le_0))))))))) (X_l_law_1535 hd ih _ _ _ _ _ _ _ _ hF) (Nat.le_refl _) (by omega)
    rw [if_neg hc] at hF
    refine Ex_br (c := ((xs (Int32.toNatClampNeg x4)) &&& (63 : Int32)) = 24) (fun hc => ?_) (fun hc => ?_)
    · rw [if_pos hc] at hF
      exact Ex_mono (L := [some (.ref 2500), some (.ref 0), some (.ref 1000), some (.ref 2000), some (.int x4), none, none, none]) (Le_s (Le_s (Le_s (Le_s (Le_s (Le_n (Le_n (Le_n (Le_0))))))))) (X_l_law_1631 hd ih _ _ _ _ _ _ _ _ hF) (Nat.le_refl _) (by omega)
    rw [if_neg hc] at hF
    refine Ex_br (c := ((xs (Int32.toNatClampNeg x4)) &&& (63 : Int32)) = 25) (fun hc => ?_) (fun hc => ?_)
    · rw [if_pos hc] at hF
      exact Ex_mono (L := [some (.ref 2500), some (.ref 0), some (.ref 1000), some (.ref 2000), some (.int x4), none, none, none]) (Le_s (Le_s (Le_s (Le_s (Le_s (Le_n (Le_n (Le_n (Le_0))))))))) (X_l_law_1698 hd ih _ _ _ _ _ _ _ _ hF) (Nat.le_refl _) (by omega)
    rw [if_neg hc] at hF
    refine Ex_br (c := ((xs (Int32.toNatClampNeg x4)) &&& (63 : Int32)) = 26) (fun hc => ?_) (fun hc => ?_)
    · rw [if_pos hc] at hF
      exact Ex_mono (L := [some (.ref 2500), some (.ref 0), some (.ref 1000), some (.ref 2000), some (.int x4), none, none, none]) (Le_s (Le_s (Le_s (Le_s (Le_s (Le_n (Le_n (Le_n (Le_0))))))))) (X_l_law_1766 hd ih _ _ _ _ _ _ _ _ hF) (Nat.le_refl _) (by omega)
    rw [if_neg hc] at hF
    refine Ex_br (c := ((xs (Int32.toNatClampNeg x4)) &&& (63 : Int32)) = 27) (fun hc => ?_) (fun hc => ?_)
    · rw [if_pos hc] at hF
      exact Ex_mono (L := [some (.ref 2500), some (.ref 0), some (.ref 1000), some (.ref 2000), some (.int x4), none, none, none]) (Le_s (Le_s (Le_s (Le_s (Le_s (Le_n (Le_n (Le_n (Le_0))))))))) (X_l_law_1822 hd ih _ _ _ _ _ _ _ _ hF) (Nat.le_refl _) (by omega)
    rw [if_neg hc] at hF
    refine Ex_br (c := ((xs (Int32.toNatClampNeg x4)) &&& (63 : Int32)) = 28) (fun hc => ?_) (fun hc => ?_)
    · rw [if_pos hc] at hF
      exact Ex_mono (L := [some (.ref 2500), some (.ref 0), some (.ref 1000), some (.ref 2000), some (.int x4), none, none, none]) (Le_s (Le_s (Le_s (Le_s (Le_s (Le_n (Le_n (Le_n (Le_0))))))))) (X_l_law_1890 hd ih _ _ _ _ _ _ _ _ hF) (Nat.le_refl _) (by omega)
    rw [if_neg hc] at hF
    refine Ex_br (c := ((xs (Int32.toNatClampNeg x4)) &&& (63 : Int32)) = 29) (fun hc => ?_) (fun hc => ?_)
    · rw [if_pos hc] at hF
      exact Ex_mono (L := [some (.ref 2500), some (.ref 0), some (.ref 1000), some (.ref 2000), some (.int x4), none, none, none]) (Le_s (Le_s (Le_s (Le_s (Le_s (Le_n (Le_n (Le_n (Le_0))))))))) (X_l_law_2001 hd ih _ _ _ _ _ _ _ _ hF) (Nat.le_refl _) (by omega)
    rw [if_neg hc] at hF
    refine Ex_br (c := ((xs (Int32.toNatClampNeg x4)) &&& (63 : Int32)) = 30) (fun hc => ?_) (fun hc => ?_)
    · rw [if_pos hc] at hF
      exact Ex_mono (L := [some (.ref 2500), some (.ref 0), some (.ref 1000), some (.ref 2000), some (.int x4), none, none, none]) (Le_s (Le_s (Le_s (Le_s (Le_s (Le_n (Le_n (Le_n (Le_0))))))))) (X_l_law_2128 hd ih _ _ _ _ _ _ _ _ hF) (Nat.le_refl _) (by omega)
    rw [if_neg hc] at hF
    refine Ex_br (c := ((xs (Int32.toNatClampNeg x4)) &&& (63 : Int32)) = 31) (fun hc => ?_) (fun hc => ?_)
    · rw [if_pos hc] at hF
      exact Ex_mono (L := [some (.ref 2500), some (.ref 0), some (.ref 1000), some (.ref 2000), some (.int x4), none, none, none]) (Le_s (Le_s (Le_s (Le_s (Le_s (Le_n (Le_n (Le_n (Le_0))))))))) (X_l_law_2195 hd ih _ _ _ _ _ _ _ _ hF) (Nat.le_refl _) (by omega)
    rw [if_neg hc] at hF
    refine Ex_br (c := ((xs (Int32.toNatClampNeg x4)) &&& (63 : Int32)) = 32) (fun hc => ?_) (fun hc => ?_)
    · rw [if_pos hc] at hF
      exact Ex_mono (L := [some (.ref 2500), some (.ref 0), some (.ref 1000), some (.ref 2000), some (.int x4), none, none, none]) (Le_s (Le_s (Le_s (Le_s (Le_s (Le_n (Le_n (Le_n (Le_0))))))))) (X_l_law_2251 hd ih _ _ _ _ _ _ _ _ hF) (Nat.le_refl _) (by omega)
    rw [if_neg hc] at hF
    refine Ex_br (c := ((xs (Int32.toNatClampNeg x4)) &&& (63 : Int32)) = 33) (fun hc => ?_) (fun hc => ?_)
    · rw [if_pos hc] at hF
      exact Ex_mono (L := [some (.ref 2500), some (.ref 0), some (.ref 1000), some (.ref 2000), some (.int x4), none, none, none]) (Le_s (Le_s (Le_s (Le_s (Le_s (Le_n (Le_n (Le_n (Le_0))))))))) (X_l_law_2264 hd ih _ _ _ _ _ _ _ _ hF) (Nat.le_refl _) (by omega)
    rw [if_neg hc] at hF
    refine Ex_br (c := ((xs (Int32.toNatClampNeg x4)) &&& (63 : Int32)) = 34) (fun hc => ?_) (fun hc => ?_)
    · rw [if_pos hc] at hF
      exact Ex_mono (L := [some (.ref 2500), some (.ref 0), some (.ref 1000), some (.ref 2000), some (.int x4), none, none, none]) (Le_s (Le_s (Le_s (Le_s (Le_s (Le_n (Le_n (Le_n (Le_0))))))))) (X_l_law_2321 hd ih _ _ _ _ _ _ _ _ hF) (Nat.le_refl _) (by omega)
    rw [if_neg hc] at hF
    refine Ex_br (c := ((xs (Int32.toNatClampNeg x4)) &&& (63 : Int32)) = 35) (fun hc => ?_) (fun hc => ?_)
    · rw [if_pos hc] at hF
      exact Ex_mono (L := [some (.ref 2500), some (.ref 0), some (.ref 1000), some (.ref 2000), some (.int x4), none, none, none]) (Le_s (Le_s (Le_s (Le_s (Le_s (Le_n (Le_n (Le_n (Le_0))))))))) (X_l_law_2377 hd ih _ _ _ _ _ _ _ _ hF) (Nat.le_refl _) (by omega)
    rw [if_neg hc] at hF
    refine Ex_br (c := ((xs (Int32.toNatClampNeg x4)) &&& (63 : Int32)) = 36) (fun hc => ?_) (fun hc => ?_)
    · rw [if_pos hc] at hF
      exact Ex_mono (L := [some (.ref 2500), some (.ref 0), some (.ref 1000), some (.ref 2000), some (.int x4), none, none, none]) (Le_s (Le_s (Le_s (Le_s (Le_s (Le_n (Le_n (Le_n (Le_0))))))))) (X_l_law_2433 hd ih _ _ _ _ _ _ _ _ hF) (Nat.le_refl _) (by omega)
    rw [if_neg hc] at hF
    refine Ex_br (c := ((xs (Int32.toNatClampNeg x4)) &&& (63 : Int32)) = 37) (fun hc => ?_) (fun hc => ?_)
    · rw [if_pos hc] at hF
      exact Ex_mono (L := [some (.ref 2500), some (.ref 0), some (.ref 1000), some (.ref 2000), some (.int x4), none, none, none]) (Le_s (Le_s (Le_s (Le_s (Le_s (Le_n (Le_n (Le_n (Le_0))))))))) (X_l_law_2513 hd ih _ _ _ _ _ _ _ _ hF) (Nat.le_refl _) (by omega)
    rw [if_neg hc] at hF
    refine Ex_br (c := ((xs (Int32.toNatClampNeg x4)) &&& (63 : Int32)) = 38) (fun hc => ?_) (fun hc => ?_)
    · rw [if_pos hc] at hF
      exact Ex_mono (L := [some (.ref 2500), some (.ref 0), some (.ref 1000), some (.ref 2000), some (.int x4), none, none, none]) (Le_s (Le_s (Le_s (Le_s (Le_s (Le_n (Le_n (Le_n (Le_0))))))))) (X_l_law_2524 hd ih _ _ _ _ _ _ _ _ hF) (Nat.le_refl _) (by omega)
    rw [if_neg hc] at hF
    exact Ex_mono (L := [some (.ref 2500), some (.ref 0), some (.ref 1000), some (.ref 2000), some (.int x4), none, none, none]) (Le_s (Le_s (Le_s (Le_s (Le_s (Le_n (Le_n (Le_n (Le_0))))))))) (X_l_law_2537 hd ih _ _ _ _ _ _ _ _ hF) (Nat.le_refl _) (by omega)
