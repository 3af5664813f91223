/-! ===== what the methods do, as functions, and that the small machine does it (printed by wip/whole/gen4.py) ===== -/
def F_Sc_begin (x1 : Int64) (S : Sto) : Option (Unit × Sto) := some ((), (si (si (si (si (sl (si (sl (sl S 26 (1 : Int64)) 27 (1000 : Int64)) 28 (0 : Int32)) 29 x1) 30 (0 : Int32)) 31 (0 : Int32)) 32 (0 : Int32)) 33 (0 : Int32)))
set_option maxRecDepth 100000 in
theorem X_Sc_begin {nL : Nat} {xs : Nat → Int32} {M : Sto} {O : Sto} {d : Nat} (hd : 1 ≤ d) : ∀ (x1 : Int64) (S : Sto) (r : Unit) (S' : Sto), F_Sc_begin x1 S = some (r, S') → EX nL xs 0 MI_47 d 0 [some (.ref 27), some (.long x1), none] [] (S, M, O) (.inl none) (S', M, O) := by
  intro x1 S r S' hF
  unfold F_Sc_begin at hF
  refine Ex_go 10 (pc' := 18) (L' := [some (.ref 27), some (.long x1), none]) (st' := [.ref 27]) (σ' := ((si (sl (sl S 26 (1 : Int64)) 27 (1000 : Int64)) 28 (0 : Int32)), M, O)) (rfl) ?_
  refine Ex_go 10 (pc' := 34) (L' := [some (.ref 27), some (.long x1), none]) (st' := [.int (0 : Int32), .ref 27]) (σ' := ((si (si (sl (si (sl (sl S 26 (1 : Int64)) 27 (1000 : Int64)) 28 (0 : Int32)) 29 x1) 30 (0 : Int32)) 31 (0 : Int32)), M, O)) (rfl) ?_
  refine Ex_go 4 (pc' := 42) (L' := [some (.ref 27), some (.long x1), none]) (st' := []) (σ' := ((si (si (si (si (sl (si (sl (sl S 26 (1 : Int64)) 27 (1000 : Int64)) 28 (0 : Int32)) 29 x1) 30 (0 : Int32)) 31 (0 : Int32)) 32 (0 : Int32)) 33 (0 : Int32)), M, O)) (rfl) ?_
  cases hF
  exact Ex_fin rfl
def F_w_sea_15 (S : Sto) : Option ((Int32 ⊕ Nat) × Sto) := some ((.inr 0), S)
set_option maxRecDepth 100000 in
theorem X_w_sea_15 {nL : Nat} {xs : Nat → Int32} {M : Sto} {O : Sto} {d : Nat} (hd : 96 ≤ d) : ∀ (S : Sto) (r : Int32 ⊕ Nat) (S' : Sto), F_w_sea_15 S = some (r, S') → EX nL xs 1 MI_48 d 15 [none, none, none] [] (S, M, O) (rsI r) (S', M, O) := by
  intro S r S' hF
  unfold F_w_sea_15 at hF
  cases hF
  exact Ex_thr rfl (by omega) (Nat.le_refl _)
def F_w_sea (x1 : Int32) (S : Sto) : Option ((Int32 ⊕ Nat) × Sto) := if x1 < 0 then F_w_sea_15 S else if x1 ≤ (gi S 7) then b2 (F_Rd_read x1 S) (fun r1 S3 => if r1 = 0 then b2 (F_Se_copy S3) (fun r4 S6 => b2 (F_Sh_tie S6) (fun r7 S9 => b2 (F_Sc_begin (gl S9 24) S9) (fun r10 S12 => some ((.inl (0 : Int32)), (si S12 50 (0 : Int32)))))) else b2 (F_Sc_refuse (0 : Int32) S3) (fun r13 S15 => some ((.inl r1), S15))) else F_w_sea_15 S
set_option maxRecDepth 100000 in
theorem X_w_sea {nL : Nat} {xs : Nat → Int32} {M : Sto} {O : Sto} {d : Nat} (hd : 96 ≤ d) : ∀ (x1 : Int32) (S : Sto) (r : Int32 ⊕ Nat) (S' : Sto), F_w_sea x1 S = some (r, S') → EX nL xs 1 MI_48 d 0 [some (.ref 0), some (.int x1), none] [] (S, M, O) (rsI r) (S', M, O) := by
  intro x1 S r S' hF
  unfold F_w_sea at hF
  refine Ex_go 2 (pc' := if x1 < 0 then 15 else 4) (L' := [some (.ref 0), some (.int x1), none]) (st' := []) (σ' := (S, M, O)) (rfl) ?_
  refine Ex_br (fun hc => ?_) (fun hc => ?_)
  · rw [if_pos hc] at hF
    exact Ex_mono (L := [none, none, none]) (Le_n (Le_n (Le_n (Le_0)))) (X_w_sea_15 hd _ _ _ hF) (Nat.le_refl _) (by omega)
  · rw [if_neg hc] at hF
    refine Ex_go 5 (pc' := if x1 ≤ (gi S 7) then 23 else 15) (L' := [some (.ref 0), some (.int x1), none]) (st' := []) (σ' := (S, M, O)) (rfl) ?_
    refine Ex_br (fun hc => ?_) (fun hc => ?_)
    · rw [if_pos hc] at hF
      refine Ex_go 3 (pc' := 28) (L' := [some (.ref 0), some (.int x1), none]) (st' := [.int x1, .ref 1]) (σ' := (S, M, O)) (rfl) ?_
      obtain ⟨r1, S3, hx2, hF⟩ := b2_i hF
      refine Ex_callK (K1 := 0) (K2 := 1) (kind := 2) (y := 36) (as := [.ref 1, .int x1]) (rest := []) (L0 := [some (.ref 1), some (.int x1), none, none]) (d' := 95) (v := some (.int r1)) (σ1 := (S3, M, O)) rfl rfl mt_36 rfl rfl (by omega) (X_Rd_read (Nat.le_refl _) _ _ _ _ hx2) (Ex_st (st2 := [.int r1]) rfl ?_) (by omega)
      refine Ex_go 3 (pc' := if r1 = 0 then 46 else 36) (L' := [some (.ref 0), some (.int x1), some (.int r1)]) (st' := []) (σ' := (S3, M, O)) (rfl) ?_
      refine Ex_br (fun hc => ?_) (fun hc => ?_)
      · rw [if_pos hc] at hF
        refine Ex_go 5 (pc' := 57) (L' := [some (.ref 0), some (.int x1), some (.int r1)]) (st' := [.ref 3, .ref 12]) (σ' := (S3, M, O)) (rfl) ?_
        obtain ⟨r4, S6, hx5, hF⟩ := b2_i hF
        refine Ex_callK (K1 := 0) (K2 := 1) (kind := 2) (y := 39) (as := [.ref 12, .ref 3]) (rest := []) (L0 := [some (.ref 12), some (.ref 3), none]) (d' := 2) (v := none) (σ1 := (S6, M, O)) rfl rfl mt_39 rfl rfl (by omega) (X_Se_copy (Nat.le_refl _) _ _ _ hx5) (Ex_st (st2 := []) rfl ?_) (by omega)
        refine Ex_go 4 (pc' := 68) (L' := [some (.ref 0), some (.int x1), some (.int r1)]) (st' := [.ref 12, .ref 21]) (σ' := (S6, M, O)) (rfl) ?_
        obtain ⟨r7, S9, hx8, hF⟩ := b2_i hF
        refine Ex_callK (K1 := 0) (K2 := 1) (kind := 2) (y := 46) (as := [.ref 21, .ref 12]) (rest := []) (L0 := [some (.ref 21), some (.ref 12), none, none, none]) (d' := 6) (v := none) (σ1 := (S9, M, O)) rfl rfl mt_46 rfl rfl (by omega) (X_Sh_tie (Nat.le_refl _) _ _ _ hx8) (Ex_st (st2 := []) rfl ?_) (by omega)
        refine Ex_go 5 (pc' := 82) (L' := [some (.ref 0), some (.int x1), some (.int r1)]) (st' := [.long (gl S9 24), .ref 27]) (σ' := (S9, M, O)) (rfl) ?_
        obtain ⟨r10, S12, hx11, hF⟩ := b2_i hF
        refine Ex_callK (K1 := 0) (K2 := 1) (kind := 2) (y := 47) (as := [.ref 27, .long (gl S9 24)]) (rest := []) (L0 := [some (.ref 27), some (.long (gl S9 24)), none]) (d' := 1) (v := none) (σ1 := (S12, M, O)) rfl rfl mt_47 rfl rfl (by omega) (X_Sc_begin (Nat.le_refl _) _ _ _ _ hx11) (Ex_st (st2 := []) rfl ?_) (by omega)
        refine Ex_go 2 (pc' := 87) (L' := [some (.ref 0), some (.int x1), some (.int r1)]) (st' := [.int (0 : Int32), .ref 0]) (σ' := (S12, M, O)) (rfl) ?_
        refine Ex_chk (b := b01 (0 : Int32)) (pc' := 90) (L' := [some (.ref 0), some (.int x1), some (.int r1)]) (st' := []) (σ' := ((si S12 50 (0 : Int32)), M, O)) rfl (by decide) ?_
        refine Ex_go 1 (pc' := 91) (L' := [some (.ref 0), some (.int x1), some (.int r1)]) (st' := [.int (0 : Int32)]) (σ' := ((si S12 50 (0 : Int32)), M, O)) (rfl) ?_
        cases hF
        exact Ex_fin rfl
      · rw [if_neg hc] at hF
        refine Ex_go 3 (pc' := 41) (L' := [some (.ref 0), some (.int x1), some (.int r1)]) (st' := [.int (0 : Int32), .ref 27]) (σ' := (S3, M, O)) (rfl) ?_
        obtain ⟨r13, S15, hx14, hF⟩ := b2_i hF
        refine Ex_callK (K1 := 0) (K2 := 1) (kind := 2) (y := 37) (as := [.ref 27, .int (0 : Int32)]) (rest := []) (L0 := [some (.ref 27), some (.int (0 : Int32))]) (d' := 1) (v := none) (σ1 := (S15, M, O)) rfl rfl mt_37 rfl rfl (by omega) (X_Sc_refuse (Nat.le_refl _) _ _ _ _ hx14) (Ex_st (st2 := []) rfl ?_) (by omega)
        refine Ex_go 1 (pc' := 45) (L' := [some (.ref 0), some (.int x1), some (.int r1)]) (st' := [.int r1]) (σ' := (S15, M, O)) (rfl) ?_
        cases hF
        exact Ex_fin rfl
    · rw [if_neg hc] at hF
      exact Ex_mono (L := [none, none, none]) (Le_n (Le_n (Le_n (Le_0)))) (X_w_sea_15 hd _ _ _ hF) (Nat.le_refl _) (by omega)
def F_l_sea (x1 : Int32) (S : Sto) (O : Sto) : Option (Int32 × Sto × Sto) := b2 (F_w_sea x1 S) (fun r1 S3 => su r1 (fun v4 => some ((0 : Int32), S3, (ul O 2000 (vp_updL (al O 2000) (Int32.toNatClampNeg (0 : Int32)) (Int32.toInt64 v4))))) (fun z5 => if z5 = 0 then some ((1 : Int32), S3, O) else (none)))
set_option maxRecDepth 100000 in
theorem X_l_sea {nL : Nat} {xs : Nat → Int32} {M : Sto} {d : Nat} (hd : 97 ≤ d) : ∀ (x1 : Int32) (S : Sto) (O : Sto) (r : Int32) (S' : Sto) (O' : Sto), F_l_sea x1 S O = some (r, S', O') → EX nL xs 1 MI_49 d 0 [some (.ref 0), some (.int x1), some (.ref 2000), none] [] (S, M, O) (.inl (some (.int r))) (S', M, O') := by
  intro x1 S O r S' O' hF
  unfold F_l_sea at hF
  refine Ex_go 4 (pc' := 4) (L' := [some (.ref 0), some (.int x1), some (.ref 2000), none]) (st' := [.int x1, .ref 0, .int (0 : Int32), .ref 2000]) (σ' := (S, M, O)) (rfl) ?_
  obtain ⟨r1, S3, hx2, hF⟩ := b2_i hF
  cases r1 with
  | inl v4 =>
    rw [su_l] at hF
    refine Ex_callK (K1 := 1) (K2 := 0) (kind := 3) (y := 48) (as := [.ref 0, .int x1]) (rest := [.int (0 : Int32), .ref 2000]) (L0 := [some (.ref 0), some (.int x1), none]) (d' := 96) (v := some (.int v4)) (σ1 := (S3, M, O)) rfl rfl mt_48 rfl rfl (by omega) (X_w_sea (Nat.le_refl _) _ _ _ _ hx2) (Ex_st (st2 := [.int v4, .int (0 : Int32), .ref 2000]) rfl ?_) (by omega)
    refine Ex_go 1 (pc' := 8) (L' := [some (.ref 0), some (.int x1), some (.ref 2000), none]) (st' := [.long (Int32.toInt64 v4), .int (0 : Int32), .ref 2000]) (σ' := (S3, M, O)) (rfl) ?_
    refine Ex_chk (b := ib (0 : Int32) 1) (pc' := 9) (L' := [some (.ref 0), some (.int x1), some (.ref 2000), none]) (st' := []) (σ' := (S3, M, (ul O 2000 (vp_updL (al O 2000) (Int32.toNatClampNeg (0 : Int32)) (Int32.toInt64 v4))))) rfl (by decide) ?_
    refine Ex_go 2 (pc' := 16) (L' := [some (.ref 0), some (.int x1), some (.ref 2000), none]) (st' := [.int (0 : Int32)]) (σ' := (S3, M, (ul O 2000 (vp_updL (al O 2000) (Int32.toNatClampNeg (0 : Int32)) (Int32.toInt64 v4))))) (rfl) ?_
    cases hF
    exact Ex_fin rfl
  | inr z5 =>
    by_cases hz0 : z5 = 0
    · have hF : (if z5 = 0 then _ else _) = _ := hF
      rw [if_pos hz0] at hF
      subst hz0
      refine Ex_callX (K1 := 1) (K2 := 0) (y := 48) (as := [.ref 0, .int x1]) (rest := [.int (0 : Int32), .ref 2000]) (L0 := [some (.ref 0), some (.int x1), none]) (d' := 96) (σ1 := (S3, M, O)) (x := 0) (pc' := 13) (i := 3) rfl rfl mt_48 rfl rfl (by omega) (X_w_sea (Nat.le_refl _) _ _ _ _ hx2) rfl (Ex_L (L2 := [some (.ref 0), some (.int x1), some (.ref 2000), none]) rfl ?_) (by omega)
      refine Ex_go 1 (pc' := 14) (L' := [some (.ref 0), some (.int x1), some (.ref 2000), none]) (st' := [.int (1 : Int32)]) (σ' := (S3, M, O)) (rfl) ?_
      cases hF
      exact Ex_fin rfl
    have hF : (if z5 = 0 then _ else _) = _ := hF
    rw [if_neg hz0] at hF
    cases hF
def F_m_byteAt (x1 : Int32) (M : Sto) : Option Int32 := if (gi M 1005) ≤ x1 then some (-1 : Int32) else ck (ib x1 500) (some (ai M 1011 (Int32.toNatClampNeg x1)))
set_option maxRecDepth 100000 in
theorem X_m_byteAt {nL : Nat} {xs : Nat → Int32} {S : Sto} {O : Sto} {d : Nat} (hd : 1 ≤ d) : ∀ (x1 : Int32) (M : Sto) (r : Int32), F_m_byteAt x1 M = some r → EX nL xs 0 MI_51 d 0 [some (.ref 1000), some (.int x1)] [] (S, M, O) (.inl (some (.int r))) (S, M, O) := by
  intro x1 M r hF
  unfold F_m_byteAt at hF
  refine Ex_go 4 (pc' := if (gi M 1005) ≤ x1 then 17 else 8) (L' := [some (.ref 1000), some (.int x1)]) (st' := []) (σ' := (S, M, O)) (rfl) ?_
  refine Ex_br (fun hc => ?_) (fun hc => ?_)
  · rw [if_pos hc] at hF
    refine Ex_go 1 (pc' := 18) (L' := [some (.ref 1000), some (.int x1)]) (st' := [.int (-1 : Int32)]) (σ' := (S, M, O)) (rfl) ?_
    cases hF
    exact Ex_fin rfl
  · rw [if_neg hc] at hF
    refine Ex_go 3 (pc' := 13) (L' := [some (.ref 1000), some (.int x1)]) (st' := [.int x1, .ref 1011]) (σ' := (S, M, O)) (rfl) ?_
    obtain ⟨hc1, hF⟩ := ck_i hF
    refine Ex_chk (b := ib x1 500) (pc' := 14) (L' := [some (.ref 1000), some (.int x1)]) (st' := [.int (ai M 1011 (Int32.toNatClampNeg x1))]) (σ' := (S, M, O)) rfl hc1 ?_
    refine Ex_go 1 (pc' := 18) (L' := [some (.ref 1000), some (.int x1)]) (st' := [.int (ai M 1011 (Int32.toNatClampNeg x1))]) (σ' := (S, M, O)) (rfl) ?_
    cases hF
    exact Ex_fin rfl
def F_m_isLetter (x0 : Int32) : Option Int32 := if x0 < (97 : Int32) then some (0 : Int32) else if (122 : Int32) < x0 then some (0 : Int32) else some (1 : Int32)
set_option maxRecDepth 100000 in
theorem X_m_isLetter {nL : Nat} {xs : Nat → Int32} {S : Sto} {M : Sto} {O : Sto} {d : Nat} (hd : 1 ≤ d) : ∀ (x0 : Int32) (r : Int32), F_m_isLetter x0 = some r → EX nL xs 0 MI_52 d 0 [some (.int x0)] [] (S, M, O) (.inl (some (.int r))) (S, M, O) := by
  intro x0 r hF
  unfold F_m_isLetter at hF
  refine Ex_go 3 (pc' := if x0 < (97 : Int32) then 16 else 6) (L' := [some (.int x0)]) (st' := []) (σ' := (S, M, O)) (rfl) ?_
  refine Ex_br (fun hc => ?_) (fun hc => ?_)
  · rw [if_pos hc] at hF
    refine Ex_go 1 (pc' := 17) (L' := [some (.int x0)]) (st' := [.int (0 : Int32)]) (σ' := (S, M, O)) (rfl) ?_
    cases hF
    exact Ex_fin rfl
  · rw [if_neg hc] at hF
    refine Ex_go 3 (pc' := if (122 : Int32) < x0 then 16 else 12) (L' := [some (.int x0)]) (st' := []) (σ' := (S, M, O)) (rfl) ?_
    refine Ex_br (fun hc => ?_) (fun hc => ?_)
    · rw [if_pos hc] at hF
      refine Ex_go 1 (pc' := 17) (L' := [some (.int x0)]) (st' := [.int (0 : Int32)]) (σ' := (S, M, O)) (rfl) ?_
      cases hF
      exact Ex_fin rfl
    · rw [if_neg hc] at hF
      refine Ex_go 2 (pc' := 17) (L' := [some (.int x0)]) (st' := [.int (1 : Int32)]) (σ' := (S, M, O)) (rfl) ?_
      cases hF
      exact Ex_fin rfl
def F_m_isDigit (x0 : Int32) : Option Int32 := if x0 < (48 : Int32) then some (0 : Int32) else if (57 : Int32) < x0 then some (0 : Int32) else some (1 : Int32)
set_option maxRecDepth 100000 in
theorem X_m_isDigit {nL : Nat} {xs : Nat → Int32} {S : Sto} {M : Sto} {O : Sto} {d : Nat} (hd : 1 ≤ d) : ∀ (x0 : Int32) (r : Int32), F_m_isDigit x0 = some r → EX nL xs 0 MI_53 d 0 [some (.int x0)] [] (S, M, O) (.inl (some (.int r))) (S, M, O) := by
  intro x0 r hF
  unfold F_m_isDigit at hF
  refine Ex_go 3 (pc' := if x0 < (48 : Int32) then 16 else 6) (L' := [some (.int x0)]) (st' := []) (σ' := (S, M, O)) (rfl) ?_
  refine Ex_br (fun hc => ?_) (fun hc => ?_)
  · rw [if_pos hc] at hF
    refine Ex_go 1 (pc' := 17) (L' := [some (.int x0)]) (st' := [.int (0 : Int32)]) (σ' := (S, M, O)) (rfl) ?_
    cases hF
    exact Ex_fin rfl
  · rw [if_neg hc] at hF
    refine Ex_go 3 (pc' := if (57 : Int32) < x0 then 16 else 12) (L' := [some (.int x0)]) (st' := []) (σ' := (S, M, O)) (rfl) ?_
    refine Ex_br (fun hc => ?_) (fun hc => ?_)
    · rw [if_pos hc] at hF
      refine Ex_go 1 (pc' := 17) (L' := [some (.int x0)]) (st' := [.int (0 : Int32)]) (σ' := (S, M, O)) (rfl) ?_
      cases hF
      exact Ex_fin rfl
    · rw [if_neg hc] at hF
      refine Ex_go 2 (pc' := 17) (L' := [some (.int x0)]) (st' := [.int (1 : Int32)]) (σ' := (S, M, O)) (rfl) ?_
      cases hF
      exact Ex_fin rfl
def F_m_isMark (x0 : Int32) : Option Int32 := if x0 = (59 : Int32) then some (1 : Int32) else if x0 = (40 : Int32) then some (1 : Int32) else if x0 = (41 : Int32) then some (1 : Int32) else if x0 = (43 : Int32) then some (1 : Int32) else if x0 = (45 : Int32) then some (1 : Int32) else if x0 = (42 : Int32) then some (1 : Int32) else if x0 = (47 : Int32) then some (1 : Int32) else if x0 = (60 : Int32) then some (1 : Int32) else if x0 = (61 : Int32) then some (1 : Int32) else some (0 : Int32)
set_option maxRecDepth 100000 in
theorem X_m_isMark {nL : Nat} {xs : Nat → Int32} {S : Sto} {M : Sto} {O : Sto} {d : Nat} (hd : 1 ≤ d) : ∀ (x0 : Int32) (r : Int32), F_m_isMark x0 = some r → EX nL xs 0 MI_54 d 0 [some (.int x0)] [] (S, M, O) (.inl (some (.int r))) (S, M, O) := by
  intro x0 r hF
  unfold F_m_isMark at hF
  refine Ex_go 3 (pc' := if x0 = (59 : Int32) then 54 else 6) (L' := [some (.int x0)]) (st' := []) (σ' := (S, M, O)) (rfl) ?_
  refine Ex_br (fun hc => ?_) (fun hc => ?_)
  · rw [if_pos hc] at hF
    refine Ex_go 2 (pc' := 59) (L' := [some (.int x0)]) (st' := [.int (1 : Int32)]) (σ' := (S, M, O)) (rfl) ?_
    cases hF
    exact Ex_fin rfl
  · rw [if_neg hc] at hF
    refine Ex_go 3 (pc' := if x0 = (40 : Int32) then 54 else 12) (L' := [some (.int x0)]) (st' := []) (σ' := (S, M, O)) (rfl) ?_
    refine Ex_br (fun hc => ?_) (fun hc => ?_)
    · rw [if_pos hc] at hF
      refine Ex_go 2 (pc' := 59) (L' := [some (.int x0)]) (st' := [.int (1 : Int32)]) (σ' := (S, M, O)) (rfl) ?_
      cases hF
      exact Ex_fin rfl
    · rw [if_neg hc] at hF
      refine Ex_go 3 (pc' := if x0 = (41 : Int32) then 54 else 18) (L' := [some (.int x0)]) (st' := []) (σ' := (S, M, O)) (rfl) ?_
      refine Ex_br (fun hc => ?_) (fun hc => ?_)
      · rw [if_pos hc] at hF
        refine Ex_go 2 (pc' := 59) (L' := [some (.int x0)]) (st' := [.int (1 : Int32)]) (σ' := (S, M, O)) (rfl) ?_
        cases hF
        exact Ex_fin rfl
      · rw [if_neg hc] at hF
        refine Ex_go 3 (pc' := if x0 = (43 : Int32) then 54 else 24) (L' := [some (.int x0)]) (st' := []) (σ' := (S, M, O)) (rfl) ?_
        refine Ex_br (fun hc => ?_) (fun hc => ?_)
        · rw [if_pos hc] at hF
          refine Ex_go 2 (pc' := 59) (L' := [some (.int x0)]) (st' := [.int (1 : Int32)]) (σ' := (S, M, O)) (rfl) ?_
          cases hF
          exact Ex_fin rfl
        · rw [if_neg hc] at hF
          refine Ex_go 3 (pc' := if x0 = (45 : Int32) then 54 else 30) (L' := [some (.int x0)]) (st' := []) (σ' := (S, M, O)) (rfl) ?_
          refine Ex_br (fun hc => ?_) (fun hc => ?_)
          · rw [if_pos hc] at hF
            refine Ex_go 2 (pc' := 59) (L' := [some (.int x0)]) (st' := [.int (1 : Int32)]) (σ' := (S, M, O)) (rfl) ?_
            cases hF
            exact Ex_fin rfl
          · rw [if_neg hc] at hF
            refine Ex_go 3 (pc' := if x0 = (42 : Int32) then 54 else 36) (L' := [some (.int x0)]) (st' := []) (σ' := (S, M, O)) (rfl) ?_
            refine Ex_br (fun hc => ?_) (fun hc => ?_)
            · rw [if_pos hc] at hF
              refine Ex_go 2 (pc' := 59) (L' := [some (.int x0)]) (st' := [.int (1 : Int32)]) (σ' := (S, M, O)) (rfl) ?_
              cases hF
              exact Ex_fin rfl
            · rw [if_neg hc] at hF
              refine Ex_go 3 (pc' := if x0 = (47 : Int32) then 54 else 42) (L' := [some (.int x0)]) (st' := []) (σ' := (S, M, O)) (rfl) ?_
              refine Ex_br (fun hc => ?_) (fun hc => ?_)
              · rw [if_pos hc] at hF
                refine Ex_go 2 (pc' := 59) (L' := [some (.int x0)]) (st' := [.int (1 : Int32)]) (σ' := (S, M, O)) (rfl) ?_
                cases hF
                exact Ex_fin rfl
              · rw [if_neg hc] at hF
                refine Ex_go 3 (pc' := if x0 = (60 : Int32) then 54 else 48) (L' := [some (.int x0)]) (st' := []) (σ' := (S, M, O)) (rfl) ?_
                refine Ex_br (fun hc => ?_) (fun hc => ?_)
                · rw [if_pos hc] at hF
                  refine Ex_go 2 (pc' := 59) (L' := [some (.int x0)]) (st' := [.int (1 : Int32)]) (σ' := (S, M, O)) (rfl) ?_
                  cases hF
                  exact Ex_fin rfl
                · rw [if_neg hc] at hF
                  refine Ex_go 3 (pc' := if ¬ x0 = (61 : Int32) then 58 else 54) (L' := [some (.int x0)]) (st' := []) (σ' := (S, M, O)) (rfl) ?_
                  refine Ex_brN (fun hc => ?_) (fun hc => ?_)
                  · rw [if_pos hc] at hF
                    refine Ex_go 2 (pc' := 59) (L' := [some (.int x0)]) (st' := [.int (1 : Int32)]) (σ' := (S, M, O)) (rfl) ?_
                    cases hF
                    exact Ex_fin rfl
                  · rw [if_neg hc] at hF
                    refine Ex_go 1 (pc' := 59) (L' := [some (.int x0)]) (st' := [.int (0 : Int32)]) (σ' := (S, M, O)) (rfl) ?_
                    cases hF
                    exact Ex_fin rfl
def F_m_stepOn_26 (k0 : Sto → Option (Unit × Sto)) (M : Sto) : Option (Unit × Sto) := k0 (si M 1004 ((gi M 1004) + (1 : Int32)))
set_option maxRecDepth 100000 in
theorem X_m_stepOn_26 {nL : Nat} {xs : Nat → Int32} {S : Sto} {O : Sto} {d : Nat} (hd : 6 ≤ d) {k0 : Sto → Option (Unit × Sto)} (hk0 : ∀ (M : Sto) (r : Unit) (M' : Sto), k0 M = some (r, M') → EX nL xs 0 MI_55 d 0 [some (.ref 1000), none] [] (S, M, O) (.inl none) (S, M', O)) : ∀ (M : Sto) (r : Unit) (M' : Sto), F_m_stepOn_26 k0 M = some (r, M') → EX nL xs 0 MI_55 d 26 [some (.ref 1000), none] [] (S, M, O) (.inl none) (S, M', O) := by
  intro M r M' hF
  unfold F_m_stepOn_26 at hF
  refine Ex_go 7 (pc' := 0) (L' := [some (.ref 1000), none]) (st' := []) (σ' := (S, (si M 1004 ((gi M 1004) + (1 : Int32))), O)) (rfl) ?_
  exact Ex_mono (L := [some (.ref 1000), none]) (Le_s (Le_n (Le_0))) (hk0 _ _ _ hF) (Nat.le_refl _) (by omega)
def F_m_stepOn_212 (M : Sto) : Option (Unit × Sto) := some ((), (si M 1009 (gi M 1004)))
set_option maxRecDepth 100000 in
theorem X_m_stepOn_212 {nL : Nat} {xs : Nat → Int32} {S : Sto} {O : Sto} {d : Nat} (hd : 6 ≤ d) : ∀ (M : Sto) (r : Unit) (M' : Sto), F_m_stepOn_212 M = some (r, M') → EX nL xs 0 MI_55 d 212 [some (.ref 1000), none] [] (S, M, O) (.inl none) (S, M', O) := by
  intro M r M' hF
  unfold F_m_stepOn_212 at hF
  refine Ex_go 4 (pc' := 220) (L' := [some (.ref 1000), none]) (st' := []) (σ' := (S, (si M 1009 (gi M 1004)), O)) (rfl) ?_
  cases hF
  exact Ex_fin rfl
def F_m_stepOn_76 : Nat → Sto → Option (Unit × Sto)
  | 0, _ => none
  | n + 1, M => b1 (F_m_byteAt (gi M 1004) M) (fun r1 => b1 (F_m_isLetter r1) (fun r3 => if r3 = 0 then F_m_stepOn_212 (si M 1006 (1 : Int32)) else F_m_stepOn_76 n (si M 1004 ((gi M 1004) + (1 : Int32)))))
set_option maxRecDepth 100000 in
theorem X_m_stepOn_76 {nL : Nat} {xs : Nat → Int32} {S : Sto} {O : Sto} {d : Nat} (hd : 6 ≤ d) : ∀ n : Nat, ∀ (M : Sto) (r : Unit) (M' : Sto), F_m_stepOn_76 n M = some (r, M') → EX nL xs 0 MI_55 d 76 [some (.ref 1000), none] [] (S, M, O) (.inl none) (S, M', O) := by
  intro n
  induction n with
  | zero => intro M r M' hF; cases hF
  | succ n ih =>
  intro M r M' hF
  unfold F_m_stepOn_76 at hF
  refine Ex_go 3 (pc' := 81) (L' := [some (.ref 1000), none]) (st' := [.int (gi M 1004), .ref 1000]) (σ' := (S, M, O)) (rfl) ?_
  obtain ⟨r1, hx2, hF⟩ := b1_i hF
  refine Ex_call (kind := 2) (y := 51) (as := [.ref 1000, .int (gi M 1004)]) (rest := []) (L0 := [some (.ref 1000), some (.int (gi M 1004))]) (d' := 1) (v := some (.int r1)) (σ1 := (S, M, O)) rfl rfl mt_51 rfl rfl (by omega) (X_m_byteAt (Nat.le_refl _) _ _ _ hx2) (Ex_st (st2 := [.int r1]) rfl ?_)
  obtain ⟨r3, hx4, hF⟩ := b1_i hF
  refine Ex_call (kind := 0) (y := 52) (as := [.int r1]) (rest := []) (L0 := [some (.int r1)]) (d' := 1) (v := some (.int r3)) (σ1 := (S, M, O)) rfl rfl mt_52 rfl rfl (by omega) (X_m_isLetter (Nat.le_refl _) _ _ hx4) (Ex_st (st2 := [.int r3]) rfl ?_)
  refine Ex_go 1 (pc' := if r3 = 0 then 103 else 90) (L' := [some (.ref 1000), none]) (st' := []) (σ' := (S, M, O)) (rfl) ?_
  refine Ex_br (fun hc => ?_) (fun hc => ?_)
  · rw [if_pos hc] at hF
    refine Ex_go 4 (pc' := 212) (L' := [some (.ref 1000), none]) (st' := []) (σ' := (S, (si M 1006 (1 : Int32)), O)) (rfl) ?_
    exact Ex_mono (L := [some (.ref 1000), none]) (Le_s (Le_n (Le_0))) (X_m_stepOn_212 hd _ _ _ hF) (Nat.le_refl _) (by omega)
  · rw [if_neg hc] at hF
    refine Ex_go 7 (pc' := 76) (L' := [some (.ref 1000), none]) (st' := []) (σ' := (S, (si M 1004 ((gi M 1004) + (1 : Int32))), O)) (rfl) ?_
    exact Ex_mono (L := [some (.ref 1000), none]) (Le_s (Le_n (Le_0))) (ih _ _ _ hF) (Nat.le_refl _) (by omega)
def F_m_stepOn_123 : Nat → Sto → Option (Unit × Sto)
  | 0, _ => none
  | n + 1, M => b1 (F_m_byteAt (gi M 1004) M) (fun r1 => b1 (F_m_isDigit r1) (fun r3 => if r3 = 0 then F_m_stepOn_212 (si M 1006 (2 : Int32)) else b1 (F_m_byteAt (gi M 1004) M) (fun r5 => F_m_stepOn_123 n (si (si M 1007 (mnI (100000 : Int32) ((((10 : Int32) * (gi M 1007)) + r5) - (48 : Int32)))) 1004 ((gi (si M 1007 (mnI (100000 : Int32) ((((10 : Int32) * (gi M 1007)) + r5) - (48 : Int32)))) 1004) + (1 : Int32))))))
set_option maxRecDepth 100000 in
theorem X_m_stepOn_123 {nL : Nat} {xs : Nat → Int32} {S : Sto} {O : Sto} {d : Nat} (hd : 6 ≤ d) : ∀ n : Nat, ∀ (M : Sto) (r : Unit) (M' : Sto), F_m_stepOn_123 n M = some (r, M') → EX nL xs 0 MI_55 d 123 [some (.ref 1000), none] [] (S, M, O) (.inl none) (S, M', O) := by
  intro n
  induction n with
  | zero => intro M r M' hF; cases hF
  | succ n ih =>
  intro M r M' hF
  unfold F_m_stepOn_123 at hF
  refine Ex_go 3 (pc' := 128) (L' := [some (.ref 1000), none]) (st' := [.int (gi M 1004), .ref 1000]) (σ' := (S, M, O)) (rfl) ?_
  obtain ⟨r1, hx2, hF⟩ := b1_i hF
  refine Ex_call (kind := 2) (y := 51) (as := [.ref 1000, .int (gi M 1004)]) (rest := []) (L0 := [some (.ref 1000), some (.int (gi M 1004))]) (d' := 1) (v := some (.int r1)) (σ1 := (S, M, O)) rfl rfl mt_51 rfl rfl (by omega) (X_m_byteAt (Nat.le_refl _) _ _ _ hx2) (Ex_st (st2 := [.int r1]) rfl ?_)
  obtain ⟨r3, hx4, hF⟩ := b1_i hF
  refine Ex_call (kind := 0) (y := 53) (as := [.int r1]) (rest := []) (L0 := [some (.int r1)]) (d' := 1) (v := some (.int r3)) (σ1 := (S, M, O)) rfl rfl mt_53 rfl rfl (by omega) (X_m_isDigit (Nat.le_refl _) _ _ hx4) (Ex_st (st2 := [.int r3]) rfl ?_)
  refine Ex_go 1 (pc' := if r3 = 0 then 178 else 137) (L' := [some (.ref 1000), none]) (st' := []) (σ' := (S, M, O)) (rfl) ?_
  refine Ex_br (fun hc => ?_) (fun hc => ?_)
  · rw [if_pos hc] at hF
    refine Ex_go 4 (pc' := 212) (L' := [some (.ref 1000), none]) (st' := []) (σ' := (S, (si M 1006 (2 : Int32)), O)) (rfl) ?_
    exact Ex_mono (L := [some (.ref 1000), none]) (Le_s (Le_n (Le_0))) (X_m_stepOn_212 hd _ _ _ hF) (Nat.le_refl _) (by omega)
  · rw [if_neg hc] at hF
    refine Ex_go 9 (pc' := 152) (L' := [some (.ref 1000), none]) (st' := [.int (gi M 1004), .ref 1000, .int ((10 : Int32) * (gi M 1007)), .int (100000 : Int32), .ref 1000]) (σ' := (S, M, O)) (rfl) ?_
    obtain ⟨r5, hx6, hF⟩ := b1_i hF
    refine Ex_call (kind := 2) (y := 51) (as := [.ref 1000, .int (gi M 1004)]) (rest := [.int ((10 : Int32) * (gi M 1007)), .int (100000 : Int32), .ref 1000]) (L0 := [some (.ref 1000), some (.int (gi M 1004))]) (d' := 1) (v := some (.int r5)) (σ1 := (S, M, O)) rfl rfl mt_51 rfl rfl (by omega) (X_m_byteAt (Nat.le_refl _) _ _ _ hx6) (Ex_st (st2 := [.int r5, .int ((10 : Int32) * (gi M 1007)), .int (100000 : Int32), .ref 1000]) rfl ?_)
    refine Ex_go 3 (pc' := 159) (L' := [some (.ref 1000), none]) (st' := [.int ((((10 : Int32) * (gi M 1007)) + r5) - (48 : Int32)), .int (100000 : Int32), .ref 1000]) (σ' := (S, M, O)) (rfl) ?_
    refine Ex_blt (kind := 10) (y := 0) (as := [.int (100000 : Int32), .int ((((10 : Int32) * (gi M 1007)) + r5) - (48 : Int32))]) (rest := [.ref 1000]) (v := .int (mnI (100000 : Int32) ((((10 : Int32) * (gi M 1007)) + r5) - (48 : Int32)))) rfl rfl (by omega) ?_
    refine Ex_go 8 (pc' := 123) (L' := [some (.ref 1000), none]) (st' := []) (σ' := (S, (si (si M 1007 (mnI (100000 : Int32) ((((10 : Int32) * (gi M 1007)) + r5) - (48 : Int32)))) 1004 ((gi (si M 1007 (mnI (100000 : Int32) ((((10 : Int32) * (gi M 1007)) + r5) - (48 : Int32)))) 1004) + (1 : Int32))), O)) (rfl) ?_
    exact Ex_mono (L := [some (.ref 1000), none]) (Le_s (Le_n (Le_0))) (ih _ _ _ hF) (Nat.le_refl _) (by omega)
def F_m_stepOn_209 (s1 : Int32) (M : Sto) : Option (Unit × Sto) := F_m_stepOn_212 (si M 1006 s1)
set_option maxRecDepth 100000 in
theorem X_m_stepOn_209 {nL : Nat} {xs : Nat → Int32} {S : Sto} {O : Sto} {d : Nat} (hd : 6 ≤ d) : ∀ (s1 : Int32) (M : Sto) (r : Unit) (M' : Sto), F_m_stepOn_209 s1 M = some (r, M') → EX nL xs 0 MI_55 d 209 [some (.ref 1000), none] [.int s1, .ref 1000] (S, M, O) (.inl none) (S, M', O) := by
  intro s1 M r M' hF
  unfold F_m_stepOn_209 at hF
  refine Ex_go 1 (pc' := 212) (L' := [some (.ref 1000), none]) (st' := []) (σ' := (S, (si M 1006 s1), O)) (rfl) ?_
  exact Ex_mono (L := [some (.ref 1000), none]) (Le_s (Le_n (Le_0))) (X_m_stepOn_212 hd _ _ _ hF) (Nat.le_refl _) (by omega)
def F_m_stepOn_0 : Nat → Sto → Option (Unit × Sto)
  | 0, _ => none
  | n + 1, M => b1 (F_m_byteAt (gi M 1004) M) (fun r1 => if r1 = (32 : Int32) then F_m_stepOn_26 (F_m_stepOn_0 n) M else b1 (F_m_byteAt (gi M 1004) M) (fun r3 => if r3 = (10 : Int32) then F_m_stepOn_26 (F_m_stepOn_0 n) M else b1 (F_m_byteAt (gi (si M 1008 (gi M 1004)) 1004) (si M 1008 (gi M 1004))) (fun r5 => if r5 = (-1 : Int32) then F_m_stepOn_212 (si (si M 1008 (gi M 1004)) 1006 (0 : Int32)) else b1 (F_m_isLetter r5) (fun r7 => if r7 = 0 then b1 (F_m_isDigit r5) (fun r9 => if r9 = 0 then b1 (F_m_isMark r5) (fun r11 => if r11 = 0 then F_m_stepOn_209 (4 : Int32) (si (si M 1008 (gi M 1004)) 1004 ((gi (si M 1008 (gi M 1004)) 1004) + (1 : Int32))) else F_m_stepOn_209 (3 : Int32) (si (si M 1008 (gi M 1004)) 1004 ((gi (si M 1008 (gi M 1004)) 1004) + (1 : Int32)))) else F_m_stepOn_123 FU (si (si M 1008 (gi M 1004)) 1007 (0 : Int32))) else F_m_stepOn_76 FU (si M 1008 (gi M 1004))))))
set_option maxRecDepth 100000 in
theorem X_m_stepOn_0 {nL : Nat} {xs : Nat → Int32} {S : Sto} {O : Sto} {d : Nat} (hd : 6 ≤ d) : ∀ n : Nat, ∀ (M : Sto) (r : Unit) (M' : Sto), F_m_stepOn_0 n M = some (r, M') → EX nL xs 0 MI_55 d 0 [some (.ref 1000), none] [] (S, M, O) (.inl none) (S, M', O) := by
  intro n
  induction n with
  | zero => intro M r M' hF; cases hF
  | succ n ih =>
  intro M r M' hF
  unfold F_m_stepOn_0 at hF
  refine Ex_go 3 (pc' := 5) (L' := [some (.ref 1000), none]) (st' := [.int (gi M 1004), .ref 1000]) (σ' := (S, M, O)) (rfl) ?_
  obtain ⟨r1, hx2, hF⟩ := b1_i hF
  refine Ex_call (kind := 2) (y := 51) (as := [.ref 1000, .int (gi M 1004)]) (rest := []) (L0 := [some (.ref 1000), some (.int (gi M 1004))]) (d' := 1) (v := some (.int r1)) (σ1 := (S, M, O)) rfl rfl mt_51 rfl rfl (by omega) (X_m_byteAt (Nat.le_refl _) _ _ _ hx2) (Ex_st (st2 := [.int r1]) rfl ?_)
  refine Ex_go 2 (pc' := if r1 = (32 : Int32) then 26 else 13) (L' := [some (.ref 1000), none]) (st' := []) (σ' := (S, M, O)) (rfl) ?_
  refine Ex_br (fun hc => ?_) (fun hc => ?_)
  · rw [if_pos hc] at hF
    exact Ex_mono (L := [some (.ref 1000), none]) (Le_s (Le_n (Le_0))) (X_m_stepOn_26 hd ih _ _ _ hF) (Nat.le_refl _) (by omega)
  · rw [if_neg hc] at hF
    refine Ex_go 3 (pc' := 18) (L' := [some (.ref 1000), none]) (st' := [.int (gi M 1004), .ref 1000]) (σ' := (S, M, O)) (rfl) ?_
    obtain ⟨r3, hx4, hF⟩ := b1_i hF
    refine Ex_call (kind := 2) (y := 51) (as := [.ref 1000, .int (gi M 1004)]) (rest := []) (L0 := [some (.ref 1000), some (.int (gi M 1004))]) (d' := 1) (v := some (.int r3)) (σ1 := (S, M, O)) rfl rfl mt_51 rfl rfl (by omega) (X_m_byteAt (Nat.le_refl _) _ _ _ hx4) (Ex_st (st2 := [.int r3]) rfl ?_)
    refine Ex_go 2 (pc' := if ¬ r3 = (10 : Int32) then 39 else 26) (L' := [some (.ref 1000), none]) (st' := []) (σ' := (S, M, O)) (rfl) ?_
    refine Ex_brN (fun hc => ?_) (fun hc => ?_)
    · rw [if_pos hc] at hF
      exact Ex_mono (L := [some (.ref 1000), none]) (Le_s (Le_n (Le_0))) (X_m_stepOn_26 hd ih _ _ _ hF) (Nat.le_refl _) (by omega)
    · rw [if_neg hc] at hF
      refine Ex_go 7 (pc' := 52) (L' := [some (.ref 1000), none]) (st' := [.int (gi (si M 1008 (gi M 1004)) 1004), .ref 1000]) (σ' := (S, (si M 1008 (gi M 1004)), O)) (rfl) ?_
      obtain ⟨r5, hx6, hF⟩ := b1_i hF
      refine Ex_call (kind := 2) (y := 51) (as := [.ref 1000, .int (gi (si M 1008 (gi M 1004)) 1004)]) (rest := []) (L0 := [some (.ref 1000), some (.int (gi (si M 1008 (gi M 1004)) 1004))]) (d' := 1) (v := some (.int r5)) (σ1 := (S, (si M 1008 (gi M 1004)), O)) rfl rfl mt_51 rfl rfl (by omega) (X_m_byteAt (Nat.le_refl _) _ _ _ hx6) (Ex_st (st2 := [.int r5]) rfl ?_)
      refine Ex_go 4 (pc' := if ¬ r5 = (-1 : Int32) then 69 else 61) (L' := [some (.ref 1000), some (.int r5)]) (st' := []) (σ' := (S, (si M 1008 (gi M 1004)), O)) (rfl) ?_
      refine Ex_brN (fun hc => ?_) (fun hc => ?_)
      · rw [if_pos hc] at hF
        refine Ex_go 4 (pc' := 212) (L' := [some (.ref 1000), some (.int r5)]) (st' := []) (σ' := (S, (si (si M 1008 (gi M 1004)) 1006 (0 : Int32)), O)) (rfl) ?_
        exact Ex_mono (L := [some (.ref 1000), none]) (Le_s (Le_n (Le_0))) (X_m_stepOn_212 hd _ _ _ hF) (Nat.le_refl _) (by omega)
      · rw [if_neg hc] at hF
        refine Ex_go 1 (pc' := 70) (L' := [some (.ref 1000), some (.int r5)]) (st' := [.int r5]) (σ' := (S, (si M 1008 (gi M 1004)), O)) (rfl) ?_
        obtain ⟨r7, hx8, hF⟩ := b1_i hF
        refine Ex_call (kind := 0) (y := 52) (as := [.int r5]) (rest := []) (L0 := [some (.int r5)]) (d' := 1) (v := some (.int r7)) (σ1 := (S, (si M 1008 (gi M 1004)), O)) rfl rfl mt_52 rfl rfl (by omega) (X_m_isLetter (Nat.le_refl _) _ _ hx8) (Ex_st (st2 := [.int r7]) rfl ?_)
        refine Ex_go 1 (pc' := if r7 = 0 then 111 else 76) (L' := [some (.ref 1000), some (.int r5)]) (st' := []) (σ' := (S, (si M 1008 (gi M 1004)), O)) (rfl) ?_
        refine Ex_br (fun hc => ?_) (fun hc => ?_)
        · rw [if_pos hc] at hF
          refine Ex_go 1 (pc' := 112) (L' := [some (.ref 1000), some (.int r5)]) (st' := [.int r5]) (σ' := (S, (si M 1008 (gi M 1004)), O)) (rfl) ?_
          obtain ⟨r9, hx10, hF⟩ := b1_i hF
          refine Ex_call (kind := 0) (y := 53) (as := [.int r5]) (rest := []) (L0 := [some (.int r5)]) (d' := 1) (v := some (.int r9)) (σ1 := (S, (si M 1008 (gi M 1004)), O)) rfl rfl mt_53 rfl rfl (by omega) (X_m_isDigit (Nat.le_refl _) _ _ hx10) (Ex_st (st2 := [.int r9]) rfl ?_)
          refine Ex_go 1 (pc' := if r9 = 0 then 186 else 118) (L' := [some (.ref 1000), some (.int r5)]) (st' := []) (σ' := (S, (si M 1008 (gi M 1004)), O)) (rfl) ?_
          refine Ex_br (fun hc => ?_) (fun hc => ?_)
          · rw [if_pos hc] at hF
            refine Ex_go 8 (pc' := 198) (L' := [some (.ref 1000), some (.int r5)]) (st' := [.int r5, .ref 1000]) (σ' := (S, (si (si M 1008 (gi M 1004)) 1004 ((gi (si M 1008 (gi M 1004)) 1004) + (1 : Int32))), O)) (rfl) ?_
            obtain ⟨r11, hx12, hF⟩ := b1_i hF
            refine Ex_call (kind := 0) (y := 54) (as := [.int r5]) (rest := [.ref 1000]) (L0 := [some (.int r5)]) (d' := 1) (v := some (.int r11)) (σ1 := (S, (si (si M 1008 (gi M 1004)) 1004 ((gi (si M 1008 (gi M 1004)) 1004) + (1 : Int32))), O)) rfl rfl mt_54 rfl rfl (by omega) (X_m_isMark (Nat.le_refl _) _ _ hx12) (Ex_st (st2 := [.int r11, .ref 1000]) rfl ?_)
            refine Ex_go 1 (pc' := if r11 = 0 then 208 else 204) (L' := [some (.ref 1000), some (.int r5)]) (st' := [.ref 1000]) (σ' := (S, (si (si M 1008 (gi M 1004)) 1004 ((gi (si M 1008 (gi M 1004)) 1004) + (1 : Int32))), O)) (rfl) ?_
            refine Ex_br (fun hc => ?_) (fun hc => ?_)
            · rw [if_pos hc] at hF
              refine Ex_go 1 (pc' := 209) (L' := [some (.ref 1000), some (.int r5)]) (st' := [.int (4 : Int32), .ref 1000]) (σ' := (S, (si (si M 1008 (gi M 1004)) 1004 ((gi (si M 1008 (gi M 1004)) 1004) + (1 : Int32))), O)) (rfl) ?_
              exact Ex_mono (L := [some (.ref 1000), none]) (Le_s (Le_n (Le_0))) (X_m_stepOn_209 hd _ _ _ _ hF) (Nat.le_refl _) (by omega)
            · rw [if_neg hc] at hF
              refine Ex_go 2 (pc' := 209) (L' := [some (.ref 1000), some (.int r5)]) (st' := [.int (3 : Int32), .ref 1000]) (σ' := (S, (si (si M 1008 (gi M 1004)) 1004 ((gi (si M 1008 (gi M 1004)) 1004) + (1 : Int32))), O)) (rfl) ?_
              exact Ex_mono (L := [some (.ref 1000), none]) (Le_s (Le_n (Le_0))) (X_m_stepOn_209 hd _ _ _ _ hF) (Nat.le_refl _) (by omega)
          · rw [if_neg hc] at hF
            refine Ex_go 3 (pc' := 123) (L' := [some (.ref 1000), some (.int r5)]) (st' := []) (σ' := (S, (si (si M 1008 (gi M 1004)) 1007 (0 : Int32)), O)) (rfl) ?_
            exact Ex_mono (L := [some (.ref 1000), none]) (Le_s (Le_n (Le_0))) (X_m_stepOn_123 hd FU _ _ _ hF) (Nat.le_refl _) (by omega)
        · rw [if_neg hc] at hF
          exact Ex_mono (L := [some (.ref 1000), none]) (Le_s (Le_n (Le_0))) (X_m_stepOn_76 hd FU _ _ _ hF) (Nat.le_refl _) (by omega)
def F_m_stepOn (M : Sto) : Option (Unit × Sto) := F_m_stepOn_0 FU M
set_option maxRecDepth 100000 in
theorem X_m_stepOn {nL : Nat} {xs : Nat → Int32} {S : Sto} {O : Sto} {d : Nat} (hd : 6 ≤ d) : ∀ (M : Sto) (r : Unit) (M' : Sto), F_m_stepOn M = some (r, M') → EX nL xs 0 MI_55 d 0 [some (.ref 1000), none] [] (S, M, O) (.inl none) (S, M', O) := by
  intro M r M' hF
  exact Ex_mono (Le_s (Le_n (Le_0))) (X_m_stepOn_0 hd FU M r M' hF) (Nat.le_refl _) (by omega)
def F_m_takeHalf_1003_2 : Nat → Int32 → Sto → Option (Unit × Sto)
  | 0, _, _ => none
  | n + 1, x1, M => if ((nI 6) / (2 : Int32)) ≤ x1 then some ((), M) else ck (ib (((nI 6) / (2 : Int32)) + x1) 6) (ck (ib x1 6) (F_m_takeHalf_1003_2 n (x1 + (1 : Int32)) (ui M 1003 (upd (ai M 1003) (Int32.toNatClampNeg x1) (ai M 1003 (Int32.toNatClampNeg (((nI 6) / (2 : Int32)) + x1)))))))
set_option maxRecDepth 100000 in
theorem X_m_takeHalf_1003_2 {nL : Nat} {xs : Nat → Int32} {S : Sto} {O : Sto} {d : Nat} (hd : 1 ≤ d) : ∀ n : Nat, ∀ (x1 : Int32) (M : Sto) (r : Unit) (M' : Sto), F_m_takeHalf_1003_2 n x1 M = some (r, M') → EX nL xs 0 MI_74 d 2 [some (.ref 1003), some (.int x1)] [] (S, M, O) (.inl none) (S, M', O) := by
  intro n
  induction n with
  | zero => intro x1 M r M' hF; cases hF
  | succ n ih =>
  intro x1 M r M' hF
  unfold F_m_takeHalf_1003_2 at hF
  refine Ex_go 4 (pc' := 6) (L' := [some (.ref 1003), some (.int x1)]) (st' := [.int (2 : Int32), .int (nI 6), .int x1]) (σ' := (S, M, O)) (rfl) ?_
  refine Ex_chk (b := nzI (2 : Int32)) (pc' := 7) (L' := [some (.ref 1003), some (.int x1)]) (st' := [.int ((nI 6) / (2 : Int32)), .int x1]) (σ' := (S, M, O)) rfl (by decide) ?_
  refine Ex_go 1 (pc' := if ((nI 6) / (2 : Int32)) ≤ x1 then 27 else 10) (L' := [some (.ref 1003), some (.int x1)]) (st' := []) (σ' := (S, M, O)) (rfl) ?_
  refine Ex_br (fun hc => ?_) (fun hc => ?_)
  · rw [if_pos hc] at hF
    cases hF
    exact Ex_fin rfl
  · rw [if_neg hc] at hF
    refine Ex_go 6 (pc' := 16) (L' := [some (.ref 1003), some (.int x1)]) (st' := [.int (2 : Int32), .int (nI 6), .ref 1003, .int x1, .ref 1003]) (σ' := (S, M, O)) (rfl) ?_
    refine Ex_chk (b := nzI (2 : Int32)) (pc' := 17) (L' := [some (.ref 1003), some (.int x1)]) (st' := [.int ((nI 6) / (2 : Int32)), .ref 1003, .int x1, .ref 1003]) (σ' := (S, M, O)) rfl (by decide) ?_
    refine Ex_go 2 (pc' := 19) (L' := [some (.ref 1003), some (.int x1)]) (st' := [.int (((nI 6) / (2 : Int32)) + x1), .ref 1003, .int x1, .ref 1003]) (σ' := (S, M, O)) (rfl) ?_
    obtain ⟨hc1, hF⟩ := ck_i hF
    refine Ex_chk (b := ib (((nI 6) / (2 : Int32)) + x1) 6) (pc' := 20) (L' := [some (.ref 1003), some (.int x1)]) (st' := [.int (ai M 1003 (Int32.toNatClampNeg (((nI 6) / (2 : Int32)) + x1))), .int x1, .ref 1003]) (σ' := (S, M, O)) rfl hc1 ?_
    obtain ⟨hc2, hF⟩ := ck_i hF
    refine Ex_chk (b := ib x1 6) (pc' := 21) (L' := [some (.ref 1003), some (.int x1)]) (st' := []) (σ' := (S, (ui M 1003 (upd (ai M 1003) (Int32.toNatClampNeg x1) (ai M 1003 (Int32.toNatClampNeg (((nI 6) / (2 : Int32)) + x1))))), O)) rfl hc2 ?_
    refine Ex_go 2 (pc' := 2) (L' := [some (.ref 1003), some (.int (x1 + (1 : Int32)))]) (st' := []) (σ' := (S, (ui M 1003 (upd (ai M 1003) (Int32.toNatClampNeg x1) (ai M 1003 (Int32.toNatClampNeg (((nI 6) / (2 : Int32)) + x1))))), O)) (rfl) ?_
    exact Ex_mono (L := [some (.ref 1003), some (.int (x1 + (1 : Int32)))]) (Le_s (Le_s (Le_0))) (ih _ _ _ _ hF) (Nat.le_refl _) (by omega)
def F_m_takeHalf_1003 (M : Sto) : Option (Unit × Sto) := F_m_takeHalf_1003_2 FU (0 : Int32) M
set_option maxRecDepth 100000 in
theorem X_m_takeHalf_1003 {nL : Nat} {xs : Nat → Int32} {S : Sto} {O : Sto} {d : Nat} (hd : 1 ≤ d) : ∀ (M : Sto) (r : Unit) (M' : Sto), F_m_takeHalf_1003 M = some (r, M') → EX nL xs 0 MI_74 d 0 [some (.ref 1003), none] [] (S, M, O) (.inl none) (S, M', O) := by
  intro M r M' hF
  unfold F_m_takeHalf_1003 at hF
  refine Ex_go 2 (pc' := 2) (L' := [some (.ref 1003), some (.int (0 : Int32))]) (st' := []) (σ' := (S, M, O)) (rfl) ?_
  exact Ex_mono (L := [some (.ref 1003), some (.int (0 : Int32))]) (Le_s (Le_s (Le_0))) (X_m_takeHalf_1003_2 hd FU _ _ _ _ hF) (Nat.le_refl _) (by omega)
def F_m_takeHalf_1004_2 : Nat → Int32 → Sto → Option (Unit × Sto)
  | 0, _, _ => none
  | n + 1, x1, M => if ((nI 16) / (2 : Int32)) ≤ x1 then some ((), M) else ck (ib (((nI 16) / (2 : Int32)) + x1) 16) (ck (ib x1 16) (F_m_takeHalf_1004_2 n (x1 + (1 : Int32)) (ui M 1004 (upd (ai M 1004) (Int32.toNatClampNeg x1) (ai M 1004 (Int32.toNatClampNeg (((nI 16) / (2 : Int32)) + x1)))))))
set_option maxRecDepth 100000 in
theorem X_m_takeHalf_1004_2 {nL : Nat} {xs : Nat → Int32} {S : Sto} {O : Sto} {d : Nat} (hd : 1 ≤ d) : ∀ n : Nat, ∀ (x1 : Int32) (M : Sto) (r : Unit) (M' : Sto), F_m_takeHalf_1004_2 n x1 M = some (r, M') → EX nL xs 0 MI_74 d 2 [some (.ref 1004), some (.int x1)] [] (S, M, O) (.inl none) (S, M', O) := by
  intro n
  induction n with
  | zero => intro x1 M r M' hF; cases hF
  | succ n ih =>
  intro x1 M r M' hF
  unfold F_m_takeHalf_1004_2 at hF
  refine Ex_go 4 (pc' := 6) (L' := [some (.ref 1004), some (.int x1)]) (st' := [.int (2 : Int32), .int (nI 16), .int x1]) (σ' := (S, M, O)) (rfl) ?_
  refine Ex_chk (b := nzI (2 : Int32)) (pc' := 7) (L' := [some (.ref 1004), some (.int x1)]) (st' := [.int ((nI 16) / (2 : Int32)), .int x1]) (σ' := (S, M, O)) rfl (by decide) ?_
  refine Ex_go 1 (pc' := if ((nI 16) / (2 : Int32)) ≤ x1 then 27 else 10) (L' := [some (.ref 1004), some (.int x1)]) (st' := []) (σ' := (S, M, O)) (rfl) ?_
  refine Ex_br (fun hc => ?_) (fun hc => ?_)
  · rw [if_pos hc] at hF
    cases hF
    exact Ex_fin rfl
  · rw [if_neg hc] at hF
    refine Ex_go 6 (pc' := 16) (L' := [some (.ref 1004), some (.int x1)]) (st' := [.int (2 : Int32), .int (nI 16), .ref 1004, .int x1, .ref 1004]) (σ' := (S, M, O)) (rfl) ?_
    refine Ex_chk (b := nzI (2 : Int32)) (pc' := 17) (L' := [some (.ref 1004), some (.int x1)]) (st' := [.int ((nI 16) / (2 : Int32)), .ref 1004, .int x1, .ref 1004]) (σ' := (S, M, O)) rfl (by decide) ?_
    refine Ex_go 2 (pc' := 19) (L' := [some (.ref 1004), some (.int x1)]) (st' := [.int (((nI 16) / (2 : Int32)) + x1), .ref 1004, .int x1, .ref 1004]) (σ' := (S, M, O)) (rfl) ?_
    obtain ⟨hc1, hF⟩ := ck_i hF
    refine Ex_chk (b := ib (((nI 16) / (2 : Int32)) + x1) 16) (pc' := 20) (L' := [some (.ref 1004), some (.int x1)]) (st' := [.int (ai M 1004 (Int32.toNatClampNeg (((nI 16) / (2 : Int32)) + x1))), .int x1, .ref 1004]) (σ' := (S, M, O)) rfl hc1 ?_
    obtain ⟨hc2, hF⟩ := ck_i hF
    refine Ex_chk (b := ib x1 16) (pc' := 21) (L' := [some (.ref 1004), some (.int x1)]) (st' := []) (σ' := (S, (ui M 1004 (upd (ai M 1004) (Int32.toNatClampNeg x1) (ai M 1004 (Int32.toNatClampNeg (((nI 16) / (2 : Int32)) + x1))))), O)) rfl hc2 ?_
    refine Ex_go 2 (pc' := 2) (L' := [some (.ref 1004), some (.int (x1 + (1 : Int32)))]) (st' := []) (σ' := (S, (ui M 1004 (upd (ai M 1004) (Int32.toNatClampNeg x1) (ai M 1004 (Int32.toNatClampNeg (((nI 16) / (2 : Int32)) + x1))))), O)) (rfl) ?_
    exact Ex_mono (L := [some (.ref 1004), some (.int (x1 + (1 : Int32)))]) (Le_s (Le_s (Le_0))) (ih _ _ _ _ hF) (Nat.le_refl _) (by omega)
def F_m_takeHalf_1004 (M : Sto) : Option (Unit × Sto) := F_m_takeHalf_1004_2 FU (0 : Int32) M
set_option maxRecDepth 100000 in
theorem X_m_takeHalf_1004 {nL : Nat} {xs : Nat → Int32} {S : Sto} {O : Sto} {d : Nat} (hd : 1 ≤ d) : ∀ (M : Sto) (r : Unit) (M' : Sto), F_m_takeHalf_1004 M = some (r, M') → EX nL xs 0 MI_74 d 0 [some (.ref 1004), none] [] (S, M, O) (.inl none) (S, M', O) := by
  intro M r M' hF
  unfold F_m_takeHalf_1004 at hF
  refine Ex_go 2 (pc' := 2) (L' := [some (.ref 1004), some (.int (0 : Int32))]) (st' := []) (σ' := (S, M, O)) (rfl) ?_
  exact Ex_mono (L := [some (.ref 1004), some (.int (0 : Int32))]) (Le_s (Le_s (Le_0))) (X_m_takeHalf_1004_2 hd FU _ _ _ _ hF) (Nat.le_refl _) (by omega)
def F_m_takeHalf_1005_2 : Nat → Int32 → Sto → Option (Unit × Sto)
  | 0, _, _ => none
  | n + 1, x1, M => if ((nI 16) / (2 : Int32)) ≤ x1 then some ((), M) else ck (ib (((nI 16) / (2 : Int32)) + x1) 16) (ck (ib x1 16) (F_m_takeHalf_1005_2 n (x1 + (1 : Int32)) (ui M 1005 (upd (ai M 1005) (Int32.toNatClampNeg x1) (ai M 1005 (Int32.toNatClampNeg (((nI 16) / (2 : Int32)) + x1)))))))
set_option maxRecDepth 100000 in
theorem X_m_takeHalf_1005_2 {nL : Nat} {xs : Nat → Int32} {S : Sto} {O : Sto} {d : Nat} (hd : 1 ≤ d) : ∀ n : Nat, ∀ (x1 : Int32) (M : Sto) (r : Unit) (M' : Sto), F_m_takeHalf_1005_2 n x1 M = some (r, M') → EX nL xs 0 MI_74 d 2 [some (.ref 1005), some (.int x1)] [] (S, M, O) (.inl none) (S, M', O) := by
  intro n
  induction n with
  | zero => intro x1 M r M' hF; cases hF
  | succ n ih =>
  intro x1 M r M' hF
  unfold F_m_takeHalf_1005_2 at hF
  refine Ex_go 4 (pc' := 6) (L' := [some (.ref 1005), some (.int x1)]) (st' := [.int (2 : Int32), .int (nI 16), .int x1]) (σ' := (S, M, O)) (rfl) ?_
  refine Ex_chk (b := nzI (2 : Int32)) (pc' := 7) (L' := [some (.ref 1005), some (.int x1)]) (st' := [.int ((nI 16) / (2 : Int32)), .int x1]) (σ' := (S, M, O)) rfl (by decide) ?_
  refine Ex_go 1 (pc' := if ((nI 16) / (2 : Int32)) ≤ x1 then 27 else 10) (L' := [some (.ref 1005), some (.int x1)]) (st' := []) (σ' := (S, M, O)) (rfl) ?_
  refine Ex_br (fun hc => ?_) (fun hc => ?_)
  · rw [if_pos hc] at hF
    cases hF
    exact Ex_fin rfl
  · rw [if_neg hc] at hF
    refine Ex_go 6 (pc' := 16) (L' := [some (.ref 1005), some (.int x1)]) (st' := [.int (2 : Int32), .int (nI 16), .ref 1005, .int x1, .ref 1005]) (σ' := (S, M, O)) (rfl) ?_
    refine Ex_chk (b := nzI (2 : Int32)) (pc' := 17) (L' := [some (.ref 1005), some (.int x1)]) (st' := [.int ((nI 16) / (2 : Int32)), .ref 1005, .int x1, .ref 1005]) (σ' := (S, M, O)) rfl (by decide) ?_
    refine Ex_go 2 (pc' := 19) (L' := [some (.ref 1005), some (.int x1)]) (st' := [.int (((nI 16) / (2 : Int32)) + x1), .ref 1005, .int x1, .ref 1005]) (σ' := (S, M, O)) (rfl) ?_
    obtain ⟨hc1, hF⟩ := ck_i hF
    refine Ex_chk (b := ib (((nI 16) / (2 : Int32)) + x1) 16) (pc' := 20) (L' := [some (.ref 1005), some (.int x1)]) (st' := [.int (ai M 1005 (Int32.toNatClampNeg (((nI 16) / (2 : Int32)) + x1))), .int x1, .ref 1005]) (σ' := (S, M, O)) rfl hc1 ?_
    obtain ⟨hc2, hF⟩ := ck_i hF
    refine Ex_chk (b := ib x1 16) (pc' := 21) (L' := [some (.ref 1005), some (.int x1)]) (st' := []) (σ' := (S, (ui M 1005 (upd (ai M 1005) (Int32.toNatClampNeg x1) (ai M 1005 (Int32.toNatClampNeg (((nI 16) / (2 : Int32)) + x1))))), O)) rfl hc2 ?_
    refine Ex_go 2 (pc' := 2) (L' := [some (.ref 1005), some (.int (x1 + (1 : Int32)))]) (st' := []) (σ' := (S, (ui M 1005 (upd (ai M 1005) (Int32.toNatClampNeg x1) (ai M 1005 (Int32.toNatClampNeg (((nI 16) / (2 : Int32)) + x1))))), O)) (rfl) ?_
    exact Ex_mono (L := [some (.ref 1005), some (.int (x1 + (1 : Int32)))]) (Le_s (Le_s (Le_0))) (ih _ _ _ _ hF) (Nat.le_refl _) (by omega)
def F_m_takeHalf_1005 (M : Sto) : Option (Unit × Sto) := F_m_takeHalf_1005_2 FU (0 : Int32) M
set_option maxRecDepth 100000 in
theorem X_m_takeHalf_1005 {nL : Nat} {xs : Nat → Int32} {S : Sto} {O : Sto} {d : Nat} (hd : 1 ≤ d) : ∀ (M : Sto) (r : Unit) (M' : Sto), F_m_takeHalf_1005 M = some (r, M') → EX nL xs 0 MI_74 d 0 [some (.ref 1005), none] [] (S, M, O) (.inl none) (S, M', O) := by
  intro M r M' hF
  unfold F_m_takeHalf_1005 at hF
  refine Ex_go 2 (pc' := 2) (L' := [some (.ref 1005), some (.int (0 : Int32))]) (st' := []) (σ' := (S, M, O)) (rfl) ?_
  exact Ex_mono (L := [some (.ref 1005), some (.int (0 : Int32))]) (Le_s (Le_s (Le_0))) (X_m_takeHalf_1005_2 hd FU _ _ _ _ hF) (Nat.le_refl _) (by omega)
def F_m_takeHalf_1006_2 : Nat → Int32 → Sto → Option (Unit × Sto)
  | 0, _, _ => none
  | n + 1, x1, M => if ((nI 16) / (2 : Int32)) ≤ x1 then some ((), M) else ck (ib (((nI 16) / (2 : Int32)) + x1) 16) (ck (ib x1 16) (F_m_takeHalf_1006_2 n (x1 + (1 : Int32)) (ui M 1006 (upd (ai M 1006) (Int32.toNatClampNeg x1) (ai M 1006 (Int32.toNatClampNeg (((nI 16) / (2 : Int32)) + x1)))))))
set_option maxRecDepth 100000 in
theorem X_m_takeHalf_1006_2 {nL : Nat} {xs : Nat → Int32} {S : Sto} {O : Sto} {d : Nat} (hd : 1 ≤ d) : ∀ n : Nat, ∀ (x1 : Int32) (M : Sto) (r : Unit) (M' : Sto), F_m_takeHalf_1006_2 n x1 M = some (r, M') → EX nL xs 0 MI_74 d 2 [some (.ref 1006), some (.int x1)] [] (S, M, O) (.inl none) (S, M', O) := by
  intro n
  induction n with
  | zero => intro x1 M r M' hF; cases hF
  | succ n ih =>
  intro x1 M r M' hF
  unfold F_m_takeHalf_1006_2 at hF
  refine Ex_go 4 (pc' := 6) (L' := [some (.ref 1006), some (.int x1)]) (st' := [.int (2 : Int32), .int (nI 16), .int x1]) (σ' := (S, M, O)) (rfl) ?_
  refine Ex_chk (b := nzI (2 : Int32)) (pc' := 7) (L' := [some (.ref 1006), some (.int x1)]) (st' := [.int ((nI 16) / (2 : Int32)), .int x1]) (σ' := (S, M, O)) rfl (by decide) ?_
  refine Ex_go 1 (pc' := if ((nI 16) / (2 : Int32)) ≤ x1 then 27 else 10) (L' := [some (.ref 1006), some (.int x1)]) (st' := []) (σ' := (S, M, O)) (rfl) ?_
  refine Ex_br (fun hc => ?_) (fun hc => ?_)
  · rw [if_pos hc] at hF
    cases hF
    exact Ex_fin rfl
  · rw [if_neg hc] at hF
    refine Ex_go 6 (pc' := 16) (L' := [some (.ref 1006), some (.int x1)]) (st' := [.int (2 : Int32), .int (nI 16), .ref 1006, .int x1, .ref 1006]) (σ' := (S, M, O)) (rfl) ?_
    refine Ex_chk (b := nzI (2 : Int32)) (pc' := 17) (L' := [some (.ref 1006), some (.int x1)]) (st' := [.int ((nI 16) / (2 : Int32)), .ref 1006, .int x1, .ref 1006]) (σ' := (S, M, O)) rfl (by decide) ?_
    refine Ex_go 2 (pc' := 19) (L' := [some (.ref 1006), some (.int x1)]) (st' := [.int (((nI 16) / (2 : Int32)) + x1), .ref 1006, .int x1, .ref 1006]) (σ' := (S, M, O)) (rfl) ?_
    obtain ⟨hc1, hF⟩ := ck_i hF
    refine Ex_chk (b := ib (((nI 16) / (2 : Int32)) + x1) 16) (pc' := 20) (L' := [some (.ref 1006), some (.int x1)]) (st' := [.int (ai M 1006 (Int32.toNatClampNeg (((nI 16) / (2 : Int32)) + x1))), .int x1, .ref 1006]) (σ' := (S, M, O)) rfl hc1 ?_
    obtain ⟨hc2, hF⟩ := ck_i hF
    refine Ex_chk (b := ib x1 16) (pc' := 21) (L' := [some (.ref 1006), some (.int x1)]) (st' := []) (σ' := (S, (ui M 1006 (upd (ai M 1006) (Int32.toNatClampNeg x1) (ai M 1006 (Int32.toNatClampNeg (((nI 16) / (2 : Int32)) + x1))))), O)) rfl hc2 ?_
    refine Ex_go 2 (pc' := 2) (L' := [some (.ref 1006), some (.int (x1 + (1 : Int32)))]) (st' := []) (σ' := (S, (ui M 1006 (upd (ai M 1006) (Int32.toNatClampNeg x1) (ai M 1006 (Int32.toNatClampNeg (((nI 16) / (2 : Int32)) + x1))))), O)) (rfl) ?_
    exact Ex_mono (L := [some (.ref 1006), some (.int (x1 + (1 : Int32)))]) (Le_s (Le_s (Le_0))) (ih _ _ _ _ hF) (Nat.le_refl _) (by omega)
def F_m_takeHalf_1006 (M : Sto) : Option (Unit × Sto) := F_m_takeHalf_1006_2 FU (0 : Int32) M
set_option maxRecDepth 100000 in
theorem X_m_takeHalf_1006 {nL : Nat} {xs : Nat → Int32} {S : Sto} {O : Sto} {d : Nat} (hd : 1 ≤ d) : ∀ (M : Sto) (r : Unit) (M' : Sto), F_m_takeHalf_1006 M = some (r, M') → EX nL xs 0 MI_74 d 0 [some (.ref 1006), none] [] (S, M, O) (.inl none) (S, M', O) := by
  intro M r M' hF
  unfold F_m_takeHalf_1006 at hF
  refine Ex_go 2 (pc' := 2) (L' := [some (.ref 1006), some (.int (0 : Int32))]) (st' := []) (σ' := (S, M, O)) (rfl) ?_
  exact Ex_mono (L := [some (.ref 1006), some (.int (0 : Int32))]) (Le_s (Le_s (Le_0))) (X_m_takeHalf_1006_2 hd FU _ _ _ _ hF) (Nat.le_refl _) (by omega)
def F_m_takeHalf_1007_2 : Nat → Int32 → Sto → Option (Unit × Sto)
  | 0, _, _ => none
  | n + 1, x1, M => if ((nI 1000) / (2 : Int32)) ≤ x1 then some ((), M) else ck (ib (((nI 1000) / (2 : Int32)) + x1) 1000) (ck (ib x1 1000) (F_m_takeHalf_1007_2 n (x1 + (1 : Int32)) (ui M 1007 (upd (ai M 1007) (Int32.toNatClampNeg x1) (ai M 1007 (Int32.toNatClampNeg (((nI 1000) / (2 : Int32)) + x1)))))))
set_option maxRecDepth 100000 in
theorem X_m_takeHalf_1007_2 {nL : Nat} {xs : Nat → Int32} {S : Sto} {O : Sto} {d : Nat} (hd : 1 ≤ d) : ∀ n : Nat, ∀ (x1 : Int32) (M : Sto) (r : Unit) (M' : Sto), F_m_takeHalf_1007_2 n x1 M = some (r, M') → EX nL xs 0 MI_74 d 2 [some (.ref 1007), some (.int x1)] [] (S, M, O) (.inl none) (S, M', O) := by
  intro n
  induction n with
  | zero => intro x1 M r M' hF; cases hF
  | succ n ih =>
  intro x1 M r M' hF
  unfold F_m_takeHalf_1007_2 at hF
  refine Ex_go 4 (pc' := 6) (L' := [some (.ref 1007), some (.int x1)]) (st' := [.int (2 : Int32), .int (nI 1000), .int x1]) (σ' := (S, M, O)) (rfl) ?_
  refine Ex_chk (b := nzI (2 : Int32)) (pc' := 7) (L' := [some (.ref 1007), some (.int x1)]) (st' := [.int ((nI 1000) / (2 : Int32)), .int x1]) (σ' := (S, M, O)) rfl (by decide) ?_
  refine Ex_go 1 (pc' := if ((nI 1000) / (2 : Int32)) ≤ x1 then 27 else 10) (L' := [some (.ref 1007), some (.int x1)]) (st' := []) (σ' := (S, M, O)) (rfl) ?_
  refine Ex_br (fun hc => ?_) (fun hc => ?_)
  · rw [if_pos hc] at hF
    cases hF
    exact Ex_fin rfl
  · rw [if_neg hc] at hF
    refine Ex_go 6 (pc' := 16) (L' := [some (.ref 1007), some (.int x1)]) (st' := [.int (2 : Int32), .int (nI 1000), .ref 1007, .int x1, .ref 1007]) (σ' := (S, M, O)) (rfl) ?_
    refine Ex_chk (b := nzI (2 : Int32)) (pc' := 17) (L' := [some (.ref 1007), some (.int x1)]) (st' := [.int ((nI 1000) / (2 : Int32)), .ref 1007, .int x1, .ref 1007]) (σ' := (S, M, O)) rfl (by decide) ?_
    refine Ex_go 2 (pc' := 19) (L' := [some (.ref 1007), some (.int x1)]) (st' := [.int (((nI 1000) / (2 : Int32)) + x1), .ref 1007, .int x1, .ref 1007]) (σ' := (S, M, O)) (rfl) ?_
    obtain ⟨hc1, hF⟩ := ck_i hF
    refine Ex_chk (b := ib (((nI 1000) / (2 : Int32)) + x1) 1000) (pc' := 20) (L' := [some (.ref 1007), some (.int x1)]) (st' := [.int (ai M 1007 (Int32.toNatClampNeg (((nI 1000) / (2 : Int32)) + x1))), .int x1, .ref 1007]) (σ' := (S, M, O)) rfl hc1 ?_
    obtain ⟨hc2, hF⟩ := ck_i hF
    refine Ex_chk (b := ib x1 1000) (pc' := 21) (L' := [some (.ref 1007), some (.int x1)]) (st' := []) (σ' := (S, (ui M 1007 (upd (ai M 1007) (Int32.toNatClampNeg x1) (ai M 1007 (Int32.toNatClampNeg (((nI 1000) / (2 : Int32)) + x1))))), O)) rfl hc2 ?_
    refine Ex_go 2 (pc' := 2) (L' := [some (.ref 1007), some (.int (x1 + (1 : Int32)))]) (st' := []) (σ' := (S, (ui M 1007 (upd (ai M 1007) (Int32.toNatClampNeg x1) (ai M 1007 (Int32.toNatClampNeg (((nI 1000) / (2 : Int32)) + x1))))), O)) (rfl) ?_
    exact Ex_mono (L := [some (.ref 1007), some (.int (x1 + (1 : Int32)))]) (Le_s (Le_s (Le_0))) (ih _ _ _ _ hF) (Nat.le_refl _) (by omega)
def F_m_takeHalf_1007 (M : Sto) : Option (Unit × Sto) := F_m_takeHalf_1007_2 FU (0 : Int32) M
set_option maxRecDepth 100000 in
theorem X_m_takeHalf_1007 {nL : Nat} {xs : Nat → Int32} {S : Sto} {O : Sto} {d : Nat} (hd : 1 ≤ d) : ∀ (M : Sto) (r : Unit) (M' : Sto), F_m_takeHalf_1007 M = some (r, M') → EX nL xs 0 MI_74 d 0 [some (.ref 1007), none] [] (S, M, O) (.inl none) (S, M', O) := by
  intro M r M' hF
  unfold F_m_takeHalf_1007 at hF
  refine Ex_go 2 (pc' := 2) (L' := [some (.ref 1007), some (.int (0 : Int32))]) (st' := []) (σ' := (S, M, O)) (rfl) ?_
  exact Ex_mono (L := [some (.ref 1007), some (.int (0 : Int32))]) (Le_s (Le_s (Le_0))) (X_m_takeHalf_1007_2 hd FU _ _ _ _ hF) (Nat.le_refl _) (by omega)
def F_m_takeOver_37 : Nat → Int32 → Sto → Option (Unit × Sto)
  | 0, _, _ => none
  | n + 1, x1, M => if (8 : Int32) ≤ x1 then some ((), (si (si (si (si (si (si (sl (si (sl (sl M 1013 (1 : Int64)) 1014 (1000 : Int64)) 1016 (0 : Int32)) 1015 (gl (si (sl (sl M 1013 (1 : Int64)) 1014 (1000 : Int64)) 1016 (0 : Int32)) 1002)) 1017 (0 : Int32)) 1018 (0 : Int32)) 1020 (0 : Int32)) 1019 (0 : Int32)) 1021 (0 : Int32)) 1029 (0 : Int32))) else ck (ib ((8 : Int32) + x1) 16) (ck (ib x1 16) (ck (ib ((8 : Int32) + x1) 16) (ck (ib x1 16) (F_m_takeOver_37 n (x1 + (1 : Int32)) (ul (ul M 1009 (vp_updL (al M 1009) (Int32.toNatClampNeg x1) (al M 1009 (Int32.toNatClampNeg ((8 : Int32) + x1))))) 1010 (vp_updL (al (ul M 1009 (vp_updL (al M 1009) (Int32.toNatClampNeg x1) (al M 1009 (Int32.toNatClampNeg ((8 : Int32) + x1))))) 1010) (Int32.toNatClampNeg x1) (al (ul M 1009 (vp_updL (al M 1009) (Int32.toNatClampNeg x1) (al M 1009 (Int32.toNatClampNeg ((8 : Int32) + x1))))) 1010 (Int32.toNatClampNeg ((8 : Int32) + x1)))))))))
set_option maxRecDepth 100000 in
theorem X_m_takeOver_37 {nL : Nat} {xs : Nat → Int32} {S : Sto} {O : Sto} {d : Nat} (hd : 2 ≤ d) : ∀ n : Nat, ∀ (x1 : Int32) (M : Sto) (r : Unit) (M' : Sto), F_m_takeOver_37 n x1 M = some (r, M') → EX nL xs 0 MI_75 d 37 [some (.ref 1000), some (.int x1)] [] (S, M, O) (.inl none) (S, M', O) := by
  intro n
  induction n with
  | zero => intro x1 M r M' hF; cases hF
  | succ n ih =>
  intro x1 M r M' hF
  unfold F_m_takeOver_37 at hF
  refine Ex_go 3 (pc' := if (8 : Int32) ≤ x1 then 79 else 43) (L' := [some (.ref 1000), some (.int x1)]) (st' := []) (σ' := (S, M, O)) (rfl) ?_
  refine Ex_br (fun hc => ?_) (fun hc => ?_)
  · rw [if_pos hc] at hF
    refine Ex_go 10 (pc' := 97) (L' := [some (.ref 1000), some (.int x1)]) (st' := [.ref 1000]) (σ' := (S, (si (sl (sl M 1013 (1 : Int64)) 1014 (1000 : Int64)) 1016 (0 : Int32)), O)) (rfl) ?_
    refine Ex_go 10 (pc' := 115) (L' := [some (.ref 1000), some (.int x1)]) (st' := [.ref 1000]) (σ' := (S, (si (si (sl (si (sl (sl M 1013 (1 : Int64)) 1014 (1000 : Int64)) 1016 (0 : Int32)) 1015 (gl (si (sl (sl M 1013 (1 : Int64)) 1014 (1000 : Int64)) 1016 (0 : Int32)) 1002)) 1017 (0 : Int32)) 1018 (0 : Int32)), O)) (rfl) ?_
    refine Ex_go 10 (pc' := 131) (L' := [some (.ref 1000), some (.int x1)]) (st' := [.int (0 : Int32), .ref 1000]) (σ' := (S, (si (si (si (si (si (sl (si (sl (sl M 1013 (1 : Int64)) 1014 (1000 : Int64)) 1016 (0 : Int32)) 1015 (gl (si (sl (sl M 1013 (1 : Int64)) 1014 (1000 : Int64)) 1016 (0 : Int32)) 1002)) 1017 (0 : Int32)) 1018 (0 : Int32)) 1020 (0 : Int32)) 1019 (0 : Int32)) 1021 (0 : Int32)), O)) (rfl) ?_
    refine Ex_chk (b := b01 (0 : Int32)) (pc' := 134) (L' := [some (.ref 1000), some (.int x1)]) (st' := []) (σ' := (S, (si (si (si (si (si (si (sl (si (sl (sl M 1013 (1 : Int64)) 1014 (1000 : Int64)) 1016 (0 : Int32)) 1015 (gl (si (sl (sl M 1013 (1 : Int64)) 1014 (1000 : Int64)) 1016 (0 : Int32)) 1002)) 1017 (0 : Int32)) 1018 (0 : Int32)) 1020 (0 : Int32)) 1019 (0 : Int32)) 1021 (0 : Int32)) 1029 (0 : Int32)), O)) rfl (by decide) ?_
    cases hF
    exact Ex_fin rfl
  · rw [if_neg hc] at hF
    refine Ex_go 8 (pc' := 56) (L' := [some (.ref 1000), some (.int x1)]) (st' := [.int ((8 : Int32) + x1), .ref 1009, .int x1, .ref 1009]) (σ' := (S, M, O)) (rfl) ?_
    obtain ⟨hc1, hF⟩ := ck_i hF
    refine Ex_chk (b := ib ((8 : Int32) + x1) 16) (pc' := 57) (L' := [some (.ref 1000), some (.int x1)]) (st' := [.long (al M 1009 (Int32.toNatClampNeg ((8 : Int32) + x1))), .int x1, .ref 1009]) (σ' := (S, M, O)) rfl hc1 ?_
    obtain ⟨hc2, hF⟩ := ck_i hF
    refine Ex_chk (b := ib x1 16) (pc' := 58) (L' := [some (.ref 1000), some (.int x1)]) (st' := []) (σ' := (S, (ul M 1009 (vp_updL (al M 1009) (Int32.toNatClampNeg x1) (al M 1009 (Int32.toNatClampNeg ((8 : Int32) + x1))))), O)) rfl hc2 ?_
    refine Ex_go 8 (pc' := 71) (L' := [some (.ref 1000), some (.int x1)]) (st' := [.int ((8 : Int32) + x1), .ref 1010, .int x1, .ref 1010]) (σ' := (S, (ul M 1009 (vp_updL (al M 1009) (Int32.toNatClampNeg x1) (al M 1009 (Int32.toNatClampNeg ((8 : Int32) + x1))))), O)) (rfl) ?_
    obtain ⟨hc3, hF⟩ := ck_i hF
    refine Ex_chk (b := ib ((8 : Int32) + x1) 16) (pc' := 72) (L' := [some (.ref 1000), some (.int x1)]) (st' := [.long (al (ul M 1009 (vp_updL (al M 1009) (Int32.toNatClampNeg x1) (al M 1009 (Int32.toNatClampNeg ((8 : Int32) + x1))))) 1010 (Int32.toNatClampNeg ((8 : Int32) + x1))), .int x1, .ref 1010]) (σ' := (S, (ul M 1009 (vp_updL (al M 1009) (Int32.toNatClampNeg x1) (al M 1009 (Int32.toNatClampNeg ((8 : Int32) + x1))))), O)) rfl hc3 ?_
    obtain ⟨hc4, hF⟩ := ck_i hF
    refine Ex_chk (b := ib x1 16) (pc' := 73) (L' := [some (.ref 1000), some (.int x1)]) (st' := []) (σ' := (S, (ul (ul M 1009 (vp_updL (al M 1009) (Int32.toNatClampNeg x1) (al M 1009 (Int32.toNatClampNeg ((8 : Int32) + x1))))) 1010 (vp_updL (al (ul M 1009 (vp_updL (al M 1009) (Int32.toNatClampNeg x1) (al M 1009 (Int32.toNatClampNeg ((8 : Int32) + x1))))) 1010) (Int32.toNatClampNeg x1) (al (ul M 1009 (vp_updL (al M 1009) (Int32.toNatClampNeg x1) (al M 1009 (Int32.toNatClampNeg ((8 : Int32) + x1))))) 1010 (Int32.toNatClampNeg ((8 : Int32) + x1))))), O)) rfl hc4 ?_
    refine Ex_go 2 (pc' := 37) (L' := [some (.ref 1000), some (.int (x1 + (1 : Int32)))]) (st' := []) (σ' := (S, (ul (ul M 1009 (vp_updL (al M 1009) (Int32.toNatClampNeg x1) (al M 1009 (Int32.toNatClampNeg ((8 : Int32) + x1))))) 1010 (vp_updL (al (ul M 1009 (vp_updL (al M 1009) (Int32.toNatClampNeg x1) (al M 1009 (Int32.toNatClampNeg ((8 : Int32) + x1))))) 1010) (Int32.toNatClampNeg x1) (al (ul M 1009 (vp_updL (al M 1009) (Int32.toNatClampNeg x1) (al M 1009 (Int32.toNatClampNeg ((8 : Int32) + x1))))) 1010 (Int32.toNatClampNeg ((8 : Int32) + x1))))), O)) (rfl) ?_
    exact Ex_mono (L := [some (.ref 1000), some (.int (x1 + (1 : Int32)))]) (Le_s (Le_s (Le_0))) (ih _ _ _ _ hF) (Nat.le_refl _) (by omega)
def F_m_takeOver (M : Sto) : Option (Unit × Sto) := b2 (F_m_takeHalf_1003 M) (fun r1 M3 => b2 (F_m_takeHalf_1004 M3) (fun r4 M6 => b2 (F_m_takeHalf_1005 M6) (fun r7 M9 => b2 (F_m_takeHalf_1006 M9) (fun r10 M12 => b2 (F_m_takeHalf_1007 M12) (fun r13 M15 => F_m_takeOver_37 FU (0 : Int32) M15)))))
set_option maxRecDepth 100000 in
theorem X_m_takeOver {nL : Nat} {xs : Nat → Int32} {S : Sto} {O : Sto} {d : Nat} (hd : 2 ≤ d) : ∀ (M : Sto) (r : Unit) (M' : Sto), F_m_takeOver M = some (r, M') → EX nL xs 0 MI_75 d 0 [some (.ref 1000), none] [] (S, M, O) (.inl none) (S, M', O) := by
  intro M r M' hF
  unfold F_m_takeOver at hF
  refine Ex_go 2 (pc' := 4) (L' := [some (.ref 1000), none]) (st' := [.ref 1003]) (σ' := (S, M, O)) (rfl) ?_
  obtain ⟨r1, M3, hx2, hF⟩ := b2_i hF
  refine Ex_call (kind := 0) (y := 74) (as := [.ref 1003]) (rest := []) (L0 := [some (.ref 1003), none]) (d' := 1) (v := none) (σ1 := (S, M3, O)) rfl rfl mt_74 rfl rfl (by omega) (X_m_takeHalf_1003 (Nat.le_refl _) _ _ _ hx2) (Ex_st (st2 := []) rfl ?_)
  refine Ex_go 2 (pc' := 11) (L' := [some (.ref 1000), none]) (st' := [.ref 1004]) (σ' := (S, M3, O)) (rfl) ?_
  obtain ⟨r4, M6, hx5, hF⟩ := b2_i hF
  refine Ex_call (kind := 0) (y := 74) (as := [.ref 1004]) (rest := []) (L0 := [some (.ref 1004), none]) (d' := 1) (v := none) (σ1 := (S, M6, O)) rfl rfl mt_74 rfl rfl (by omega) (X_m_takeHalf_1004 (Nat.le_refl _) _ _ _ hx5) (Ex_st (st2 := []) rfl ?_)
  refine Ex_go 2 (pc' := 18) (L' := [some (.ref 1000), none]) (st' := [.ref 1005]) (σ' := (S, M6, O)) (rfl) ?_
  obtain ⟨r7, M9, hx8, hF⟩ := b2_i hF
  refine Ex_call (kind := 0) (y := 74) (as := [.ref 1005]) (rest := []) (L0 := [some (.ref 1005), none]) (d' := 1) (v := none) (σ1 := (S, M9, O)) rfl rfl mt_74 rfl rfl (by omega) (X_m_takeHalf_1005 (Nat.le_refl _) _ _ _ hx8) (Ex_st (st2 := []) rfl ?_)
  refine Ex_go 2 (pc' := 25) (L' := [some (.ref 1000), none]) (st' := [.ref 1006]) (σ' := (S, M9, O)) (rfl) ?_
  obtain ⟨r10, M12, hx11, hF⟩ := b2_i hF
  refine Ex_call (kind := 0) (y := 74) (as := [.ref 1006]) (rest := []) (L0 := [some (.ref 1006), none]) (d' := 1) (v := none) (σ1 := (S, M12, O)) rfl rfl mt_74 rfl rfl (by omega) (X_m_takeHalf_1006 (Nat.le_refl _) _ _ _ hx11) (Ex_st (st2 := []) rfl ?_)
  refine Ex_go 2 (pc' := 32) (L' := [some (.ref 1000), none]) (st' := [.ref 1007]) (σ' := (S, M12, O)) (rfl) ?_
  obtain ⟨r13, M15, hx14, hF⟩ := b2_i hF
  refine Ex_call (kind := 0) (y := 74) (as := [.ref 1007]) (rest := []) (L0 := [some (.ref 1007), none]) (d' := 1) (v := none) (σ1 := (S, M15, O)) rfl rfl mt_74 rfl rfl (by omega) (X_m_takeHalf_1007 (Nat.le_refl _) _ _ _ hx14) (Ex_st (st2 := []) rfl ?_)
  refine Ex_go 2 (pc' := 37) (L' := [some (.ref 1000), some (.int (0 : Int32))]) (st' := []) (σ' := (S, M15, O)) (rfl) ?_
  exact Ex_mono (L := [some (.ref 1000), some (.int (0 : Int32))]) (Le_s (Le_s (Le_0))) (X_m_takeOver_37 hd FU _ _ _ _ hF) (Nat.le_refl _) (by omega)
def F_m_is_75 (k39 : Nat → Int32 → Int32 → Sto → Option Int32) (p1 : Nat) (x3 : Int32) (s0 : Int32) (M : Sto) : Option Int32 := k39 p1 s0 (x3 + (1 : Int32)) M
set_option maxRecDepth 100000 in
theorem X_m_is_75 {nL : Nat} {xs : Nat → Int32} {S : Sto} {O : Sto} {d : Nat} (hd : 6 ≤ d) {k39 : Nat → Int32 → Int32 → Sto → Option Int32} (hk39 : ∀ (p1 : Nat) (x2 : Int32) (x3 : Int32) (M : Sto) (r : Int32), isS p1 → k39 p1 x2 x3 M = some r → EX nL xs 0 MI_56 d 39 [some (.ref 1000), some (.ref p1), some (.int x2), some (.int x3)] [] (S, M, O) (.inl (some (.int r))) (S, M, O)) : ∀ (p1 : Nat) (x3 : Int32) (s0 : Int32) (M : Sto) (r : Int32), isS p1 → F_m_is_75 k39 p1 x3 s0 M = some r → EX nL xs 0 MI_56 d 75 [some (.ref 1000), some (.ref p1), none, some (.int x3)] [.int s0] (S, M, O) (.inl (some (.int r))) (S, M, O) := by
  intro p1 x3 s0 M r hp1 hF
  unfold F_m_is_75 at hF
  refine Ex_go 3 (pc' := 39) (L' := [some (.ref 1000), some (.ref p1), some (.int s0), some (.int (x3 + (1 : Int32)))]) (st' := []) (σ' := (S, M, O)) (rfl) ?_
  exact Ex_mono (L := [some (.ref 1000), some (.ref p1), some (.int s0), some (.int (x3 + (1 : Int32)))]) (Le_s (Le_s (Le_s (Le_s (Le_0))))) (hk39 _ _ _ _ _ hp1 hF) (Nat.le_refl _) (by omega)
def F_m_is_39 : Nat → Nat → Int32 → Int32 → Sto → Option Int32
  | 0, _, _, _, _ => none
  | n + 1, p1, x2, x3, M => if x2 = 0 then ck (b01 x2) (some x2) else if (sln p1) ≤ x3 then ck (b01 x2) (some x2) else ck (ib x3 (stl p1)) (ck (ib ((gi M 1008) + x3) 500) (if (sch p1 x3) = (ai M 1011 (Int32.toNatClampNeg ((gi M 1008) + x3))) then F_m_is_75 (F_m_is_39 n) p1 x3 (1 : Int32) M else F_m_is_75 (F_m_is_39 n) p1 x3 (0 : Int32) M))
set_option maxRecDepth 100000 in
theorem X_m_is_39 {nL : Nat} {xs : Nat → Int32} {S : Sto} {O : Sto} {d : Nat} (hd : 6 ≤ d) : ∀ n : Nat, ∀ (p1 : Nat) (x2 : Int32) (x3 : Int32) (M : Sto) (r : Int32), isS p1 → F_m_is_39 n p1 x2 x3 M = some r → EX nL xs 0 MI_56 d 39 [some (.ref 1000), some (.ref p1), some (.int x2), some (.int x3)] [] (S, M, O) (.inl (some (.int r))) (S, M, O) := by
  intro n
  induction n with
  | zero => intro p1 x2 x3 M r hp1 hF; cases hF
  | succ n ih =>
  intro p1 x2 x3 M r hp1 hF
  unfold F_m_is_39 at hF
  refine Ex_go 2 (pc' := if x2 = 0 then 82 else 43) (L' := [some (.ref 1000), some (.ref p1), some (.int x2), some (.int x3)]) (st' := []) (σ' := (S, M, O)) (rfl) ?_
  refine Ex_br (fun hc => ?_) (fun hc => ?_)
  · rw [if_pos hc] at hF
    refine Ex_go 1 (pc' := 83) (L' := [some (.ref 1000), some (.ref p1), some (.int x2), some (.int x3)]) (st' := [.int x2]) (σ' := (S, M, O)) (rfl) ?_
    obtain ⟨hc1, hF⟩ := ck_i hF
    cases hF
    exact Ex_finZ (by exact rfl) hc1
  · rw [if_neg hc] at hF
    refine Ex_go 2 (pc' := 45) (L' := [some (.ref 1000), some (.ref p1), some (.int x2), some (.int x3)]) (st' := [.ref p1, .int x3]) (σ' := (S, M, O)) (rfl) ?_
    refine Ex_blt (kind := 7) (y := 0) (as := [.ref p1]) (rest := [.int x3]) (v := .int (sln p1)) rfl (blt_len hp1) (by omega) ?_
    refine Ex_go 1 (pc' := if (sln p1) ≤ x3 then 82 else 51) (L' := [some (.ref 1000), some (.ref p1), some (.int x2), some (.int x3)]) (st' := []) (σ' := (S, M, O)) (rfl) ?_
    refine Ex_br (fun hc => ?_) (fun hc => ?_)
    · rw [if_pos hc] at hF
      refine Ex_go 1 (pc' := 83) (L' := [some (.ref 1000), some (.ref p1), some (.int x2), some (.int x3)]) (st' := [.int x2]) (σ' := (S, M, O)) (rfl) ?_
      obtain ⟨hc2, hF⟩ := ck_i hF
      cases hF
      exact Ex_finZ (by exact rfl) hc2
    · rw [if_neg hc] at hF
      refine Ex_go 2 (pc' := 53) (L' := [some (.ref 1000), some (.ref p1), some (.int x2), some (.int x3)]) (st' := [.int x3, .ref p1]) (σ' := (S, M, O)) (rfl) ?_
      obtain ⟨hc3, hF⟩ := ck_i hF
      refine Ex_blt (kind := 8) (y := 0) (as := [.ref p1, .int x3]) (rest := []) (v := .int (sch p1 x3)) rfl (blt_chr hp1 hc3) (by omega) ?_
      refine Ex_go 6 (pc' := 66) (L' := [some (.ref 1000), some (.ref p1), some (.int x2), some (.int x3)]) (st' := [.int ((gi M 1008) + x3), .ref 1011, .int (sch p1 x3)]) (σ' := (S, M, O)) (rfl) ?_
      obtain ⟨hc4, hF⟩ := ck_i hF
      refine Ex_chk (b := ib ((gi M 1008) + x3) 500) (pc' := 67) (L' := [some (.ref 1000), some (.ref p1), some (.int x2), some (.int x3)]) (st' := [.int (ai M 1011 (Int32.toNatClampNeg ((gi M 1008) + x3))), .int (sch p1 x3)]) (σ' := (S, M, O)) rfl hc4 ?_
      refine Ex_go 1 (pc' := if ¬ (sch p1 x3) = (ai M 1011 (Int32.toNatClampNeg ((gi M 1008) + x3))) then 74 else 70) (L' := [some (.ref 1000), some (.ref p1), some (.int x2), some (.int x3)]) (st' := []) (σ' := (S, M, O)) (rfl) ?_
      refine Ex_brN (fun hc => ?_) (fun hc => ?_)
      · rw [if_pos hc] at hF
        refine Ex_go 2 (pc' := 75) (L' := [some (.ref 1000), some (.ref p1), some (.int x2), some (.int x3)]) (st' := [.int (1 : Int32)]) (σ' := (S, M, O)) (rfl) ?_
        exact Ex_mono (L := [some (.ref 1000), some (.ref p1), none, some (.int x3)]) (Le_s (Le_s (Le_n (Le_s (Le_0))))) (X_m_is_75 hd ih _ _ _ _ _ hp1 hF) (Nat.le_refl _) (by omega)
      · rw [if_neg hc] at hF
        refine Ex_go 1 (pc' := 75) (L' := [some (.ref 1000), some (.ref p1), some (.int x2), some (.int x3)]) (st' := [.int (0 : Int32)]) (σ' := (S, M, O)) (rfl) ?_
        exact Ex_mono (L := [some (.ref 1000), some (.ref p1), none, some (.int x3)]) (Le_s (Le_s (Le_n (Le_s (Le_0))))) (X_m_is_75 hd ih _ _ _ _ _ hp1 hF) (Nat.le_refl _) (by omega)
def F_m_is_36 (p1 : Nat) (s0 : Int32) (M : Sto) : Option Int32 := F_m_is_39 FU p1 s0 (0 : Int32) M
set_option maxRecDepth 100000 in
theorem X_m_is_36 {nL : Nat} {xs : Nat → Int32} {S : Sto} {O : Sto} {d : Nat} (hd : 6 ≤ d) : ∀ (p1 : Nat) (s0 : Int32) (M : Sto) (r : Int32), isS p1 → F_m_is_36 p1 s0 M = some r → EX nL xs 0 MI_56 d 36 [some (.ref 1000), some (.ref p1), none, none] [.int s0] (S, M, O) (.inl (some (.int r))) (S, M, O) := by
  intro p1 s0 M r hp1 hF
  unfold F_m_is_36 at hF
  refine Ex_go 3 (pc' := 39) (L' := [some (.ref 1000), some (.ref p1), some (.int s0), some (.int (0 : Int32))]) (st' := []) (σ' := (S, M, O)) (rfl) ?_
  exact Ex_mono (L := [some (.ref 1000), some (.ref p1), some (.int s0), some (.int (0 : Int32))]) (Le_s (Le_s (Le_s (Le_s (Le_0))))) (X_m_is_39 hd FU _ _ _ _ _ hp1 hF) (Nat.le_refl _) (by omega)
def F_m_is_35 (p1 : Nat) (M : Sto) : Option Int32 := F_m_is_36 p1 (0 : Int32) M
set_option maxRecDepth 100000 in
theorem X_m_is_35 {nL : Nat} {xs : Nat → Int32} {S : Sto} {O : Sto} {d : Nat} (hd : 6 ≤ d) : ∀ (p1 : Nat) (M : Sto) (r : Int32), isS p1 → F_m_is_35 p1 M = some r → EX nL xs 0 MI_56 d 35 [some (.ref 1000), some (.ref p1), none, none] [] (S, M, O) (.inl (some (.int r))) (S, M, O) := by
  intro p1 M r hp1 hF
  unfold F_m_is_35 at hF
  refine Ex_go 1 (pc' := 36) (L' := [some (.ref 1000), some (.ref p1), none, none]) (st' := [.int (0 : Int32)]) (σ' := (S, M, O)) (rfl) ?_
  exact Ex_mono (L := [some (.ref 1000), some (.ref p1), none, none]) (Le_s (Le_s (Le_n (Le_n (Le_0))))) (X_m_is_36 hd _ _ _ _ hp1 hF) (Nat.le_refl _) (by omega)
def F_m_is (p1 : Nat) (M : Sto) : Option Int32 := if (gi M 1010) = 0 then if (gi M 1006) = (1 : Int32) then if (sln p1) = ((gi M 1009) - (gi M 1008)) then F_m_is_36 p1 (1 : Int32) M else F_m_is_35 p1 M else F_m_is_35 p1 M else F_m_is_35 p1 M
set_option maxRecDepth 100000 in
theorem X_m_is {nL : Nat} {xs : Nat → Int32} {S : Sto} {O : Sto} {d : Nat} (hd : 6 ≤ d) : ∀ (p1 : Nat) (M : Sto) (r : Int32), isS p1 → F_m_is p1 M = some r → EX nL xs 0 MI_56 d 0 [some (.ref 1000), some (.ref p1), none, none] [] (S, M, O) (.inl (some (.int r))) (S, M, O) := by
  intro p1 M r hp1 hF
  unfold F_m_is at hF
  refine Ex_go 3 (pc' := if ¬ (gi M 1010) = 0 then 35 else 7) (L' := [some (.ref 1000), some (.ref p1), none, none]) (st' := []) (σ' := (S, M, O)) (rfl) ?_
  refine Ex_brN (fun hc => ?_) (fun hc => ?_)
  · rw [if_pos hc] at hF
    refine Ex_go 4 (pc' := if ¬ (gi M 1006) = (1 : Int32) then 35 else 15) (L' := [some (.ref 1000), some (.ref p1), none, none]) (st' := []) (σ' := (S, M, O)) (rfl) ?_
    refine Ex_brN (fun hc => ?_) (fun hc => ?_)
    · rw [if_pos hc] at hF
      refine Ex_go 1 (pc' := 16) (L' := [some (.ref 1000), some (.ref p1), none, none]) (st' := [.ref p1]) (σ' := (S, M, O)) (rfl) ?_
      refine Ex_blt (kind := 7) (y := 0) (as := [.ref p1]) (rest := []) (v := .int (sln p1)) rfl (blt_len hp1) (by omega) ?_
      refine Ex_go 6 (pc' := if ¬ (sln p1) = ((gi M 1009) - (gi M 1008)) then 35 else 31) (L' := [some (.ref 1000), some (.ref p1), none, none]) (st' := []) (σ' := (S, M, O)) (rfl) ?_
      refine Ex_brN (fun hc => ?_) (fun hc => ?_)
      · rw [if_pos hc] at hF
        refine Ex_go 2 (pc' := 36) (L' := [some (.ref 1000), some (.ref p1), none, none]) (st' := [.int (1 : Int32)]) (σ' := (S, M, O)) (rfl) ?_
        exact Ex_mono (L := [some (.ref 1000), some (.ref p1), none, none]) (Le_s (Le_s (Le_n (Le_n (Le_0))))) (X_m_is_36 hd _ _ _ _ hp1 hF) (Nat.le_refl _) (by omega)
      · rw [if_neg hc] at hF
        exact Ex_mono (L := [some (.ref 1000), some (.ref p1), none, none]) (Le_s (Le_s (Le_n (Le_n (Le_0))))) (X_m_is_35 hd _ _ _ hp1 hF) (Nat.le_refl _) (by omega)
    · rw [if_neg hc] at hF
      exact Ex_mono (L := [some (.ref 1000), some (.ref p1), none, none]) (Le_s (Le_s (Le_n (Le_n (Le_0))))) (X_m_is_35 hd _ _ _ hp1 hF) (Nat.le_refl _) (by omega)
  · rw [if_neg hc] at hF
    exact Ex_mono (L := [some (.ref 1000), some (.ref p1), none, none]) (Le_s (Le_s (Le_n (Le_n (Le_0))))) (X_m_is_35 hd _ _ _ hp1 hF) (Nat.le_refl _) (by omega)
def F_m_which_1000_1001_2 : Nat → Int32 → Sto → Option Int32
  | 0, _, _ => none
  | n + 1, x2, M => if (nI 5) ≤ x2 then some (-1 : Int32) else ck (ib x2 5) (b1 (F_m_is (3000 + (Int32.toNatClampNeg x2)) M) (fun r2 => if r2 = 0 then F_m_which_1000_1001_2 n (x2 + (1 : Int32)) M else some x2))
set_option maxRecDepth 100000 in
theorem X_m_which_1000_1001_2 {nL : Nat} {xs : Nat → Int32} {S : Sto} {O : Sto} {d : Nat} (hd : 7 ≤ d) : ∀ n : Nat, ∀ (x2 : Int32) (M : Sto) (r : Int32), F_m_which_1000_1001_2 n x2 M = some r → EX nL xs 0 MI_57 d 2 [some (.ref 1000), some (.ref 1001), some (.int x2)] [] (S, M, O) (.inl (some (.int r))) (S, M, O) := by
  intro n
  induction n with
  | zero => intro x2 M r hF; cases hF
  | succ n ih =>
  intro x2 M r hF
  unfold F_m_which_1000_1001_2 at hF
  refine Ex_go 4 (pc' := if (nI 5) ≤ x2 then 26 else 8) (L' := [some (.ref 1000), some (.ref 1001), some (.int x2)]) (st' := []) (σ' := (S, M, O)) (rfl) ?_
  refine Ex_br (fun hc => ?_) (fun hc => ?_)
  · rw [if_pos hc] at hF
    refine Ex_go 1 (pc' := 27) (L' := [some (.ref 1000), some (.ref 1001), some (.int x2)]) (st' := [.int (-1 : Int32)]) (σ' := (S, M, O)) (rfl) ?_
    cases hF
    exact Ex_fin rfl
  · rw [if_neg hc] at hF
    refine Ex_go 3 (pc' := 11) (L' := [some (.ref 1000), some (.ref 1001), some (.int x2)]) (st' := [.int x2, .ref 1001, .ref 1000]) (σ' := (S, M, O)) (rfl) ?_
    obtain ⟨hc1, hF⟩ := ck_i hF
    refine Ex_chk (b := ib x2 5) (pc' := 12) (L' := [some (.ref 1000), some (.ref 1001), some (.int x2)]) (st' := [.ref (3000 + (Int32.toNatClampNeg x2)), .ref 1000]) (σ' := (S, M, O)) rfl hc1 ?_
    obtain ⟨r2, hx3, hF⟩ := b1_i hF
    refine Ex_call (kind := 2) (y := 56) (as := [.ref 1000, .ref (3000 + (Int32.toNatClampNeg x2))]) (rest := []) (L0 := [some (.ref 1000), some (.ref (3000 + (Int32.toNatClampNeg x2))), none, none]) (d' := 6) (v := some (.int r2)) (σ1 := (S, M, O)) rfl rfl mt_56 rfl rfl (by omega) (X_m_is (Nat.le_refl _) _ _ _ (isS_5 hc1) hx3) (Ex_st (st2 := [.int r2]) rfl ?_)
    refine Ex_go 1 (pc' := if r2 = 0 then 20 else 18) (L' := [some (.ref 1000), some (.ref 1001), some (.int x2)]) (st' := []) (σ' := (S, M, O)) (rfl) ?_
    refine Ex_br (fun hc => ?_) (fun hc => ?_)
    · rw [if_pos hc] at hF
      refine Ex_go 2 (pc' := 2) (L' := [some (.ref 1000), some (.ref 1001), some (.int (x2 + (1 : Int32)))]) (st' := []) (σ' := (S, M, O)) (rfl) ?_
      exact Ex_mono (L := [some (.ref 1000), some (.ref 1001), some (.int (x2 + (1 : Int32)))]) (Le_s (Le_s (Le_s (Le_0)))) (ih _ _ _ hF) (Nat.le_refl _) (by omega)
    · rw [if_neg hc] at hF
      refine Ex_go 1 (pc' := 19) (L' := [some (.ref 1000), some (.ref 1001), some (.int x2)]) (st' := [.int x2]) (σ' := (S, M, O)) (rfl) ?_
      cases hF
      exact Ex_fin rfl
def F_m_which_1000_1001 (M : Sto) : Option Int32 := F_m_which_1000_1001_2 FU (0 : Int32) M
set_option maxRecDepth 100000 in
theorem X_m_which_1000_1001 {nL : Nat} {xs : Nat → Int32} {S : Sto} {O : Sto} {d : Nat} (hd : 7 ≤ d) : ∀ (M : Sto) (r : Int32), F_m_which_1000_1001 M = some r → EX nL xs 0 MI_57 d 0 [some (.ref 1000), some (.ref 1001), none] [] (S, M, O) (.inl (some (.int r))) (S, M, O) := by
  intro M r hF
  unfold F_m_which_1000_1001 at hF
  refine Ex_go 2 (pc' := 2) (L' := [some (.ref 1000), some (.ref 1001), some (.int (0 : Int32))]) (st' := []) (σ' := (S, M, O)) (rfl) ?_
  exact Ex_mono (L := [some (.ref 1000), some (.ref 1001), some (.int (0 : Int32))]) (Le_s (Le_s (Le_s (Le_0)))) (X_m_which_1000_1001_2 hd FU _ _ _ hF) (Nat.le_refl _) (by omega)
def F_m_isMarked (x1 : Int32) (M : Sto) : Option Int32 := if (gi M 1010) = 0 then if (gi M 1006) = (3 : Int32) then ck (ib (gi M 1008) 500) (if (ai M 1011 (Int32.toNatClampNeg (gi M 1008))) = x1 then some (1 : Int32) else some (0 : Int32)) else some (0 : Int32) else some (0 : Int32)
set_option maxRecDepth 100000 in
theorem X_m_isMarked {nL : Nat} {xs : Nat → Int32} {S : Sto} {O : Sto} {d : Nat} (hd : 1 ≤ d) : ∀ (x1 : Int32) (M : Sto) (r : Int32), F_m_isMarked x1 M = some r → EX nL xs 0 MI_64 d 0 [some (.ref 1000), some (.int x1)] [] (S, M, O) (.inl (some (.int r))) (S, M, O) := by
  intro x1 M r hF
  unfold F_m_isMarked at hF
  refine Ex_go 3 (pc' := if ¬ (gi M 1010) = 0 then 32 else 7) (L' := [some (.ref 1000), some (.int x1)]) (st' := []) (σ' := (S, M, O)) (rfl) ?_
  refine Ex_brN (fun hc => ?_) (fun hc => ?_)
  · rw [if_pos hc] at hF
    refine Ex_go 4 (pc' := if ¬ (gi M 1006) = (3 : Int32) then 32 else 15) (L' := [some (.ref 1000), some (.int x1)]) (st' := []) (σ' := (S, M, O)) (rfl) ?_
    refine Ex_brN (fun hc => ?_) (fun hc => ?_)
    · rw [if_pos hc] at hF
      refine Ex_go 4 (pc' := 23) (L' := [some (.ref 1000), some (.int x1)]) (st' := [.int (gi M 1008), .ref 1011]) (σ' := (S, M, O)) (rfl) ?_
      obtain ⟨hc1, hF⟩ := ck_i hF
      refine Ex_chk (b := ib (gi M 1008) 500) (pc' := 24) (L' := [some (.ref 1000), some (.int x1)]) (st' := [.int (ai M 1011 (Int32.toNatClampNeg (gi M 1008)))]) (σ' := (S, M, O)) rfl hc1 ?_
      refine Ex_go 2 (pc' := if ¬ (ai M 1011 (Int32.toNatClampNeg (gi M 1008))) = x1 then 32 else 28) (L' := [some (.ref 1000), some (.int x1)]) (st' := []) (σ' := (S, M, O)) (rfl) ?_
      refine Ex_brN (fun hc => ?_) (fun hc => ?_)
      · rw [if_pos hc] at hF
        refine Ex_go 2 (pc' := 33) (L' := [some (.ref 1000), some (.int x1)]) (st' := [.int (1 : Int32)]) (σ' := (S, M, O)) (rfl) ?_
        cases hF
        exact Ex_fin rfl
      · rw [if_neg hc] at hF
        refine Ex_go 1 (pc' := 33) (L' := [some (.ref 1000), some (.int x1)]) (st' := [.int (0 : Int32)]) (σ' := (S, M, O)) (rfl) ?_
        cases hF
        exact Ex_fin rfl
    · rw [if_neg hc] at hF
      refine Ex_go 1 (pc' := 33) (L' := [some (.ref 1000), some (.int x1)]) (st' := [.int (0 : Int32)]) (σ' := (S, M, O)) (rfl) ?_
      cases hF
      exact Ex_fin rfl
  · rw [if_neg hc] at hF
    refine Ex_go 1 (pc' := 33) (L' := [some (.ref 1000), some (.int x1)]) (st' := [.int (0 : Int32)]) (σ' := (S, M, O)) (rfl) ?_
    cases hF
    exact Ex_fin rfl
def F_m_wrong (x1 : Int32) (M : Sto) : Option (Unit × Sto) := if (gi M 1010) = 0 then some ((), (si (si M 1010 x1) 1011 (gi (si M 1010 x1) 1008))) else some ((), M)
set_option maxRecDepth 100000 in
theorem X_m_wrong {nL : Nat} {xs : Nat → Int32} {S : Sto} {O : Sto} {d : Nat} (hd : 1 ≤ d) : ∀ (x1 : Int32) (M : Sto) (r : Unit) (M' : Sto), F_m_wrong x1 M = some (r, M') → EX nL xs 0 MI_58 d 0 [some (.ref 1000), some (.int x1)] [] (S, M, O) (.inl none) (S, M', O) := by
  intro x1 M r M' hF
  unfold F_m_wrong at hF
  refine Ex_go 3 (pc' := if (gi M 1010) = 0 then 8 else 7) (L' := [some (.ref 1000), some (.int x1)]) (st' := []) (σ' := (S, M, O)) (rfl) ?_
  refine Ex_br (fun hc => ?_) (fun hc => ?_)
  · rw [if_pos hc] at hF
    refine Ex_go 7 (pc' := 21) (L' := [some (.ref 1000), some (.int x1)]) (st' := []) (σ' := (S, (si (si M 1010 x1) 1011 (gi (si M 1010 x1) 1008)), O)) (rfl) ?_
    cases hF
    exact Ex_fin rfl
  · rw [if_neg hc] at hF
    cases hF
    exact Ex_fin rfl
def F_m_mark_20 (M : Sto) : Option (Unit × Sto) := if (gi M 1010) = 0 then b2 (F_m_stepOn M) (fun r1 M3 => some ((), M3)) else some ((), M)
set_option maxRecDepth 100000 in
theorem X_m_mark_20 {nL : Nat} {xs : Nat → Int32} {S : Sto} {O : Sto} {d : Nat} (hd : 7 ≤ d) : ∀ (M : Sto) (r : Unit) (M' : Sto), F_m_mark_20 M = some (r, M') → EX nL xs 0 MI_66 d 20 [some (.ref 1000), none] [] (S, M, O) (.inl none) (S, M', O) := by
  intro M r M' hF
  unfold F_m_mark_20 at hF
  refine Ex_go 3 (pc' := if ¬ (gi M 1010) = 0 then 31 else 27) (L' := [some (.ref 1000), none]) (st' := []) (σ' := (S, M, O)) (rfl) ?_
  refine Ex_brN (fun hc => ?_) (fun hc => ?_)
  · rw [if_pos hc] at hF
    refine Ex_go 1 (pc' := 28) (L' := [some (.ref 1000), none]) (st' := [.ref 1000]) (σ' := (S, M, O)) (rfl) ?_
    obtain ⟨r1, M3, hx2, hF⟩ := b2_i hF
    refine Ex_call (kind := 2) (y := 55) (as := [.ref 1000]) (rest := []) (L0 := [some (.ref 1000), none]) (d' := 6) (v := none) (σ1 := (S, M3, O)) rfl rfl mt_55 rfl rfl (by omega) (X_m_stepOn (Nat.le_refl _) _ _ _ hx2) (Ex_st (st2 := []) rfl ?_)
    cases hF
    exact Ex_fin rfl
  · rw [if_neg hc] at hF
    cases hF
    exact Ex_fin rfl
def F_m_mark (x1 : Int32) (M : Sto) : Option (Unit × Sto) := if (gi M 1010) = 0 then b1 (F_m_isMarked x1 M) (fun r1 => if r1 = 0 then b2 (F_m_wrong (1 : Int32) M) (fun r3 M5 => F_m_mark_20 M5) else F_m_mark_20 M) else F_m_mark_20 M
set_option maxRecDepth 100000 in
theorem X_m_mark {nL : Nat} {xs : Nat → Int32} {S : Sto} {O : Sto} {d : Nat} (hd : 7 ≤ d) : ∀ (x1 : Int32) (M : Sto) (r : Unit) (M' : Sto), F_m_mark x1 M = some (r, M') → EX nL xs 0 MI_66 d 0 [some (.ref 1000), some (.int x1)] [] (S, M, O) (.inl none) (S, M', O) := by
  intro x1 M r M' hF
  unfold F_m_mark at hF
  refine Ex_go 3 (pc' := if ¬ (gi M 1010) = 0 then 20 else 7) (L' := [some (.ref 1000), some (.int x1)]) (st' := []) (σ' := (S, M, O)) (rfl) ?_
  refine Ex_brN (fun hc => ?_) (fun hc => ?_)
  · rw [if_pos hc] at hF
    refine Ex_go 2 (pc' := 9) (L' := [some (.ref 1000), some (.int x1)]) (st' := [.int x1, .ref 1000]) (σ' := (S, M, O)) (rfl) ?_
    obtain ⟨r1, hx2, hF⟩ := b1_i hF
    refine Ex_call (kind := 2) (y := 64) (as := [.ref 1000, .int x1]) (rest := []) (L0 := [some (.ref 1000), some (.int x1)]) (d' := 1) (v := some (.int r1)) (σ1 := (S, M, O)) rfl rfl mt_64 rfl rfl (by omega) (X_m_isMarked (Nat.le_refl _) _ _ _ hx2) (Ex_st (st2 := [.int r1]) rfl ?_)
    refine Ex_go 1 (pc' := if ¬ r1 = 0 then 20 else 15) (L' := [some (.ref 1000), some (.int x1)]) (st' := []) (σ' := (S, M, O)) (rfl) ?_
    refine Ex_brN (fun hc => ?_) (fun hc => ?_)
    · rw [if_pos hc] at hF
      refine Ex_go 2 (pc' := 17) (L' := [some (.ref 1000), some (.int x1)]) (st' := [.int (1 : Int32), .ref 1000]) (σ' := (S, M, O)) (rfl) ?_
      obtain ⟨r3, M5, hx4, hF⟩ := b2_i hF
      refine Ex_call (kind := 2) (y := 58) (as := [.ref 1000, .int (1 : Int32)]) (rest := []) (L0 := [some (.ref 1000), some (.int (1 : Int32))]) (d' := 1) (v := none) (σ1 := (S, M5, O)) rfl rfl mt_58 rfl rfl (by omega) (X_m_wrong (Nat.le_refl _) _ _ _ _ hx4) (Ex_st (st2 := []) rfl ?_)
      exact Ex_mono (L := [some (.ref 1000), none]) (Le_s (Le_n (Le_0))) (X_m_mark_20 hd _ _ _ hF) (Nat.le_refl _) (by omega)
    · rw [if_neg hc] at hF
      exact Ex_mono (L := [some (.ref 1000), none]) (Le_s (Le_n (Le_0))) (X_m_mark_20 hd _ _ _ hF) (Nat.le_refl _) (by omega)
  · rw [if_neg hc] at hF
    exact Ex_mono (L := [some (.ref 1000), none]) (Le_s (Le_n (Le_0))) (X_m_mark_20 hd _ _ _ hF) (Nat.le_refl _) (by omega)
def F_m_which_1000_1002_2 : Nat → Int32 → Sto → Option Int32
  | 0, _, _ => none
  | n + 1, x2, M => if (nI 7) ≤ x2 then some (-1 : Int32) else ck (ib x2 7) (b1 (F_m_is (3005 + (Int32.toNatClampNeg x2)) M) (fun r2 => if r2 = 0 then F_m_which_1000_1002_2 n (x2 + (1 : Int32)) M else some x2))
set_option maxRecDepth 100000 in
theorem X_m_which_1000_1002_2 {nL : Nat} {xs : Nat → Int32} {S : Sto} {O : Sto} {d : Nat} (hd : 7 ≤ d) : ∀ n : Nat, ∀ (x2 : Int32) (M : Sto) (r : Int32), F_m_which_1000_1002_2 n x2 M = some r → EX nL xs 0 MI_57 d 2 [some (.ref 1000), some (.ref 1002), some (.int x2)] [] (S, M, O) (.inl (some (.int r))) (S, M, O) := by
  intro n
  induction n with
  | zero => intro x2 M r hF; cases hF
  | succ n ih =>
  intro x2 M r hF
  unfold F_m_which_1000_1002_2 at hF
  refine Ex_go 4 (pc' := if (nI 7) ≤ x2 then 26 else 8) (L' := [some (.ref 1000), some (.ref 1002), some (.int x2)]) (st' := []) (σ' := (S, M, O)) (rfl) ?_
  refine Ex_br (fun hc => ?_) (fun hc => ?_)
  · rw [if_pos hc] at hF
    refine Ex_go 1 (pc' := 27) (L' := [some (.ref 1000), some (.ref 1002), some (.int x2)]) (st' := [.int (-1 : Int32)]) (σ' := (S, M, O)) (rfl) ?_
    cases hF
    exact Ex_fin rfl
  · rw [if_neg hc] at hF
    refine Ex_go 3 (pc' := 11) (L' := [some (.ref 1000), some (.ref 1002), some (.int x2)]) (st' := [.int x2, .ref 1002, .ref 1000]) (σ' := (S, M, O)) (rfl) ?_
    obtain ⟨hc1, hF⟩ := ck_i hF
    refine Ex_chk (b := ib x2 7) (pc' := 12) (L' := [some (.ref 1000), some (.ref 1002), some (.int x2)]) (st' := [.ref (3005 + (Int32.toNatClampNeg x2)), .ref 1000]) (σ' := (S, M, O)) rfl hc1 ?_
    obtain ⟨r2, hx3, hF⟩ := b1_i hF
    refine Ex_call (kind := 2) (y := 56) (as := [.ref 1000, .ref (3005 + (Int32.toNatClampNeg x2))]) (rest := []) (L0 := [some (.ref 1000), some (.ref (3005 + (Int32.toNatClampNeg x2))), none, none]) (d' := 6) (v := some (.int r2)) (σ1 := (S, M, O)) rfl rfl mt_56 rfl rfl (by omega) (X_m_is (Nat.le_refl _) _ _ _ (isS_7 hc1) hx3) (Ex_st (st2 := [.int r2]) rfl ?_)
    refine Ex_go 1 (pc' := if r2 = 0 then 20 else 18) (L' := [some (.ref 1000), some (.ref 1002), some (.int x2)]) (st' := []) (σ' := (S, M, O)) (rfl) ?_
    refine Ex_br (fun hc => ?_) (fun hc => ?_)
    · rw [if_pos hc] at hF
      refine Ex_go 2 (pc' := 2) (L' := [some (.ref 1000), some (.ref 1002), some (.int (x2 + (1 : Int32)))]) (st' := []) (σ' := (S, M, O)) (rfl) ?_
      exact Ex_mono (L := [some (.ref 1000), some (.ref 1002), some (.int (x2 + (1 : Int32)))]) (Le_s (Le_s (Le_s (Le_0)))) (ih _ _ _ hF) (Nat.le_refl _) (by omega)
    · rw [if_neg hc] at hF
      refine Ex_go 1 (pc' := 19) (L' := [some (.ref 1000), some (.ref 1002), some (.int x2)]) (st' := [.int x2]) (σ' := (S, M, O)) (rfl) ?_
      cases hF
      exact Ex_fin rfl
def F_m_which_1000_1002 (M : Sto) : Option Int32 := F_m_which_1000_1002_2 FU (0 : Int32) M
set_option maxRecDepth 100000 in
theorem X_m_which_1000_1002 {nL : Nat} {xs : Nat → Int32} {S : Sto} {O : Sto} {d : Nat} (hd : 7 ≤ d) : ∀ (M : Sto) (r : Int32), F_m_which_1000_1002 M = some r → EX nL xs 0 MI_57 d 0 [some (.ref 1000), some (.ref 1002), none] [] (S, M, O) (.inl (some (.int r))) (S, M, O) := by
  intro M r hF
  unfold F_m_which_1000_1002 at hF
  refine Ex_go 2 (pc' := 2) (L' := [some (.ref 1000), some (.ref 1002), some (.int (0 : Int32))]) (st' := []) (σ' := (S, M, O)) (rfl) ?_
  exact Ex_mono (L := [some (.ref 1000), some (.ref 1002), some (.int (0 : Int32))]) (Le_s (Le_s (Le_s (Le_0)))) (X_m_which_1000_1002_2 hd FU _ _ _ hF) (Nat.le_refl _) (by omega)
def F_m_lay (x1 : Int32) (M : Sto) : Option (Unit × Sto) := if (gi M 1010) = 0 then ck (ib ((500 : Int32) + (ai M 1003 (Int32.toNatClampNeg (5 : Int32)))) 1000) (some ((), (ui (ui M 1007 (upd (ai M 1007) (Int32.toNatClampNeg ((500 : Int32) + (ai M 1003 (Int32.toNatClampNeg (5 : Int32))))) x1)) 1003 (upd (ai (ui M 1007 (upd (ai M 1007) (Int32.toNatClampNeg ((500 : Int32) + (ai M 1003 (Int32.toNatClampNeg (5 : Int32))))) x1)) 1003) (Int32.toNatClampNeg (5 : Int32)) ((ai (ui M 1007 (upd (ai M 1007) (Int32.toNatClampNeg ((500 : Int32) + (ai M 1003 (Int32.toNatClampNeg (5 : Int32))))) x1)) 1003 (Int32.toNatClampNeg (5 : Int32))) + (1 : Int32)))))) else some ((), M)
set_option maxRecDepth 100000 in
theorem X_m_lay {nL : Nat} {xs : Nat → Int32} {S : Sto} {O : Sto} {d : Nat} (hd : 1 ≤ d) : ∀ (x1 : Int32) (M : Sto) (r : Unit) (M' : Sto), F_m_lay x1 M = some (r, M') → EX nL xs 0 MI_65 d 0 [some (.ref 1000), some (.int x1)] [] (S, M, O) (.inl none) (S, M', O) := by
  intro x1 M r M' hF
  unfold F_m_lay at hF
  refine Ex_go 3 (pc' := if (gi M 1010) = 0 then 8 else 7) (L' := [some (.ref 1000), some (.int x1)]) (st' := []) (σ' := (S, M, O)) (rfl) ?_
  refine Ex_br (fun hc => ?_) (fun hc => ?_)
  · rw [if_pos hc] at hF
    refine Ex_go 6 (pc' := 20) (L' := [some (.ref 1000), some (.int x1)]) (st' := [.int (5 : Int32), .ref 1003, .int (500 : Int32), .ref 1007]) (σ' := (S, M, O)) (rfl) ?_
    refine Ex_chk (b := ib (5 : Int32) 6) (pc' := 21) (L' := [some (.ref 1000), some (.int x1)]) (st' := [.int (ai M 1003 (Int32.toNatClampNeg (5 : Int32))), .int (500 : Int32), .ref 1007]) (σ' := (S, M, O)) rfl (by decide) ?_
    refine Ex_go 2 (pc' := 23) (L' := [some (.ref 1000), some (.int x1)]) (st' := [.int x1, .int ((500 : Int32) + (ai M 1003 (Int32.toNatClampNeg (5 : Int32)))), .ref 1007]) (σ' := (S, M, O)) (rfl) ?_
    obtain ⟨hc1, hF⟩ := ck_i hF
    refine Ex_chk (b := ib ((500 : Int32) + (ai M 1003 (Int32.toNatClampNeg (5 : Int32)))) 1000) (pc' := 24) (L' := [some (.ref 1000), some (.int x1)]) (st' := []) (σ' := (S, (ui M 1007 (upd (ai M 1007) (Int32.toNatClampNeg ((500 : Int32) + (ai M 1003 (Int32.toNatClampNeg (5 : Int32))))) x1)), O)) rfl hc1 ?_
    refine Ex_go 4 (pc' := 30) (L' := [some (.ref 1000), some (.int x1)]) (st' := [.int (5 : Int32), .ref 1003, .int (5 : Int32), .ref 1003]) (σ' := (S, (ui M 1007 (upd (ai M 1007) (Int32.toNatClampNeg ((500 : Int32) + (ai M 1003 (Int32.toNatClampNeg (5 : Int32))))) x1)), O)) (rfl) ?_
    refine Ex_chk (b := ib (5 : Int32) 6) (pc' := 31) (L' := [some (.ref 1000), some (.int x1)]) (st' := [.int (ai (ui M 1007 (upd (ai M 1007) (Int32.toNatClampNeg ((500 : Int32) + (ai M 1003 (Int32.toNatClampNeg (5 : Int32))))) x1)) 1003 (Int32.toNatClampNeg (5 : Int32))), .int (5 : Int32), .ref 1003]) (σ' := (S, (ui M 1007 (upd (ai M 1007) (Int32.toNatClampNeg ((500 : Int32) + (ai M 1003 (Int32.toNatClampNeg (5 : Int32))))) x1)), O)) rfl (by decide) ?_
    refine Ex_go 2 (pc' := 33) (L' := [some (.ref 1000), some (.int x1)]) (st' := [.int ((ai (ui M 1007 (upd (ai M 1007) (Int32.toNatClampNeg ((500 : Int32) + (ai M 1003 (Int32.toNatClampNeg (5 : Int32))))) x1)) 1003 (Int32.toNatClampNeg (5 : Int32))) + (1 : Int32)), .int (5 : Int32), .ref 1003]) (σ' := (S, (ui M 1007 (upd (ai M 1007) (Int32.toNatClampNeg ((500 : Int32) + (ai M 1003 (Int32.toNatClampNeg (5 : Int32))))) x1)), O)) (rfl) ?_
    refine Ex_chk (b := ib (5 : Int32) 6) (pc' := 34) (L' := [some (.ref 1000), some (.int x1)]) (st' := []) (σ' := (S, (ui (ui M 1007 (upd (ai M 1007) (Int32.toNatClampNeg ((500 : Int32) + (ai M 1003 (Int32.toNatClampNeg (5 : Int32))))) x1)) 1003 (upd (ai (ui M 1007 (upd (ai M 1007) (Int32.toNatClampNeg ((500 : Int32) + (ai M 1003 (Int32.toNatClampNeg (5 : Int32))))) x1)) 1003) (Int32.toNatClampNeg (5 : Int32)) ((ai (ui M 1007 (upd (ai M 1007) (Int32.toNatClampNeg ((500 : Int32) + (ai M 1003 (Int32.toNatClampNeg (5 : Int32))))) x1)) 1003 (Int32.toNatClampNeg (5 : Int32))) + (1 : Int32)))), O)) rfl (by decide) ?_
    cases hF
    exact Ex_fin rfl
  · rw [if_neg hc] at hF
    cases hF
    exact Ex_fin rfl
def F_m_numberNow_59 (M : Sto) : Option (Int32 × Sto) := if (gi M 1010) = 0 then some ((gi M 1007), M) else some ((0 : Int32), M)
set_option maxRecDepth 100000 in
theorem X_m_numberNow_59 {nL : Nat} {xs : Nat → Int32} {S : Sto} {O : Sto} {d : Nat} (hd : 2 ≤ d) : ∀ (M : Sto) (r : Int32) (M' : Sto), F_m_numberNow_59 M = some (r, M') → EX nL xs 0 MI_59 d 59 [some (.ref 1000), none, none] [] (S, M, O) (.inl (some (.int r))) (S, M', O) := by
  intro M r M' hF
  unfold F_m_numberNow_59 at hF
  refine Ex_go 3 (pc' := if ¬ (gi M 1010) = 0 then 73 else 66) (L' := [some (.ref 1000), none, none]) (st' := []) (σ' := (S, M, O)) (rfl) ?_
  refine Ex_brN (fun hc => ?_) (fun hc => ?_)
  · rw [if_pos hc] at hF
    refine Ex_go 3 (pc' := 74) (L' := [some (.ref 1000), none, none]) (st' := [.int (gi M 1007)]) (σ' := (S, M, O)) (rfl) ?_
    cases hF
    exact Ex_fin rfl
  · rw [if_neg hc] at hF
    refine Ex_go 1 (pc' := 74) (L' := [some (.ref 1000), none, none]) (st' := [.int (0 : Int32)]) (σ' := (S, M, O)) (rfl) ?_
    cases hF
    exact Ex_fin rfl
def F_m_numberNow_54 (M : Sto) : Option (Int32 × Sto) := b2 (F_m_wrong (2 : Int32) M) (fun r1 M3 => F_m_numberNow_59 M3)
set_option maxRecDepth 100000 in
theorem X_m_numberNow_54 {nL : Nat} {xs : Nat → Int32} {S : Sto} {O : Sto} {d : Nat} (hd : 2 ≤ d) : ∀ (M : Sto) (r : Int32) (M' : Sto), F_m_numberNow_54 M = some (r, M') → EX nL xs 0 MI_59 d 54 [some (.ref 1000), none, none] [] (S, M, O) (.inl (some (.int r))) (S, M', O) := by
  intro M r M' hF
  unfold F_m_numberNow_54 at hF
  refine Ex_go 2 (pc' := 56) (L' := [some (.ref 1000), none, none]) (st' := [.int (2 : Int32), .ref 1000]) (σ' := (S, M, O)) (rfl) ?_
  obtain ⟨r1, M3, hx2, hF⟩ := b2_i hF
  refine Ex_call (kind := 2) (y := 58) (as := [.ref 1000, .int (2 : Int32)]) (rest := []) (L0 := [some (.ref 1000), some (.int (2 : Int32))]) (d' := 1) (v := none) (σ1 := (S, M3, O)) rfl rfl mt_58 rfl rfl (by omega) (X_m_wrong (Nat.le_refl _) _ _ _ _ hx2) (Ex_st (st2 := []) rfl ?_)
  exact Ex_mono (L := [some (.ref 1000), none, none]) (Le_s (Le_n (Le_n (Le_0)))) (X_m_numberNow_59 hd _ _ _ hF) (Nat.le_refl _) (by omega)
def F_m_numberNow (x1 : Int32) (x2 : Int32) (M : Sto) : Option (Int32 × Sto) := if (gi M 1010) = 0 then if (gi M 1006) = (2 : Int32) then if (4 : Int32) < ((gi M 1009) - (gi M 1008)) then F_m_numberNow_54 M else if (gi M 1007) < x1 then F_m_numberNow_54 M else if (gi M 1007) ≤ x2 then F_m_numberNow_59 M else F_m_numberNow_54 M else b2 (F_m_wrong (1 : Int32) M) (fun r1 M3 => F_m_numberNow_59 M3) else some ((0 : Int32), M)
set_option maxRecDepth 100000 in
theorem X_m_numberNow {nL : Nat} {xs : Nat → Int32} {S : Sto} {O : Sto} {d : Nat} (hd : 2 ≤ d) : ∀ (x1 : Int32) (x2 : Int32) (M : Sto) (r : Int32) (M' : Sto), F_m_numberNow x1 x2 M = some (r, M') → EX nL xs 0 MI_59 d 0 [some (.ref 1000), some (.int x1), some (.int x2)] [] (S, M, O) (.inl (some (.int r))) (S, M', O) := by
  intro x1 x2 M r M' hF
  unfold F_m_numberNow at hF
  refine Ex_go 3 (pc' := if (gi M 1010) = 0 then 9 else 7) (L' := [some (.ref 1000), some (.int x1), some (.int x2)]) (st' := []) (σ' := (S, M, O)) (rfl) ?_
  refine Ex_br (fun hc => ?_) (fun hc => ?_)
  · rw [if_pos hc] at hF
    refine Ex_go 4 (pc' := if (gi M 1006) = (2 : Int32) then 25 else 17) (L' := [some (.ref 1000), some (.int x1), some (.int x2)]) (st' := []) (σ' := (S, M, O)) (rfl) ?_
    refine Ex_br (fun hc => ?_) (fun hc => ?_)
    · rw [if_pos hc] at hF
      refine Ex_go 7 (pc' := if (4 : Int32) < ((gi M 1009) - (gi M 1008)) then 54 else 38) (L' := [some (.ref 1000), some (.int x1), some (.int x2)]) (st' := []) (σ' := (S, M, O)) (rfl) ?_
      refine Ex_br (fun hc => ?_) (fun hc => ?_)
      · rw [if_pos hc] at hF
        exact Ex_mono (L := [some (.ref 1000), none, none]) (Le_s (Le_n (Le_n (Le_0)))) (X_m_numberNow_54 hd _ _ _ hF) (Nat.le_refl _) (by omega)
      · rw [if_neg hc] at hF
        refine Ex_go 4 (pc' := if (gi M 1007) < x1 then 54 else 46) (L' := [some (.ref 1000), some (.int x1), some (.int x2)]) (st' := []) (σ' := (S, M, O)) (rfl) ?_
        refine Ex_br (fun hc => ?_) (fun hc => ?_)
        · rw [if_pos hc] at hF
          exact Ex_mono (L := [some (.ref 1000), none, none]) (Le_s (Le_n (Le_n (Le_0)))) (X_m_numberNow_54 hd _ _ _ hF) (Nat.le_refl _) (by omega)
        · rw [if_neg hc] at hF
          refine Ex_go 4 (pc' := if (gi M 1007) ≤ x2 then 59 else 54) (L' := [some (.ref 1000), some (.int x1), some (.int x2)]) (st' := []) (σ' := (S, M, O)) (rfl) ?_
          refine Ex_br (fun hc => ?_) (fun hc => ?_)
          · rw [if_pos hc] at hF
            exact Ex_mono (L := [some (.ref 1000), none, none]) (Le_s (Le_n (Le_n (Le_0)))) (X_m_numberNow_59 hd _ _ _ hF) (Nat.le_refl _) (by omega)
          · rw [if_neg hc] at hF
            exact Ex_mono (L := [some (.ref 1000), none, none]) (Le_s (Le_n (Le_n (Le_0)))) (X_m_numberNow_54 hd _ _ _ hF) (Nat.le_refl _) (by omega)
    · rw [if_neg hc] at hF
      refine Ex_go 2 (pc' := 19) (L' := [some (.ref 1000), some (.int x1), some (.int x2)]) (st' := [.int (1 : Int32), .ref 1000]) (σ' := (S, M, O)) (rfl) ?_
      obtain ⟨r1, M3, hx2, hF⟩ := b2_i hF
      refine Ex_call (kind := 2) (y := 58) (as := [.ref 1000, .int (1 : Int32)]) (rest := []) (L0 := [some (.ref 1000), some (.int (1 : Int32))]) (d' := 1) (v := none) (σ1 := (S, M3, O)) rfl rfl mt_58 rfl rfl (by omega) (X_m_wrong (Nat.le_refl _) _ _ _ _ hx2) (Ex_st (st2 := []) rfl ?_)
      refine Ex_go 1 (pc' := 59) (L' := [some (.ref 1000), some (.int x1), some (.int x2)]) (st' := []) (σ' := (S, M3, O)) (rfl) ?_
      exact Ex_mono (L := [some (.ref 1000), none, none]) (Le_s (Le_n (Le_n (Le_0)))) (X_m_numberNow_59 hd _ _ _ hF) (Nat.le_refl _) (by omega)
  · rw [if_neg hc] at hF
    refine Ex_go 1 (pc' := 8) (L' := [some (.ref 1000), some (.int x1), some (.int x2)]) (st' := [.int (0 : Int32)]) (σ' := (S, M, O)) (rfl) ?_
    cases hF
    exact Ex_fin rfl
def F_m_readNumber (x1 : Int32) (x2 : Int32) (M : Sto) : Option (Int32 × Sto) := b2 (F_m_numberNow x1 x2 M) (fun r1 M3 => if (gi M3 1010) = 0 then b2 (F_m_stepOn M3) (fun r4 M6 => some (r1, M6)) else some (r1, M3))
set_option maxRecDepth 100000 in
theorem X_m_readNumber {nL : Nat} {xs : Nat → Int32} {S : Sto} {O : Sto} {d : Nat} (hd : 7 ≤ d) : ∀ (x1 : Int32) (x2 : Int32) (M : Sto) (r : Int32) (M' : Sto), F_m_readNumber x1 x2 M = some (r, M') → EX nL xs 0 MI_60 d 0 [some (.ref 1000), some (.int x1), some (.int x2), none] [] (S, M, O) (.inl (some (.int r))) (S, M', O) := by
  intro x1 x2 M r M' hF
  unfold F_m_readNumber at hF
  refine Ex_go 3 (pc' := 3) (L' := [some (.ref 1000), some (.int x1), some (.int x2), none]) (st' := [.int x2, .int x1, .ref 1000]) (σ' := (S, M, O)) (rfl) ?_
  obtain ⟨r1, M3, hx2, hF⟩ := b2_i hF
  refine Ex_call (kind := 2) (y := 59) (as := [.ref 1000, .int x1, .int x2]) (rest := []) (L0 := [some (.ref 1000), some (.int x1), some (.int x2)]) (d' := 2) (v := some (.int r1)) (σ1 := (S, M3, O)) rfl rfl mt_59 rfl rfl (by omega) (X_m_numberNow (Nat.le_refl _) _ _ _ _ _ hx2) (Ex_st (st2 := [.int r1]) rfl ?_)
  refine Ex_go 4 (pc' := if ¬ (gi M3 1010) = 0 then 18 else 14) (L' := [some (.ref 1000), some (.int x1), some (.int x2), some (.int r1)]) (st' := []) (σ' := (S, M3, O)) (rfl) ?_
  refine Ex_brN (fun hc => ?_) (fun hc => ?_)
  · rw [if_pos hc] at hF
    refine Ex_go 1 (pc' := 15) (L' := [some (.ref 1000), some (.int x1), some (.int x2), some (.int r1)]) (st' := [.ref 1000]) (σ' := (S, M3, O)) (rfl) ?_
    obtain ⟨r4, M6, hx5, hF⟩ := b2_i hF
    refine Ex_call (kind := 2) (y := 55) (as := [.ref 1000]) (rest := []) (L0 := [some (.ref 1000), none]) (d' := 6) (v := none) (σ1 := (S, M6, O)) rfl rfl mt_55 rfl rfl (by omega) (X_m_stepOn (Nat.le_refl _) _ _ _ hx5) (Ex_st (st2 := []) rfl ?_)
    refine Ex_go 1 (pc' := 19) (L' := [some (.ref 1000), some (.int x1), some (.int x2), some (.int r1)]) (st' := [.int r1]) (σ' := (S, M6, O)) (rfl) ?_
    cases hF
    exact Ex_fin rfl
  · rw [if_neg hc] at hF
    refine Ex_go 1 (pc' := 19) (L' := [some (.ref 1000), some (.int x1), some (.int x2), some (.int r1)]) (st' := [.int r1]) (σ' := (S, M3, O)) (rfl) ?_
    cases hF
    exact Ex_fin rfl
def F_m_readPart_56 (rc : Int32 → Sto → Option (Unit × Sto)) (x2 : Int32) (M : Sto) : Option (Unit × Sto) := b2 (F_m_lay ((-1 : Int32) - x2) M) (fun r1 M3 => if (gi M3 1010) = 0 then b2 (F_m_stepOn M3) (fun r4 M6 => some ((), M6)) else some ((), M3))
set_option maxRecDepth 100000 in
theorem X_m_readPart_56 {nL : Nat} {xs : Nat → Int32} {S : Sto} {O : Sto} {rc : Int32 → Sto → Option (Unit × Sto)} {E d : Nat} (hE : 8 ≤ E) (hd : E + 1 ≤ d) (hrc : ∀ (x1 : Int32) (M : Sto) (r : Unit) (M' : Sto), rc x1 M = some (r, M') → EX nL xs 0 MI_72 E 0 [some (.ref 1000), some (.int x1), none] [] (S, M, O) (.inl none) (S, M', O)) : ∀ (x2 : Int32) (M : Sto) (r : Unit) (M' : Sto), F_m_readPart_56 rc x2 M = some (r, M') → EX nL xs 0 MI_67 d 56 [some (.ref 1000), none, some (.int x2)] [] (S, M, O) (.inl none) (S, M', O) := by
  intro x2 M r M' hF
  unfold F_m_readPart_56 at hF
  refine Ex_go 4 (pc' := 60) (L' := [some (.ref 1000), none, some (.int x2)]) (st' := [.int ((-1 : Int32) - x2), .ref 1000]) (σ' := (S, M, O)) (rfl) ?_
  obtain ⟨r1, M3, hx2, hF⟩ := b2_i hF
  refine Ex_call (kind := 2) (y := 65) (as := [.ref 1000, .int ((-1 : Int32) - x2)]) (rest := []) (L0 := [some (.ref 1000), some (.int ((-1 : Int32) - x2))]) (d' := 1) (v := none) (σ1 := (S, M3, O)) rfl rfl mt_65 rfl rfl (by omega) (X_m_lay (Nat.le_refl _) _ _ _ _ hx2) (Ex_st (st2 := []) rfl ?_)
  refine Ex_go 3 (pc' := if ¬ (gi M3 1010) = 0 then 74 else 70) (L' := [some (.ref 1000), none, some (.int x2)]) (st' := []) (σ' := (S, M3, O)) (rfl) ?_
  refine Ex_brN (fun hc => ?_) (fun hc => ?_)
  · rw [if_pos hc] at hF
    refine Ex_go 1 (pc' := 71) (L' := [some (.ref 1000), none, some (.int x2)]) (st' := [.ref 1000]) (σ' := (S, M3, O)) (rfl) ?_
    obtain ⟨r4, M6, hx5, hF⟩ := b2_i hF
    refine Ex_call (kind := 2) (y := 55) (as := [.ref 1000]) (rest := []) (L0 := [some (.ref 1000), none]) (d' := 6) (v := none) (σ1 := (S, M6, O)) rfl rfl mt_55 rfl rfl (by omega) (X_m_stepOn (Nat.le_refl _) _ _ _ hx5) (Ex_st (st2 := []) rfl ?_)
    cases hF
    exact Ex_fin rfl
  · rw [if_neg hc] at hF
    cases hF
    exact Ex_fin rfl
def F_m_readPart (rc : Int32 → Sto → Option (Unit × Sto)) (x1 : Int32) (M : Sto) : Option (Unit × Sto) := if (gi M 1010) = 0 then if (gi M 1006) = (2 : Int32) then b2 (F_m_readNumber (0 : Int32) (9999 : Int32) M) (fun r15 M17 => b2 (F_m_lay r15 M17) (fun r18 M20 => some ((), M20))) else if (gi M 1006) = (1 : Int32) then b1 (F_m_which_1000_1002 M) (fun r10 => if r10 = (-1 : Int32) then b2 (F_m_wrong (3 : Int32) M) (fun r12 M14 => F_m_readPart_56 rc r10 M14) else F_m_readPart_56 rc r10 M) else b2 (F_m_mark (40 : Int32) M) (fun r1 M3 => b2 (rc (x1 + (1 : Int32)) M3) (fun r4 M6 => b2 (F_m_mark (41 : Int32) M6) (fun r7 M9 => some ((), M9)))) else some ((), M)
set_option maxRecDepth 100000 in
theorem X_m_readPart {nL : Nat} {xs : Nat → Int32} {S : Sto} {O : Sto} {rc : Int32 → Sto → Option (Unit × Sto)} {E d : Nat} (hE : 8 ≤ E) (hd : E + 1 ≤ d) (hrc : ∀ (x1 : Int32) (M : Sto) (r : Unit) (M' : Sto), rc x1 M = some (r, M') → EX nL xs 0 MI_72 E 0 [some (.ref 1000), some (.int x1), none] [] (S, M, O) (.inl none) (S, M', O)) : ∀ (x1 : Int32) (M : Sto) (r : Unit) (M' : Sto), F_m_readPart rc x1 M = some (r, M') → EX nL xs 0 MI_67 d 0 [some (.ref 1000), some (.int x1), none] [] (S, M, O) (.inl none) (S, M', O) := by
  intro x1 M r M' hF
  unfold F_m_readPart at hF
  refine Ex_go 3 (pc' := if (gi M 1010) = 0 then 8 else 7) (L' := [some (.ref 1000), some (.int x1), none]) (st' := []) (σ' := (S, M, O)) (rfl) ?_
  refine Ex_br (fun hc => ?_) (fun hc => ?_)
  · rw [if_pos hc] at hF
    refine Ex_go 4 (pc' := if ¬ (gi M 1006) = (2 : Int32) then 29 else 16) (L' := [some (.ref 1000), some (.int x1), none]) (st' := []) (σ' := (S, M, O)) (rfl) ?_
    refine Ex_brN (fun hc => ?_) (fun hc => ?_)
    · rw [if_pos hc] at hF
      refine Ex_go 4 (pc' := 22) (L' := [some (.ref 1000), some (.int x1), none]) (st' := [.int (9999 : Int32), .int (0 : Int32), .ref 1000, .ref 1000]) (σ' := (S, M, O)) (rfl) ?_
      obtain ⟨r15, M17, hx16, hF⟩ := b2_i hF
      refine Ex_call (kind := 2) (y := 60) (as := [.ref 1000, .int (0 : Int32), .int (9999 : Int32)]) (rest := [.ref 1000]) (L0 := [some (.ref 1000), some (.int (0 : Int32)), some (.int (9999 : Int32)), none]) (d' := 7) (v := some (.int r15)) (σ1 := (S, M17, O)) rfl rfl mt_60 rfl rfl (by omega) (X_m_readNumber (Nat.le_refl _) _ _ _ _ _ hx16) (Ex_st (st2 := [.int r15, .ref 1000]) rfl ?_)
      obtain ⟨r18, M20, hx19, hF⟩ := b2_i hF
      refine Ex_call (kind := 2) (y := 65) (as := [.ref 1000, .int r15]) (rest := []) (L0 := [some (.ref 1000), some (.int r15)]) (d' := 1) (v := none) (σ1 := (S, M20, O)) rfl rfl mt_65 rfl rfl (by omega) (X_m_lay (Nat.le_refl _) _ _ _ _ hx19) (Ex_st (st2 := []) rfl ?_)
      cases hF
      exact Ex_fin rfl
    · rw [if_neg hc] at hF
      refine Ex_go 4 (pc' := if ¬ (gi M 1006) = (1 : Int32) then 75 else 37) (L' := [some (.ref 1000), some (.int x1), none]) (st' := []) (σ' := (S, M, O)) (rfl) ?_
      refine Ex_brN (fun hc => ?_) (fun hc => ?_)
      · rw [if_pos hc] at hF
        refine Ex_go 3 (pc' := 42) (L' := [some (.ref 1000), some (.int x1), none]) (st' := [.ref 1002, .ref 1000]) (σ' := (S, M, O)) (rfl) ?_
        obtain ⟨r10, hx11, hF⟩ := b1_i hF
        refine Ex_call (kind := 2) (y := 57) (as := [.ref 1000, .ref 1002]) (rest := []) (L0 := [some (.ref 1000), some (.ref 1002), none]) (d' := 7) (v := some (.int r10)) (σ1 := (S, M, O)) rfl rfl mt_57 rfl rfl (by omega) (X_m_which_1000_1002 (Nat.le_refl _) _ _ hx11) (Ex_st (st2 := [.int r10]) rfl ?_)
        refine Ex_go 4 (pc' := if ¬ r10 = (-1 : Int32) then 56 else 51) (L' := [some (.ref 1000), some (.int x1), some (.int r10)]) (st' := []) (σ' := (S, M, O)) (rfl) ?_
        refine Ex_brN (fun hc => ?_) (fun hc => ?_)
        · rw [if_pos hc] at hF
          refine Ex_go 2 (pc' := 53) (L' := [some (.ref 1000), some (.int x1), some (.int r10)]) (st' := [.int (3 : Int32), .ref 1000]) (σ' := (S, M, O)) (rfl) ?_
          obtain ⟨r12, M14, hx13, hF⟩ := b2_i hF
          refine Ex_call (kind := 2) (y := 58) (as := [.ref 1000, .int (3 : Int32)]) (rest := []) (L0 := [some (.ref 1000), some (.int (3 : Int32))]) (d' := 1) (v := none) (σ1 := (S, M14, O)) rfl rfl mt_58 rfl rfl (by omega) (X_m_wrong (Nat.le_refl _) _ _ _ _ hx13) (Ex_st (st2 := []) rfl ?_)
          exact Ex_mono (L := [some (.ref 1000), none, some (.int r10)]) (Le_s (Le_n (Le_s (Le_0)))) (X_m_readPart_56 hE hd hrc _ _ _ _ hF) (Nat.le_refl _) (by omega)
        · rw [if_neg hc] at hF
          exact Ex_mono (L := [some (.ref 1000), none, some (.int r10)]) (Le_s (Le_n (Le_s (Le_0)))) (X_m_readPart_56 hE hd hrc _ _ _ _ hF) (Nat.le_refl _) (by omega)
      · rw [if_neg hc] at hF
        refine Ex_go 2 (pc' := 78) (L' := [some (.ref 1000), some (.int x1), none]) (st' := [.int (40 : Int32), .ref 1000]) (σ' := (S, M, O)) (rfl) ?_
        obtain ⟨r1, M3, hx2, hF⟩ := b2_i hF
        refine Ex_call (kind := 2) (y := 66) (as := [.ref 1000, .int (40 : Int32)]) (rest := []) (L0 := [some (.ref 1000), some (.int (40 : Int32))]) (d' := 7) (v := none) (σ1 := (S, M3, O)) rfl rfl mt_66 rfl rfl (by omega) (X_m_mark (Nat.le_refl _) _ _ _ _ hx2) (Ex_st (st2 := []) rfl ?_)
        refine Ex_go 4 (pc' := 85) (L' := [some (.ref 1000), some (.int x1), none]) (st' := [.int (x1 + (1 : Int32)), .ref 1000]) (σ' := (S, M3, O)) (rfl) ?_
        obtain ⟨r4, M6, hx5, hF⟩ := b2_i hF
        refine Ex_call (kind := 2) (y := 72) (as := [.ref 1000, .int (x1 + (1 : Int32))]) (rest := []) (L0 := [some (.ref 1000), some (.int (x1 + (1 : Int32))), none]) (d' := E) (v := none) (σ1 := (S, M6, O)) rfl rfl mt_72 rfl rfl (by omega) (hrc _ _ _ _ hx5) (Ex_st (st2 := []) rfl ?_)
        refine Ex_go 2 (pc' := 91) (L' := [some (.ref 1000), some (.int x1), none]) (st' := [.int (41 : Int32), .ref 1000]) (σ' := (S, M6, O)) (rfl) ?_
        obtain ⟨r7, M9, hx8, hF⟩ := b2_i hF
        refine Ex_call (kind := 2) (y := 66) (as := [.ref 1000, .int (41 : Int32)]) (rest := []) (L0 := [some (.ref 1000), some (.int (41 : Int32))]) (d' := 7) (v := none) (σ1 := (S, M9, O)) rfl rfl mt_66 rfl rfl (by omega) (X_m_mark (Nat.le_refl _) _ _ _ _ hx8) (Ex_st (st2 := []) rfl ?_)
        cases hF
        exact Ex_fin rfl
  · rw [if_neg hc] at hF
    cases hF
    exact Ex_fin rfl
def F_m_readProduct_39 (rc : Int32 → Sto → Option (Unit × Sto)) (k5 : Int32 → Sto → Option (Unit × Sto)) (x1 : Int32) (s0 : Int32) (M : Sto) : Option (Unit × Sto) := b2 (F_m_stepOn M) (fun r1 M3 => b2 (F_m_readPart rc x1 M3) (fun r4 M6 => b2 (F_m_lay s0 M6) (fun r7 M9 => k5 x1 M9)))
set_option maxRecDepth 100000 in
theorem X_m_readProduct_39 {nL : Nat} {xs : Nat → Int32} {S : Sto} {O : Sto} {rc : Int32 → Sto → Option (Unit × Sto)} {E d : Nat} (hE : 8 ≤ E) (hd : E + 2 ≤ d) (hrc : ∀ (x1 : Int32) (M : Sto) (r : Unit) (M' : Sto), rc x1 M = some (r, M') → EX nL xs 0 MI_72 E 0 [some (.ref 1000), some (.int x1), none] [] (S, M, O) (.inl none) (S, M', O)) {k5 : Int32 → Sto → Option (Unit × Sto)} (hk5 : ∀ (x1 : Int32) (M : Sto) (r : Unit) (M' : Sto), k5 x1 M = some (r, M') → EX nL xs 0 MI_68 d 5 [some (.ref 1000), some (.int x1), none] [] (S, M, O) (.inl none) (S, M', O)) : ∀ (x1 : Int32) (s0 : Int32) (M : Sto) (r : Unit) (M' : Sto), F_m_readProduct_39 rc k5 x1 s0 M = some (r, M') → EX nL xs 0 MI_68 d 39 [some (.ref 1000), some (.int x1), none] [.int s0] (S, M, O) (.inl none) (S, M', O) := by
  intro x1 s0 M r M' hF
  unfold F_m_readProduct_39 at hF
  refine Ex_go 2 (pc' := 41) (L' := [some (.ref 1000), some (.int x1), some (.int s0)]) (st' := [.ref 1000]) (σ' := (S, M, O)) (rfl) ?_
  obtain ⟨r1, M3, hx2, hF⟩ := b2_i hF
  refine Ex_call (kind := 2) (y := 55) (as := [.ref 1000]) (rest := []) (L0 := [some (.ref 1000), none]) (d' := 6) (v := none) (σ1 := (S, M3, O)) rfl rfl mt_55 rfl rfl (by omega) (X_m_stepOn (Nat.le_refl _) _ _ _ hx2) (Ex_st (st2 := []) rfl ?_)
  refine Ex_go 2 (pc' := 46) (L' := [some (.ref 1000), some (.int x1), some (.int s0)]) (st' := [.int x1, .ref 1000]) (σ' := (S, M3, O)) (rfl) ?_
  obtain ⟨r4, M6, hx5, hF⟩ := b2_i hF
  refine Ex_call (kind := 2) (y := 67) (as := [.ref 1000, .int x1]) (rest := []) (L0 := [some (.ref 1000), some (.int x1), none]) (d' := (E + 1)) (v := none) (σ1 := (S, M6, O)) rfl rfl mt_67 rfl rfl (by omega) (X_m_readPart hE (Nat.le_refl _) hrc _ _ _ _ hx5) (Ex_st (st2 := []) rfl ?_)
  refine Ex_go 2 (pc' := 51) (L' := [some (.ref 1000), some (.int x1), some (.int s0)]) (st' := [.int s0, .ref 1000]) (σ' := (S, M6, O)) (rfl) ?_
  obtain ⟨r7, M9, hx8, hF⟩ := b2_i hF
  refine Ex_call (kind := 2) (y := 65) (as := [.ref 1000, .int s0]) (rest := []) (L0 := [some (.ref 1000), some (.int s0)]) (d' := 1) (v := none) (σ1 := (S, M9, O)) rfl rfl mt_65 rfl rfl (by omega) (X_m_lay (Nat.le_refl _) _ _ _ _ hx8) (Ex_st (st2 := []) rfl ?_)
  refine Ex_go 1 (pc' := 5) (L' := [some (.ref 1000), some (.int x1), some (.int s0)]) (st' := []) (σ' := (S, M9, O)) (rfl) ?_
  exact Ex_mono (L := [some (.ref 1000), some (.int x1), none]) (Le_s (Le_s (Le_n (Le_0)))) (hk5 _ _ _ _ hF) (Nat.le_refl _) (by omega)
def F_m_readProduct_23 (rc : Int32 → Sto → Option (Unit × Sto)) (k5 : Int32 → Sto → Option (Unit × Sto)) (x1 : Int32) (M : Sto) : Option (Unit × Sto) := b1 (F_m_isMarked (42 : Int32) M) (fun r1 => if r1 = 0 then F_m_readProduct_39 rc k5 x1 (-23 : Int32) M else F_m_readProduct_39 rc k5 x1 (-22 : Int32) M)
set_option maxRecDepth 100000 in
theorem X_m_readProduct_23 {nL : Nat} {xs : Nat → Int32} {S : Sto} {O : Sto} {rc : Int32 → Sto → Option (Unit × Sto)} {E d : Nat} (hE : 8 ≤ E) (hd : E + 2 ≤ d) (hrc : ∀ (x1 : Int32) (M : Sto) (r : Unit) (M' : Sto), rc x1 M = some (r, M') → EX nL xs 0 MI_72 E 0 [some (.ref 1000), some (.int x1), none] [] (S, M, O) (.inl none) (S, M', O)) {k5 : Int32 → Sto → Option (Unit × Sto)} (hk5 : ∀ (x1 : Int32) (M : Sto) (r : Unit) (M' : Sto), k5 x1 M = some (r, M') → EX nL xs 0 MI_68 d 5 [some (.ref 1000), some (.int x1), none] [] (S, M, O) (.inl none) (S, M', O)) : ∀ (x1 : Int32) (M : Sto) (r : Unit) (M' : Sto), F_m_readProduct_23 rc k5 x1 M = some (r, M') → EX nL xs 0 MI_68 d 23 [some (.ref 1000), some (.int x1), none] [] (S, M, O) (.inl none) (S, M', O) := by
  intro x1 M r M' hF
  unfold F_m_readProduct_23 at hF
  refine Ex_go 2 (pc' := 26) (L' := [some (.ref 1000), some (.int x1), none]) (st' := [.int (42 : Int32), .ref 1000]) (σ' := (S, M, O)) (rfl) ?_
  obtain ⟨r1, hx2, hF⟩ := b1_i hF
  refine Ex_call (kind := 2) (y := 64) (as := [.ref 1000, .int (42 : Int32)]) (rest := []) (L0 := [some (.ref 1000), some (.int (42 : Int32))]) (d' := 1) (v := some (.int r1)) (σ1 := (S, M, O)) rfl rfl mt_64 rfl rfl (by omega) (X_m_isMarked (Nat.le_refl _) _ _ _ hx2) (Ex_st (st2 := [.int r1]) rfl ?_)
  refine Ex_go 1 (pc' := if r1 = 0 then 37 else 32) (L' := [some (.ref 1000), some (.int x1), none]) (st' := []) (σ' := (S, M, O)) (rfl) ?_
  refine Ex_br (fun hc => ?_) (fun hc => ?_)
  · rw [if_pos hc] at hF
    refine Ex_go 1 (pc' := 39) (L' := [some (.ref 1000), some (.int x1), none]) (st' := [.int (-23 : Int32)]) (σ' := (S, M, O)) (rfl) ?_
    exact Ex_mono (L := [some (.ref 1000), some (.int x1), none]) (Le_s (Le_s (Le_n (Le_0)))) (X_m_readProduct_39 hE hd hrc hk5 _ _ _ _ _ hF) (Nat.le_refl _) (by omega)
  · rw [if_neg hc] at hF
    refine Ex_go 2 (pc' := 39) (L' := [some (.ref 1000), some (.int x1), none]) (st' := [.int (-22 : Int32)]) (σ' := (S, M, O)) (rfl) ?_
    exact Ex_mono (L := [some (.ref 1000), some (.int x1), none]) (Le_s (Le_s (Le_n (Le_0)))) (X_m_readProduct_39 hE hd hrc hk5 _ _ _ _ _ hF) (Nat.le_refl _) (by omega)
def F_m_readProduct_5 (rc : Int32 → Sto → Option (Unit × Sto)) : Nat → Int32 → Sto → Option (Unit × Sto)
  | 0, _, _ => none
  | n + 1, x1, M => b1 (F_m_isMarked (42 : Int32) M) (fun r1 => if r1 = 0 then b1 (F_m_isMarked (47 : Int32) M) (fun r3 => if r3 = 0 then some ((), M) else F_m_readProduct_23 rc (F_m_readProduct_5 rc n) x1 M) else F_m_readProduct_23 rc (F_m_readProduct_5 rc n) x1 M)
set_option maxRecDepth 100000 in
theorem X_m_readProduct_5 {nL : Nat} {xs : Nat → Int32} {S : Sto} {O : Sto} {rc : Int32 → Sto → Option (Unit × Sto)} {E d : Nat} (hE : 8 ≤ E) (hd : E + 2 ≤ d) (hrc : ∀ (x1 : Int32) (M : Sto) (r : Unit) (M' : Sto), rc x1 M = some (r, M') → EX nL xs 0 MI_72 E 0 [some (.ref 1000), some (.int x1), none] [] (S, M, O) (.inl none) (S, M', O)) : ∀ n : Nat, ∀ (x1 : Int32) (M : Sto) (r : Unit) (M' : Sto), F_m_readProduct_5 rc n x1 M = some (r, M') → EX nL xs 0 MI_68 d 5 [some (.ref 1000), some (.int x1), none] [] (S, M, O) (.inl none) (S, M', O) := by
  intro n
  induction n with
  | zero => intro x1 M r M' hF; cases hF
  | succ n ih =>
  intro x1 M r M' hF
  unfold F_m_readProduct_5 at hF
  refine Ex_go 2 (pc' := 8) (L' := [some (.ref 1000), some (.int x1), none]) (st' := [.int (42 : Int32), .ref 1000]) (σ' := (S, M, O)) (rfl) ?_
  obtain ⟨r1, hx2, hF⟩ := b1_i hF
  refine Ex_call (kind := 2) (y := 64) (as := [.ref 1000, .int (42 : Int32)]) (rest := []) (L0 := [some (.ref 1000), some (.int (42 : Int32))]) (d' := 1) (v := some (.int r1)) (σ1 := (S, M, O)) rfl rfl mt_64 rfl rfl (by omega) (X_m_isMarked (Nat.le_refl _) _ _ _ hx2) (Ex_st (st2 := [.int r1]) rfl ?_)
  refine Ex_go 1 (pc' := if ¬ r1 = 0 then 23 else 14) (L' := [some (.ref 1000), some (.int x1), none]) (st' := []) (σ' := (S, M, O)) (rfl) ?_
  refine Ex_brN (fun hc => ?_) (fun hc => ?_)
  · rw [if_pos hc] at hF
    refine Ex_go 2 (pc' := 17) (L' := [some (.ref 1000), some (.int x1), none]) (st' := [.int (47 : Int32), .ref 1000]) (σ' := (S, M, O)) (rfl) ?_
    obtain ⟨r3, hx4, hF⟩ := b1_i hF
    refine Ex_call (kind := 2) (y := 64) (as := [.ref 1000, .int (47 : Int32)]) (rest := []) (L0 := [some (.ref 1000), some (.int (47 : Int32))]) (d' := 1) (v := some (.int r3)) (σ1 := (S, M, O)) rfl rfl mt_64 rfl rfl (by omega) (X_m_isMarked (Nat.le_refl _) _ _ _ hx4) (Ex_st (st2 := [.int r3]) rfl ?_)
    refine Ex_go 1 (pc' := if r3 = 0 then 57 else 23) (L' := [some (.ref 1000), some (.int x1), none]) (st' := []) (σ' := (S, M, O)) (rfl) ?_
    refine Ex_br (fun hc => ?_) (fun hc => ?_)
    · rw [if_pos hc] at hF
      cases hF
      exact Ex_fin rfl
    · rw [if_neg hc] at hF
      exact Ex_mono (L := [some (.ref 1000), some (.int x1), none]) (Le_s (Le_s (Le_n (Le_0)))) (X_m_readProduct_23 hE hd hrc ih _ _ _ _ hF) (Nat.le_refl _) (by omega)
  · rw [if_neg hc] at hF
    exact Ex_mono (L := [some (.ref 1000), some (.int x1), none]) (Le_s (Le_s (Le_n (Le_0)))) (X_m_readProduct_23 hE hd hrc ih _ _ _ _ hF) (Nat.le_refl _) (by omega)
def F_m_readProduct (rc : Int32 → Sto → Option (Unit × Sto)) (x1 : Int32) (M : Sto) : Option (Unit × Sto) := b2 (F_m_readPart rc x1 M) (fun r1 M3 => F_m_readProduct_5 rc FU x1 M3)
set_option maxRecDepth 100000 in
theorem X_m_readProduct {nL : Nat} {xs : Nat → Int32} {S : Sto} {O : Sto} {rc : Int32 → Sto → Option (Unit × Sto)} {E d : Nat} (hE : 8 ≤ E) (hd : E + 2 ≤ d) (hrc : ∀ (x1 : Int32) (M : Sto) (r : Unit) (M' : Sto), rc x1 M = some (r, M') → EX nL xs 0 MI_72 E 0 [some (.ref 1000), some (.int x1), none] [] (S, M, O) (.inl none) (S, M', O)) : ∀ (x1 : Int32) (M : Sto) (r : Unit) (M' : Sto), F_m_readProduct rc x1 M = some (r, M') → EX nL xs 0 MI_68 d 0 [some (.ref 1000), some (.int x1), none] [] (S, M, O) (.inl none) (S, M', O) := by
  intro x1 M r M' hF
  unfold F_m_readProduct at hF
  refine Ex_go 2 (pc' := 2) (L' := [some (.ref 1000), some (.int x1), none]) (st' := [.int x1, .ref 1000]) (σ' := (S, M, O)) (rfl) ?_
  obtain ⟨r1, M3, hx2, hF⟩ := b2_i hF
  refine Ex_call (kind := 2) (y := 67) (as := [.ref 1000, .int x1]) (rest := []) (L0 := [some (.ref 1000), some (.int x1), none]) (d' := (E + 1)) (v := none) (σ1 := (S, M3, O)) rfl rfl mt_67 rfl rfl (by omega) (X_m_readPart hE (Nat.le_refl _) hrc _ _ _ _ hx2) (Ex_st (st2 := []) rfl ?_)
  exact Ex_mono (L := [some (.ref 1000), some (.int x1), none]) (Le_s (Le_s (Le_n (Le_0)))) (X_m_readProduct_5 hE hd hrc FU _ _ _ _ hF) (Nat.le_refl _) (by omega)
def F_m_readSum_39 (rc : Int32 → Sto → Option (Unit × Sto)) (k5 : Int32 → Sto → Option (Unit × Sto)) (x1 : Int32) (s0 : Int32) (M : Sto) : Option (Unit × Sto) := b2 (F_m_stepOn M) (fun r1 M3 => b2 (F_m_readProduct rc x1 M3) (fun r4 M6 => b2 (F_m_lay s0 M6) (fun r7 M9 => k5 x1 M9)))
set_option maxRecDepth 100000 in
theorem X_m_readSum_39 {nL : Nat} {xs : Nat → Int32} {S : Sto} {O : Sto} {rc : Int32 → Sto → Option (Unit × Sto)} {E d : Nat} (hE : 8 ≤ E) (hd : E + 3 ≤ d) (hrc : ∀ (x1 : Int32) (M : Sto) (r : Unit) (M' : Sto), rc x1 M = some (r, M') → EX nL xs 0 MI_72 E 0 [some (.ref 1000), some (.int x1), none] [] (S, M, O) (.inl none) (S, M', O)) {k5 : Int32 → Sto → Option (Unit × Sto)} (hk5 : ∀ (x1 : Int32) (M : Sto) (r : Unit) (M' : Sto), k5 x1 M = some (r, M') → EX nL xs 0 MI_69 d 5 [some (.ref 1000), some (.int x1), none] [] (S, M, O) (.inl none) (S, M', O)) : ∀ (x1 : Int32) (s0 : Int32) (M : Sto) (r : Unit) (M' : Sto), F_m_readSum_39 rc k5 x1 s0 M = some (r, M') → EX nL xs 0 MI_69 d 39 [some (.ref 1000), some (.int x1), none] [.int s0] (S, M, O) (.inl none) (S, M', O) := by
  intro x1 s0 M r M' hF
  unfold F_m_readSum_39 at hF
  refine Ex_go 2 (pc' := 41) (L' := [some (.ref 1000), some (.int x1), some (.int s0)]) (st' := [.ref 1000]) (σ' := (S, M, O)) (rfl) ?_
  obtain ⟨r1, M3, hx2, hF⟩ := b2_i hF
  refine Ex_call (kind := 2) (y := 55) (as := [.ref 1000]) (rest := []) (L0 := [some (.ref 1000), none]) (d' := 6) (v := none) (σ1 := (S, M3, O)) rfl rfl mt_55 rfl rfl (by omega) (X_m_stepOn (Nat.le_refl _) _ _ _ hx2) (Ex_st (st2 := []) rfl ?_)
  refine Ex_go 2 (pc' := 46) (L' := [some (.ref 1000), some (.int x1), some (.int s0)]) (st' := [.int x1, .ref 1000]) (σ' := (S, M3, O)) (rfl) ?_
  obtain ⟨r4, M6, hx5, hF⟩ := b2_i hF
  refine Ex_call (kind := 2) (y := 68) (as := [.ref 1000, .int x1]) (rest := []) (L0 := [some (.ref 1000), some (.int x1), none]) (d' := (E + 2)) (v := none) (σ1 := (S, M6, O)) rfl rfl mt_68 rfl rfl (by omega) (X_m_readProduct hE (Nat.le_refl _) hrc _ _ _ _ hx5) (Ex_st (st2 := []) rfl ?_)
  refine Ex_go 2 (pc' := 51) (L' := [some (.ref 1000), some (.int x1), some (.int s0)]) (st' := [.int s0, .ref 1000]) (σ' := (S, M6, O)) (rfl) ?_
  obtain ⟨r7, M9, hx8, hF⟩ := b2_i hF
  refine Ex_call (kind := 2) (y := 65) (as := [.ref 1000, .int s0]) (rest := []) (L0 := [some (.ref 1000), some (.int s0)]) (d' := 1) (v := none) (σ1 := (S, M9, O)) rfl rfl mt_65 rfl rfl (by omega) (X_m_lay (Nat.le_refl _) _ _ _ _ hx8) (Ex_st (st2 := []) rfl ?_)
  refine Ex_go 1 (pc' := 5) (L' := [some (.ref 1000), some (.int x1), some (.int s0)]) (st' := []) (σ' := (S, M9, O)) (rfl) ?_
  exact Ex_mono (L := [some (.ref 1000), some (.int x1), none]) (Le_s (Le_s (Le_n (Le_0)))) (hk5 _ _ _ _ hF) (Nat.le_refl _) (by omega)
def F_m_readSum_23 (rc : Int32 → Sto → Option (Unit × Sto)) (k5 : Int32 → Sto → Option (Unit × Sto)) (x1 : Int32) (M : Sto) : Option (Unit × Sto) := b1 (F_m_isMarked (43 : Int32) M) (fun r1 => if r1 = 0 then F_m_readSum_39 rc k5 x1 (-21 : Int32) M else F_m_readSum_39 rc k5 x1 (-20 : Int32) M)
set_option maxRecDepth 100000 in
theorem X_m_readSum_23 {nL : Nat} {xs : Nat → Int32} {S : Sto} {O : Sto} {rc : Int32 → Sto → Option (Unit × Sto)} {E d : Nat} (hE : 8 ≤ E) (hd : E + 3 ≤ d) (hrc : ∀ (x1 : Int32) (M : Sto) (r : Unit) (M' : Sto), rc x1 M = some (r, M') → EX nL xs 0 MI_72 E 0 [some (.ref 1000), some (.int x1), none] [] (S, M, O) (.inl none) (S, M', O)) {k5 : Int32 → Sto → Option (Unit × Sto)} (hk5 : ∀ (x1 : Int32) (M : Sto) (r : Unit) (M' : Sto), k5 x1 M = some (r, M') → EX nL xs 0 MI_69 d 5 [some (.ref 1000), some (.int x1), none] [] (S, M, O) (.inl none) (S, M', O)) : ∀ (x1 : Int32) (M : Sto) (r : Unit) (M' : Sto), F_m_readSum_23 rc k5 x1 M = some (r, M') → EX nL xs 0 MI_69 d 23 [some (.ref 1000), some (.int x1), none] [] (S, M, O) (.inl none) (S, M', O) := by
  intro x1 M r M' hF
  unfold F_m_readSum_23 at hF
  refine Ex_go 2 (pc' := 26) (L' := [some (.ref 1000), some (.int x1), none]) (st' := [.int (43 : Int32), .ref 1000]) (σ' := (S, M, O)) (rfl) ?_
  obtain ⟨r1, hx2, hF⟩ := b1_i hF
  refine Ex_call (kind := 2) (y := 64) (as := [.ref 1000, .int (43 : Int32)]) (rest := []) (L0 := [some (.ref 1000), some (.int (43 : Int32))]) (d' := 1) (v := some (.int r1)) (σ1 := (S, M, O)) rfl rfl mt_64 rfl rfl (by omega) (X_m_isMarked (Nat.le_refl _) _ _ _ hx2) (Ex_st (st2 := [.int r1]) rfl ?_)
  refine Ex_go 1 (pc' := if r1 = 0 then 37 else 32) (L' := [some (.ref 1000), some (.int x1), none]) (st' := []) (σ' := (S, M, O)) (rfl) ?_
  refine Ex_br (fun hc => ?_) (fun hc => ?_)
  · rw [if_pos hc] at hF
    refine Ex_go 1 (pc' := 39) (L' := [some (.ref 1000), some (.int x1), none]) (st' := [.int (-21 : Int32)]) (σ' := (S, M, O)) (rfl) ?_
    exact Ex_mono (L := [some (.ref 1000), some (.int x1), none]) (Le_s (Le_s (Le_n (Le_0)))) (X_m_readSum_39 hE hd hrc hk5 _ _ _ _ _ hF) (Nat.le_refl _) (by omega)
  · rw [if_neg hc] at hF
    refine Ex_go 2 (pc' := 39) (L' := [some (.ref 1000), some (.int x1), none]) (st' := [.int (-20 : Int32)]) (σ' := (S, M, O)) (rfl) ?_
    exact Ex_mono (L := [some (.ref 1000), some (.int x1), none]) (Le_s (Le_s (Le_n (Le_0)))) (X_m_readSum_39 hE hd hrc hk5 _ _ _ _ _ hF) (Nat.le_refl _) (by omega)
def F_m_readSum_5 (rc : Int32 → Sto → Option (Unit × Sto)) : Nat → Int32 → Sto → Option (Unit × Sto)
  | 0, _, _ => none
  | n + 1, x1, M => b1 (F_m_isMarked (43 : Int32) M) (fun r1 => if r1 = 0 then b1 (F_m_isMarked (45 : Int32) M) (fun r3 => if r3 = 0 then some ((), M) else F_m_readSum_23 rc (F_m_readSum_5 rc n) x1 M) else F_m_readSum_23 rc (F_m_readSum_5 rc n) x1 M)
set_option maxRecDepth 100000 in
theorem X_m_readSum_5 {nL : Nat} {xs : Nat → Int32} {S : Sto} {O : Sto} {rc : Int32 → Sto → Option (Unit × Sto)} {E d : Nat} (hE : 8 ≤ E) (hd : E + 3 ≤ d) (hrc : ∀ (x1 : Int32) (M : Sto) (r : Unit) (M' : Sto), rc x1 M = some (r, M') → EX nL xs 0 MI_72 E 0 [some (.ref 1000), some (.int x1), none] [] (S, M, O) (.inl none) (S, M', O)) : ∀ n : Nat, ∀ (x1 : Int32) (M : Sto) (r : Unit) (M' : Sto), F_m_readSum_5 rc n x1 M = some (r, M') → EX nL xs 0 MI_69 d 5 [some (.ref 1000), some (.int x1), none] [] (S, M, O) (.inl none) (S, M', O) := by
  intro n
  induction n with
  | zero => intro x1 M r M' hF; cases hF
  | succ n ih =>
  intro x1 M r M' hF
  unfold F_m_readSum_5 at hF
  refine Ex_go 2 (pc' := 8) (L' := [some (.ref 1000), some (.int x1), none]) (st' := [.int (43 : Int32), .ref 1000]) (σ' := (S, M, O)) (rfl) ?_
  obtain ⟨r1, hx2, hF⟩ := b1_i hF
  refine Ex_call (kind := 2) (y := 64) (as := [.ref 1000, .int (43 : Int32)]) (rest := []) (L0 := [some (.ref 1000), some (.int (43 : Int32))]) (d' := 1) (v := some (.int r1)) (σ1 := (S, M, O)) rfl rfl mt_64 rfl rfl (by omega) (X_m_isMarked (Nat.le_refl _) _ _ _ hx2) (Ex_st (st2 := [.int r1]) rfl ?_)
  refine Ex_go 1 (pc' := if ¬ r1 = 0 then 23 else 14) (L' := [some (.ref 1000), some (.int x1), none]) (st' := []) (σ' := (S, M, O)) (rfl) ?_
  refine Ex_brN (fun hc => ?_) (fun hc => ?_)
  · rw [if_pos hc] at hF
    refine Ex_go 2 (pc' := 17) (L' := [some (.ref 1000), some (.int x1), none]) (st' := [.int (45 : Int32), .ref 1000]) (σ' := (S, M, O)) (rfl) ?_
    obtain ⟨r3, hx4, hF⟩ := b1_i hF
    refine Ex_call (kind := 2) (y := 64) (as := [.ref 1000, .int (45 : Int32)]) (rest := []) (L0 := [some (.ref 1000), some (.int (45 : Int32))]) (d' := 1) (v := some (.int r3)) (σ1 := (S, M, O)) rfl rfl mt_64 rfl rfl (by omega) (X_m_isMarked (Nat.le_refl _) _ _ _ hx4) (Ex_st (st2 := [.int r3]) rfl ?_)
    refine Ex_go 1 (pc' := if r3 = 0 then 57 else 23) (L' := [some (.ref 1000), some (.int x1), none]) (st' := []) (σ' := (S, M, O)) (rfl) ?_
    refine Ex_br (fun hc => ?_) (fun hc => ?_)
    · rw [if_pos hc] at hF
      cases hF
      exact Ex_fin rfl
    · rw [if_neg hc] at hF
      exact Ex_mono (L := [some (.ref 1000), some (.int x1), none]) (Le_s (Le_s (Le_n (Le_0)))) (X_m_readSum_23 hE hd hrc ih _ _ _ _ hF) (Nat.le_refl _) (by omega)
  · rw [if_neg hc] at hF
    exact Ex_mono (L := [some (.ref 1000), some (.int x1), none]) (Le_s (Le_s (Le_n (Le_0)))) (X_m_readSum_23 hE hd hrc ih _ _ _ _ hF) (Nat.le_refl _) (by omega)
def F_m_readSum (rc : Int32 → Sto → Option (Unit × Sto)) (x1 : Int32) (M : Sto) : Option (Unit × Sto) := b2 (F_m_readProduct rc x1 M) (fun r1 M3 => F_m_readSum_5 rc FU x1 M3)
set_option maxRecDepth 100000 in
theorem X_m_readSum {nL : Nat} {xs : Nat → Int32} {S : Sto} {O : Sto} {rc : Int32 → Sto → Option (Unit × Sto)} {E d : Nat} (hE : 8 ≤ E) (hd : E + 3 ≤ d) (hrc : ∀ (x1 : Int32) (M : Sto) (r : Unit) (M' : Sto), rc x1 M = some (r, M') → EX nL xs 0 MI_72 E 0 [some (.ref 1000), some (.int x1), none] [] (S, M, O) (.inl none) (S, M', O)) : ∀ (x1 : Int32) (M : Sto) (r : Unit) (M' : Sto), F_m_readSum rc x1 M = some (r, M') → EX nL xs 0 MI_69 d 0 [some (.ref 1000), some (.int x1), none] [] (S, M, O) (.inl none) (S, M', O) := by
  intro x1 M r M' hF
  unfold F_m_readSum at hF
  refine Ex_go 2 (pc' := 2) (L' := [some (.ref 1000), some (.int x1), none]) (st' := [.int x1, .ref 1000]) (σ' := (S, M, O)) (rfl) ?_
  obtain ⟨r1, M3, hx2, hF⟩ := b2_i hF
  refine Ex_call (kind := 2) (y := 68) (as := [.ref 1000, .int x1]) (rest := []) (L0 := [some (.ref 1000), some (.int x1), none]) (d' := (E + 2)) (v := none) (σ1 := (S, M3, O)) rfl rfl mt_68 rfl rfl (by omega) (X_m_readProduct hE (Nat.le_refl _) hrc _ _ _ _ hx2) (Ex_st (st2 := []) rfl ?_)
  exact Ex_mono (L := [some (.ref 1000), some (.int x1), none]) (Le_s (Le_s (Le_n (Le_0)))) (X_m_readSum_5 hE hd hrc FU _ _ _ _ hF) (Nat.le_refl _) (by omega)
def F_m_readNot_22 (rc : Int32 → Sto → Option (Unit × Sto)) (k2 : Int32 → Int32 → Sto → Option (Unit × Sto)) (x1 : Int32) (x2 : Int32) (M : Sto) : Option (Unit × Sto) := if (gi M 1010) = 0 then b2 (F_m_stepOn M) (fun r1 M3 => k2 x1 (x2 + (1 : Int32)) M3) else k2 x1 (x2 + (1 : Int32)) M
set_option maxRecDepth 100000 in
theorem X_m_readNot_22 {nL : Nat} {xs : Nat → Int32} {S : Sto} {O : Sto} {rc : Int32 → Sto → Option (Unit × Sto)} {E d : Nat} (hE : 8 ≤ E) (hd : E + 4 ≤ d) (hrc : ∀ (x1 : Int32) (M : Sto) (r : Unit) (M' : Sto), rc x1 M = some (r, M') → EX nL xs 0 MI_72 E 0 [some (.ref 1000), some (.int x1), none] [] (S, M, O) (.inl none) (S, M', O)) {k2 : Int32 → Int32 → Sto → Option (Unit × Sto)} (hk2 : ∀ (x1 : Int32) (x2 : Int32) (M : Sto) (r : Unit) (M' : Sto), k2 x1 x2 M = some (r, M') → EX nL xs 0 MI_70 d 2 [some (.ref 1000), some (.int x1), some (.int x2), none] [] (S, M, O) (.inl none) (S, M', O)) : ∀ (x1 : Int32) (x2 : Int32) (M : Sto) (r : Unit) (M' : Sto), F_m_readNot_22 rc k2 x1 x2 M = some (r, M') → EX nL xs 0 MI_70 d 22 [some (.ref 1000), some (.int x1), some (.int x2), none] [] (S, M, O) (.inl none) (S, M', O) := by
  intro x1 x2 M r M' hF
  unfold F_m_readNot_22 at hF
  refine Ex_go 4 (pc' := if ¬ (gi M 1010) = 0 then 2 else 32) (L' := [some (.ref 1000), some (.int x1), some (.int (x2 + (1 : Int32))), none]) (st' := []) (σ' := (S, M, O)) (rfl) ?_
  refine Ex_brN (fun hc => ?_) (fun hc => ?_)
  · rw [if_pos hc] at hF
    refine Ex_go 1 (pc' := 33) (L' := [some (.ref 1000), some (.int x1), some (.int (x2 + (1 : Int32))), none]) (st' := [.ref 1000]) (σ' := (S, M, O)) (rfl) ?_
    obtain ⟨r1, M3, hx2, hF⟩ := b2_i hF
    refine Ex_call (kind := 2) (y := 55) (as := [.ref 1000]) (rest := []) (L0 := [some (.ref 1000), none]) (d' := 6) (v := none) (σ1 := (S, M3, O)) rfl rfl mt_55 rfl rfl (by omega) (X_m_stepOn (Nat.le_refl _) _ _ _ hx2) (Ex_st (st2 := []) rfl ?_)
    refine Ex_go 1 (pc' := 2) (L' := [some (.ref 1000), some (.int x1), some (.int (x2 + (1 : Int32))), none]) (st' := []) (σ' := (S, M3, O)) (rfl) ?_
    exact Ex_mono (L := [some (.ref 1000), some (.int x1), some (.int (x2 + (1 : Int32))), none]) (Le_s (Le_s (Le_s (Le_n (Le_0))))) (hk2 _ _ _ _ _ hF) (Nat.le_refl _) (by omega)
  · rw [if_neg hc] at hF
    exact Ex_mono (L := [some (.ref 1000), some (.int x1), some (.int (x2 + (1 : Int32))), none]) (Le_s (Le_s (Le_s (Le_n (Le_0))))) (hk2 _ _ _ _ _ hF) (Nat.le_refl _) (by omega)
def F_m_readNot_95 (rc : Int32 → Sto → Option (Unit × Sto)) : Nat → Int32 → Int32 → Sto → Option (Unit × Sto)
  | 0, _, _, _ => none
  | n + 1, x2, x3, M => if x2 ≤ x3 then some ((), M) else b2 (F_m_lay (-28 : Int32) M) (fun r1 M3 => F_m_readNot_95 rc n x2 (x3 + (1 : Int32)) M3)
set_option maxRecDepth 100000 in
theorem X_m_readNot_95 {nL : Nat} {xs : Nat → Int32} {S : Sto} {O : Sto} {rc : Int32 → Sto → Option (Unit × Sto)} {E d : Nat} (hE : 8 ≤ E) (hd : E + 4 ≤ d) (hrc : ∀ (x1 : Int32) (M : Sto) (r : Unit) (M' : Sto), rc x1 M = some (r, M') → EX nL xs 0 MI_72 E 0 [some (.ref 1000), some (.int x1), none] [] (S, M, O) (.inl none) (S, M', O)) : ∀ n : Nat, ∀ (x2 : Int32) (x3 : Int32) (M : Sto) (r : Unit) (M' : Sto), F_m_readNot_95 rc n x2 x3 M = some (r, M') → EX nL xs 0 MI_70 d 95 [some (.ref 1000), none, some (.int x2), some (.int x3)] [] (S, M, O) (.inl none) (S, M', O) := by
  intro n
  induction n with
  | zero => intro x2 x3 M r M' hF; cases hF
  | succ n ih =>
  intro x2 x3 M r M' hF
  unfold F_m_readNot_95 at hF
  refine Ex_go 3 (pc' := if x2 ≤ x3 then 112 else 100) (L' := [some (.ref 1000), none, some (.int x2), some (.int x3)]) (st' := []) (σ' := (S, M, O)) (rfl) ?_
  refine Ex_br (fun hc => ?_) (fun hc => ?_)
  · rw [if_pos hc] at hF
    cases hF
    exact Ex_fin rfl
  · rw [if_neg hc] at hF
    refine Ex_go 2 (pc' := 103) (L' := [some (.ref 1000), none, some (.int x2), some (.int x3)]) (st' := [.int (-28 : Int32), .ref 1000]) (σ' := (S, M, O)) (rfl) ?_
    obtain ⟨r1, M3, hx2, hF⟩ := b2_i hF
    refine Ex_call (kind := 2) (y := 65) (as := [.ref 1000, .int (-28 : Int32)]) (rest := []) (L0 := [some (.ref 1000), some (.int (-28 : Int32))]) (d' := 1) (v := none) (σ1 := (S, M3, O)) rfl rfl mt_65 rfl rfl (by omega) (X_m_lay (Nat.le_refl _) _ _ _ _ hx2) (Ex_st (st2 := []) rfl ?_)
    refine Ex_go 2 (pc' := 95) (L' := [some (.ref 1000), none, some (.int x2), some (.int (x3 + (1 : Int32)))]) (st' := []) (σ' := (S, M3, O)) (rfl) ?_
    exact Ex_mono (L := [some (.ref 1000), none, some (.int x2), some (.int (x3 + (1 : Int32)))]) (Le_s (Le_n (Le_s (Le_s (Le_0))))) (ih _ _ _ _ _ hF) (Nat.le_refl _) (by omega)
def F_m_readNot_93 (rc : Int32 → Sto → Option (Unit × Sto)) (x2 : Int32) (M : Sto) : Option (Unit × Sto) := F_m_readNot_95 rc FU x2 (0 : Int32) M
set_option maxRecDepth 100000 in
theorem X_m_readNot_93 {nL : Nat} {xs : Nat → Int32} {S : Sto} {O : Sto} {rc : Int32 → Sto → Option (Unit × Sto)} {E d : Nat} (hE : 8 ≤ E) (hd : E + 4 ≤ d) (hrc : ∀ (x1 : Int32) (M : Sto) (r : Unit) (M' : Sto), rc x1 M = some (r, M') → EX nL xs 0 MI_72 E 0 [some (.ref 1000), some (.int x1), none] [] (S, M, O) (.inl none) (S, M', O)) : ∀ (x2 : Int32) (M : Sto) (r : Unit) (M' : Sto), F_m_readNot_93 rc x2 M = some (r, M') → EX nL xs 0 MI_70 d 93 [some (.ref 1000), none, some (.int x2), none] [] (S, M, O) (.inl none) (S, M', O) := by
  intro x2 M r M' hF
  unfold F_m_readNot_93 at hF
  refine Ex_go 2 (pc' := 95) (L' := [some (.ref 1000), none, some (.int x2), some (.int (0 : Int32))]) (st' := []) (σ' := (S, M, O)) (rfl) ?_
  exact Ex_mono (L := [some (.ref 1000), none, some (.int x2), some (.int (0 : Int32))]) (Le_s (Le_n (Le_s (Le_s (Le_0))))) (X_m_readNot_95 hE hd hrc FU _ _ _ _ _ hF) (Nat.le_refl _) (by omega)
def F_m_readNot_78 (rc : Int32 → Sto → Option (Unit × Sto)) (x1 : Int32) (x2 : Int32) (s0 : Int32) (M : Sto) : Option (Unit × Sto) := b2 (F_m_stepOn M) (fun r1 M3 => b2 (F_m_readSum rc x1 M3) (fun r4 M6 => b2 (F_m_lay s0 M6) (fun r7 M9 => F_m_readNot_93 rc x2 M9)))
set_option maxRecDepth 100000 in
theorem X_m_readNot_78 {nL : Nat} {xs : Nat → Int32} {S : Sto} {O : Sto} {rc : Int32 → Sto → Option (Unit × Sto)} {E d : Nat} (hE : 8 ≤ E) (hd : E + 4 ≤ d) (hrc : ∀ (x1 : Int32) (M : Sto) (r : Unit) (M' : Sto), rc x1 M = some (r, M') → EX nL xs 0 MI_72 E 0 [some (.ref 1000), some (.int x1), none] [] (S, M, O) (.inl none) (S, M', O)) : ∀ (x1 : Int32) (x2 : Int32) (s0 : Int32) (M : Sto) (r : Unit) (M' : Sto), F_m_readNot_78 rc x1 x2 s0 M = some (r, M') → EX nL xs 0 MI_70 d 78 [some (.ref 1000), some (.int x1), some (.int x2), none] [.int s0] (S, M, O) (.inl none) (S, M', O) := by
  intro x1 x2 s0 M r M' hF
  unfold F_m_readNot_78 at hF
  refine Ex_go 2 (pc' := 80) (L' := [some (.ref 1000), some (.int x1), some (.int x2), some (.int s0)]) (st' := [.ref 1000]) (σ' := (S, M, O)) (rfl) ?_
  obtain ⟨r1, M3, hx2, hF⟩ := b2_i hF
  refine Ex_call (kind := 2) (y := 55) (as := [.ref 1000]) (rest := []) (L0 := [some (.ref 1000), none]) (d' := 6) (v := none) (σ1 := (S, M3, O)) rfl rfl mt_55 rfl rfl (by omega) (X_m_stepOn (Nat.le_refl _) _ _ _ hx2) (Ex_st (st2 := []) rfl ?_)
  refine Ex_go 2 (pc' := 85) (L' := [some (.ref 1000), some (.int x1), some (.int x2), some (.int s0)]) (st' := [.int x1, .ref 1000]) (σ' := (S, M3, O)) (rfl) ?_
  obtain ⟨r4, M6, hx5, hF⟩ := b2_i hF
  refine Ex_call (kind := 2) (y := 69) (as := [.ref 1000, .int x1]) (rest := []) (L0 := [some (.ref 1000), some (.int x1), none]) (d' := (E + 3)) (v := none) (σ1 := (S, M6, O)) rfl rfl mt_69 rfl rfl (by omega) (X_m_readSum hE (Nat.le_refl _) hrc _ _ _ _ hx5) (Ex_st (st2 := []) rfl ?_)
  refine Ex_go 2 (pc' := 90) (L' := [some (.ref 1000), some (.int x1), some (.int x2), some (.int s0)]) (st' := [.int s0, .ref 1000]) (σ' := (S, M6, O)) (rfl) ?_
  obtain ⟨r7, M9, hx8, hF⟩ := b2_i hF
  refine Ex_call (kind := 2) (y := 65) (as := [.ref 1000, .int s0]) (rest := []) (L0 := [some (.ref 1000), some (.int s0)]) (d' := 1) (v := none) (σ1 := (S, M9, O)) rfl rfl mt_65 rfl rfl (by omega) (X_m_lay (Nat.le_refl _) _ _ _ _ hx8) (Ex_st (st2 := []) rfl ?_)
  exact Ex_mono (L := [some (.ref 1000), none, some (.int x2), none]) (Le_s (Le_n (Le_s (Le_n (Le_0))))) (X_m_readNot_93 hE hd hrc _ _ _ _ hF) (Nat.le_refl _) (by omega)
def F_m_readNot_62 (rc : Int32 → Sto → Option (Unit × Sto)) (x1 : Int32) (x2 : Int32) (M : Sto) : Option (Unit × Sto) := b1 (F_m_isMarked (60 : Int32) M) (fun r1 => if r1 = 0 then F_m_readNot_78 rc x1 x2 (-25 : Int32) M else F_m_readNot_78 rc x1 x2 (-24 : Int32) M)
set_option maxRecDepth 100000 in
theorem X_m_readNot_62 {nL : Nat} {xs : Nat → Int32} {S : Sto} {O : Sto} {rc : Int32 → Sto → Option (Unit × Sto)} {E d : Nat} (hE : 8 ≤ E) (hd : E + 4 ≤ d) (hrc : ∀ (x1 : Int32) (M : Sto) (r : Unit) (M' : Sto), rc x1 M = some (r, M') → EX nL xs 0 MI_72 E 0 [some (.ref 1000), some (.int x1), none] [] (S, M, O) (.inl none) (S, M', O)) : ∀ (x1 : Int32) (x2 : Int32) (M : Sto) (r : Unit) (M' : Sto), F_m_readNot_62 rc x1 x2 M = some (r, M') → EX nL xs 0 MI_70 d 62 [some (.ref 1000), some (.int x1), some (.int x2), none] [] (S, M, O) (.inl none) (S, M', O) := by
  intro x1 x2 M r M' hF
  unfold F_m_readNot_62 at hF
  refine Ex_go 2 (pc' := 65) (L' := [some (.ref 1000), some (.int x1), some (.int x2), none]) (st' := [.int (60 : Int32), .ref 1000]) (σ' := (S, M, O)) (rfl) ?_
  obtain ⟨r1, hx2, hF⟩ := b1_i hF
  refine Ex_call (kind := 2) (y := 64) (as := [.ref 1000, .int (60 : Int32)]) (rest := []) (L0 := [some (.ref 1000), some (.int (60 : Int32))]) (d' := 1) (v := some (.int r1)) (σ1 := (S, M, O)) rfl rfl mt_64 rfl rfl (by omega) (X_m_isMarked (Nat.le_refl _) _ _ _ hx2) (Ex_st (st2 := [.int r1]) rfl ?_)
  refine Ex_go 1 (pc' := if r1 = 0 then 76 else 71) (L' := [some (.ref 1000), some (.int x1), some (.int x2), none]) (st' := []) (σ' := (S, M, O)) (rfl) ?_
  refine Ex_br (fun hc => ?_) (fun hc => ?_)
  · rw [if_pos hc] at hF
    refine Ex_go 1 (pc' := 78) (L' := [some (.ref 1000), some (.int x1), some (.int x2), none]) (st' := [.int (-25 : Int32)]) (σ' := (S, M, O)) (rfl) ?_
    exact Ex_mono (L := [some (.ref 1000), some (.int x1), some (.int x2), none]) (Le_s (Le_s (Le_s (Le_n (Le_0))))) (X_m_readNot_78 hE hd hrc _ _ _ _ _ _ hF) (Nat.le_refl _) (by omega)
  · rw [if_neg hc] at hF
    refine Ex_go 2 (pc' := 78) (L' := [some (.ref 1000), some (.int x1), some (.int x2), none]) (st' := [.int (-24 : Int32)]) (σ' := (S, M, O)) (rfl) ?_
    exact Ex_mono (L := [some (.ref 1000), some (.int x1), some (.int x2), none]) (Le_s (Le_s (Le_s (Le_n (Le_0))))) (X_m_readNot_78 hE hd hrc _ _ _ _ _ _ hF) (Nat.le_refl _) (by omega)
def F_m_readNot_2 (rc : Int32 → Sto → Option (Unit × Sto)) : Nat → Int32 → Int32 → Sto → Option (Unit × Sto)
  | 0, _, _, _ => none
  | n + 1, x1, x2, M => b1 (F_m_is 3019 M) (fun r1 => if r1 = 0 then b2 (F_m_readSum rc x1 M) (fun r3 M5 => b1 (F_m_isMarked (60 : Int32) M5) (fun r6 => if r6 = 0 then b1 (F_m_isMarked (61 : Int32) M5) (fun r8 => if r8 = 0 then F_m_readNot_93 rc x2 M5 else F_m_readNot_62 rc x1 x2 M5) else F_m_readNot_62 rc x1 x2 M5)) else if x2 = (6 : Int32) then b2 (F_m_wrong (2 : Int32) M) (fun r10 M12 => F_m_readNot_22 rc (F_m_readNot_2 rc n) x1 x2 M12) else F_m_readNot_22 rc (F_m_readNot_2 rc n) x1 x2 M)
set_option maxRecDepth 100000 in
theorem X_m_readNot_2 {nL : Nat} {xs : Nat → Int32} {S : Sto} {O : Sto} {rc : Int32 → Sto → Option (Unit × Sto)} {E d : Nat} (hE : 8 ≤ E) (hd : E + 4 ≤ d) (hrc : ∀ (x1 : Int32) (M : Sto) (r : Unit) (M' : Sto), rc x1 M = some (r, M') → EX nL xs 0 MI_72 E 0 [some (.ref 1000), some (.int x1), none] [] (S, M, O) (.inl none) (S, M', O)) : ∀ n : Nat, ∀ (x1 : Int32) (x2 : Int32) (M : Sto) (r : Unit) (M' : Sto), F_m_readNot_2 rc n x1 x2 M = some (r, M') → EX nL xs 0 MI_70 d 2 [some (.ref 1000), some (.int x1), some (.int x2), none] [] (S, M, O) (.inl none) (S, M', O) := by
  intro n
  induction n with
  | zero => intro x1 x2 M r M' hF; cases hF
  | succ n ih =>
  intro x1 x2 M r M' hF
  unfold F_m_readNot_2 at hF
  refine Ex_go 2 (pc' := 5) (L' := [some (.ref 1000), some (.int x1), some (.int x2), none]) (st' := [.ref 3019, .ref 1000]) (σ' := (S, M, O)) (rfl) ?_
  obtain ⟨r1, hx2, hF⟩ := b1_i hF
  refine Ex_call (kind := 2) (y := 56) (as := [.ref 1000, .ref 3019]) (rest := []) (L0 := [some (.ref 1000), some (.ref 3019), none, none]) (d' := 6) (v := some (.int r1)) (σ1 := (S, M, O)) rfl rfl mt_56 rfl rfl (by omega) (X_m_is (Nat.le_refl _) _ _ _ (by decide) hx2) (Ex_st (st2 := [.int r1]) rfl ?_)
  refine Ex_go 1 (pc' := if r1 = 0 then 39 else 11) (L' := [some (.ref 1000), some (.int x1), some (.int x2), none]) (st' := []) (σ' := (S, M, O)) (rfl) ?_
  refine Ex_br (fun hc => ?_) (fun hc => ?_)
  · rw [if_pos hc] at hF
    refine Ex_go 2 (pc' := 41) (L' := [some (.ref 1000), some (.int x1), some (.int x2), none]) (st' := [.int x1, .ref 1000]) (σ' := (S, M, O)) (rfl) ?_
    obtain ⟨r3, M5, hx4, hF⟩ := b2_i hF
    refine Ex_call (kind := 2) (y := 69) (as := [.ref 1000, .int x1]) (rest := []) (L0 := [some (.ref 1000), some (.int x1), none]) (d' := (E + 3)) (v := none) (σ1 := (S, M5, O)) rfl rfl mt_69 rfl rfl (by omega) (X_m_readSum hE (Nat.le_refl _) hrc _ _ _ _ hx4) (Ex_st (st2 := []) rfl ?_)
    refine Ex_go 2 (pc' := 47) (L' := [some (.ref 1000), some (.int x1), some (.int x2), none]) (st' := [.int (60 : Int32), .ref 1000]) (σ' := (S, M5, O)) (rfl) ?_
    obtain ⟨r6, hx7, hF⟩ := b1_i hF
    refine Ex_call (kind := 2) (y := 64) (as := [.ref 1000, .int (60 : Int32)]) (rest := []) (L0 := [some (.ref 1000), some (.int (60 : Int32))]) (d' := 1) (v := some (.int r6)) (σ1 := (S, M5, O)) rfl rfl mt_64 rfl rfl (by omega) (X_m_isMarked (Nat.le_refl _) _ _ _ hx7) (Ex_st (st2 := [.int r6]) rfl ?_)
    refine Ex_go 1 (pc' := if ¬ r6 = 0 then 62 else 53) (L' := [some (.ref 1000), some (.int x1), some (.int x2), none]) (st' := []) (σ' := (S, M5, O)) (rfl) ?_
    refine Ex_brN (fun hc => ?_) (fun hc => ?_)
    · rw [if_pos hc] at hF
      refine Ex_go 2 (pc' := 56) (L' := [some (.ref 1000), some (.int x1), some (.int x2), none]) (st' := [.int (61 : Int32), .ref 1000]) (σ' := (S, M5, O)) (rfl) ?_
      obtain ⟨r8, hx9, hF⟩ := b1_i hF
      refine Ex_call (kind := 2) (y := 64) (as := [.ref 1000, .int (61 : Int32)]) (rest := []) (L0 := [some (.ref 1000), some (.int (61 : Int32))]) (d' := 1) (v := some (.int r8)) (σ1 := (S, M5, O)) rfl rfl mt_64 rfl rfl (by omega) (X_m_isMarked (Nat.le_refl _) _ _ _ hx9) (Ex_st (st2 := [.int r8]) rfl ?_)
      refine Ex_go 1 (pc' := if r8 = 0 then 93 else 62) (L' := [some (.ref 1000), some (.int x1), some (.int x2), none]) (st' := []) (σ' := (S, M5, O)) (rfl) ?_
      refine Ex_br (fun hc => ?_) (fun hc => ?_)
      · rw [if_pos hc] at hF
        exact Ex_mono (L := [some (.ref 1000), none, some (.int x2), none]) (Le_s (Le_n (Le_s (Le_n (Le_0))))) (X_m_readNot_93 hE hd hrc _ _ _ _ hF) (Nat.le_refl _) (by omega)
      · rw [if_neg hc] at hF
        exact Ex_mono (L := [some (.ref 1000), some (.int x1), some (.int x2), none]) (Le_s (Le_s (Le_s (Le_n (Le_0))))) (X_m_readNot_62 hE hd hrc _ _ _ _ _ hF) (Nat.le_refl _) (by omega)
    · rw [if_neg hc] at hF
      exact Ex_mono (L := [some (.ref 1000), some (.int x1), some (.int x2), none]) (Le_s (Le_s (Le_s (Le_n (Le_0))))) (X_m_readNot_62 hE hd hrc _ _ _ _ _ hF) (Nat.le_refl _) (by omega)
  · rw [if_neg hc] at hF
    refine Ex_go 3 (pc' := if ¬ x2 = (6 : Int32) then 22 else 17) (L' := [some (.ref 1000), some (.int x1), some (.int x2), none]) (st' := []) (σ' := (S, M, O)) (rfl) ?_
    refine Ex_brN (fun hc => ?_) (fun hc => ?_)
    · rw [if_pos hc] at hF
      refine Ex_go 2 (pc' := 19) (L' := [some (.ref 1000), some (.int x1), some (.int x2), none]) (st' := [.int (2 : Int32), .ref 1000]) (σ' := (S, M, O)) (rfl) ?_
      obtain ⟨r10, M12, hx11, hF⟩ := b2_i hF
      refine Ex_call (kind := 2) (y := 58) (as := [.ref 1000, .int (2 : Int32)]) (rest := []) (L0 := [some (.ref 1000), some (.int (2 : Int32))]) (d' := 1) (v := none) (σ1 := (S, M12, O)) rfl rfl mt_58 rfl rfl (by omega) (X_m_wrong (Nat.le_refl _) _ _ _ _ hx11) (Ex_st (st2 := []) rfl ?_)
      exact Ex_mono (L := [some (.ref 1000), some (.int x1), some (.int x2), none]) (Le_s (Le_s (Le_s (Le_n (Le_0))))) (X_m_readNot_22 hE hd hrc ih _ _ _ _ _ hF) (Nat.le_refl _) (by omega)
    · rw [if_neg hc] at hF
      exact Ex_mono (L := [some (.ref 1000), some (.int x1), some (.int x2), none]) (Le_s (Le_s (Le_s (Le_n (Le_0))))) (X_m_readNot_22 hE hd hrc ih _ _ _ _ _ hF) (Nat.le_refl _) (by omega)
def F_m_readNot (rc : Int32 → Sto → Option (Unit × Sto)) (x1 : Int32) (M : Sto) : Option (Unit × Sto) := F_m_readNot_2 rc FU x1 (0 : Int32) M
set_option maxRecDepth 100000 in
theorem X_m_readNot {nL : Nat} {xs : Nat → Int32} {S : Sto} {O : Sto} {rc : Int32 → Sto → Option (Unit × Sto)} {E d : Nat} (hE : 8 ≤ E) (hd : E + 4 ≤ d) (hrc : ∀ (x1 : Int32) (M : Sto) (r : Unit) (M' : Sto), rc x1 M = some (r, M') → EX nL xs 0 MI_72 E 0 [some (.ref 1000), some (.int x1), none] [] (S, M, O) (.inl none) (S, M', O)) : ∀ (x1 : Int32) (M : Sto) (r : Unit) (M' : Sto), F_m_readNot rc x1 M = some (r, M') → EX nL xs 0 MI_70 d 0 [some (.ref 1000), some (.int x1), none, none] [] (S, M, O) (.inl none) (S, M', O) := by
  intro x1 M r M' hF
  unfold F_m_readNot at hF
  refine Ex_go 2 (pc' := 2) (L' := [some (.ref 1000), some (.int x1), some (.int (0 : Int32)), none]) (st' := []) (σ' := (S, M, O)) (rfl) ?_
  exact Ex_mono (L := [some (.ref 1000), some (.int x1), some (.int (0 : Int32)), none]) (Le_s (Le_s (Le_s (Le_n (Le_0))))) (X_m_readNot_2 hE hd hrc FU _ _ _ _ _ hF) (Nat.le_refl _) (by omega)
def F_m_readAnd_5 (rc : Int32 → Sto → Option (Unit × Sto)) : Nat → Int32 → Sto → Option (Unit × Sto)
  | 0, _, _ => none
  | n + 1, x1, M => b1 (F_m_is 3018 M) (fun r1 => if r1 = 0 then some ((), M) else b2 (F_m_stepOn M) (fun r3 M5 => b2 (F_m_readNot rc x1 M5) (fun r6 M8 => b2 (F_m_lay (-26 : Int32) M8) (fun r9 M11 => F_m_readAnd_5 rc n x1 M11))))
set_option maxRecDepth 100000 in
theorem X_m_readAnd_5 {nL : Nat} {xs : Nat → Int32} {S : Sto} {O : Sto} {rc : Int32 → Sto → Option (Unit × Sto)} {E d : Nat} (hE : 8 ≤ E) (hd : E + 5 ≤ d) (hrc : ∀ (x1 : Int32) (M : Sto) (r : Unit) (M' : Sto), rc x1 M = some (r, M') → EX nL xs 0 MI_72 E 0 [some (.ref 1000), some (.int x1), none] [] (S, M, O) (.inl none) (S, M', O)) : ∀ n : Nat, ∀ (x1 : Int32) (M : Sto) (r : Unit) (M' : Sto), F_m_readAnd_5 rc n x1 M = some (r, M') → EX nL xs 0 MI_71 d 5 [some (.ref 1000), some (.int x1)] [] (S, M, O) (.inl none) (S, M', O) := by
  intro n
  induction n with
  | zero => intro x1 M r M' hF; cases hF
  | succ n ih =>
  intro x1 M r M' hF
  unfold F_m_readAnd_5 at hF
  refine Ex_go 2 (pc' := 9) (L' := [some (.ref 1000), some (.int x1)]) (st' := [.ref 3018, .ref 1000]) (σ' := (S, M, O)) (rfl) ?_
  obtain ⟨r1, hx2, hF⟩ := b1_i hF
  refine Ex_call (kind := 2) (y := 56) (as := [.ref 1000, .ref 3018]) (rest := []) (L0 := [some (.ref 1000), some (.ref 3018), none, none]) (d' := 6) (v := some (.int r1)) (σ1 := (S, M, O)) rfl rfl mt_56 rfl rfl (by omega) (X_m_is (Nat.le_refl _) _ _ _ (by decide) hx2) (Ex_st (st2 := [.int r1]) rfl ?_)
  refine Ex_go 1 (pc' := if r1 = 0 then 33 else 15) (L' := [some (.ref 1000), some (.int x1)]) (st' := []) (σ' := (S, M, O)) (rfl) ?_
  refine Ex_br (fun hc => ?_) (fun hc => ?_)
  · rw [if_pos hc] at hF
    cases hF
    exact Ex_fin rfl
  · rw [if_neg hc] at hF
    refine Ex_go 1 (pc' := 16) (L' := [some (.ref 1000), some (.int x1)]) (st' := [.ref 1000]) (σ' := (S, M, O)) (rfl) ?_
    obtain ⟨r3, M5, hx4, hF⟩ := b2_i hF
    refine Ex_call (kind := 2) (y := 55) (as := [.ref 1000]) (rest := []) (L0 := [some (.ref 1000), none]) (d' := 6) (v := none) (σ1 := (S, M5, O)) rfl rfl mt_55 rfl rfl (by omega) (X_m_stepOn (Nat.le_refl _) _ _ _ hx4) (Ex_st (st2 := []) rfl ?_)
    refine Ex_go 2 (pc' := 21) (L' := [some (.ref 1000), some (.int x1)]) (st' := [.int x1, .ref 1000]) (σ' := (S, M5, O)) (rfl) ?_
    obtain ⟨r6, M8, hx7, hF⟩ := b2_i hF
    refine Ex_call (kind := 2) (y := 70) (as := [.ref 1000, .int x1]) (rest := []) (L0 := [some (.ref 1000), some (.int x1), none, none]) (d' := (E + 4)) (v := none) (σ1 := (S, M8, O)) rfl rfl mt_70 rfl rfl (by omega) (X_m_readNot hE (Nat.le_refl _) hrc _ _ _ _ hx7) (Ex_st (st2 := []) rfl ?_)
    refine Ex_go 2 (pc' := 27) (L' := [some (.ref 1000), some (.int x1)]) (st' := [.int (-26 : Int32), .ref 1000]) (σ' := (S, M8, O)) (rfl) ?_
    obtain ⟨r9, M11, hx10, hF⟩ := b2_i hF
    refine Ex_call (kind := 2) (y := 65) (as := [.ref 1000, .int (-26 : Int32)]) (rest := []) (L0 := [some (.ref 1000), some (.int (-26 : Int32))]) (d' := 1) (v := none) (σ1 := (S, M11, O)) rfl rfl mt_65 rfl rfl (by omega) (X_m_lay (Nat.le_refl _) _ _ _ _ hx10) (Ex_st (st2 := []) rfl ?_)
    refine Ex_go 1 (pc' := 5) (L' := [some (.ref 1000), some (.int x1)]) (st' := []) (σ' := (S, M11, O)) (rfl) ?_
    exact Ex_mono (L := [some (.ref 1000), some (.int x1)]) (Le_s (Le_s (Le_0))) (ih _ _ _ _ hF) (Nat.le_refl _) (by omega)
def F_m_readAnd (rc : Int32 → Sto → Option (Unit × Sto)) (x1 : Int32) (M : Sto) : Option (Unit × Sto) := b2 (F_m_readNot rc x1 M) (fun r1 M3 => F_m_readAnd_5 rc FU x1 M3)
set_option maxRecDepth 100000 in
theorem X_m_readAnd {nL : Nat} {xs : Nat → Int32} {S : Sto} {O : Sto} {rc : Int32 → Sto → Option (Unit × Sto)} {E d : Nat} (hE : 8 ≤ E) (hd : E + 5 ≤ d) (hrc : ∀ (x1 : Int32) (M : Sto) (r : Unit) (M' : Sto), rc x1 M = some (r, M') → EX nL xs 0 MI_72 E 0 [some (.ref 1000), some (.int x1), none] [] (S, M, O) (.inl none) (S, M', O)) : ∀ (x1 : Int32) (M : Sto) (r : Unit) (M' : Sto), F_m_readAnd rc x1 M = some (r, M') → EX nL xs 0 MI_71 d 0 [some (.ref 1000), some (.int x1)] [] (S, M, O) (.inl none) (S, M', O) := by
  intro x1 M r M' hF
  unfold F_m_readAnd at hF
  refine Ex_go 2 (pc' := 2) (L' := [some (.ref 1000), some (.int x1)]) (st' := [.int x1, .ref 1000]) (σ' := (S, M, O)) (rfl) ?_
  obtain ⟨r1, M3, hx2, hF⟩ := b2_i hF
  refine Ex_call (kind := 2) (y := 70) (as := [.ref 1000, .int x1]) (rest := []) (L0 := [some (.ref 1000), some (.int x1), none, none]) (d' := (E + 4)) (v := none) (σ1 := (S, M3, O)) rfl rfl mt_70 rfl rfl (by omega) (X_m_readNot hE (Nat.le_refl _) hrc _ _ _ _ hx2) (Ex_st (st2 := []) rfl ?_)
  exact Ex_mono (L := [some (.ref 1000), some (.int x1)]) (Le_s (Le_s (Le_0))) (X_m_readAnd_5 hE hd hrc FU _ _ _ _ hF) (Nat.le_refl _) (by omega)
def F_m_readExpressionb_67 (rc : Int32 → Sto → Option (Unit × Sto)) : Nat → Int32 → Sto → Option (Unit × Sto)
  | 0, _, _ => none
  | n + 1, x1, M => b1 (F_m_is 3017 M) (fun r1 => if r1 = 0 then some ((), M) else b2 (F_m_stepOn M) (fun r3 M5 => b2 (F_m_readAnd rc x1 M5) (fun r6 M8 => b2 (F_m_lay (-27 : Int32) M8) (fun r9 M11 => F_m_readExpressionb_67 rc n x1 M11))))
set_option maxRecDepth 100000 in
theorem X_m_readExpressionb_67 {nL : Nat} {xs : Nat → Int32} {S : Sto} {O : Sto} {rc : Int32 → Sto → Option (Unit × Sto)} {E d : Nat} (hE : 8 ≤ E) (hd : E + 6 ≤ d) (hrc : ∀ (x1 : Int32) (M : Sto) (r : Unit) (M' : Sto), rc x1 M = some (r, M') → EX nL xs 0 MI_72 E 0 [some (.ref 1000), some (.int x1), none] [] (S, M, O) (.inl none) (S, M', O)) : ∀ n : Nat, ∀ (x1 : Int32) (M : Sto) (r : Unit) (M' : Sto), F_m_readExpressionb_67 rc n x1 M = some (r, M') → EX nL xs 0 MI_72 d 67 [some (.ref 1000), some (.int x1), none] [] (S, M, O) (.inl none) (S, M', O) := by
  intro n
  induction n with
  | zero => intro x1 M r M' hF; cases hF
  | succ n ih =>
  intro x1 M r M' hF
  unfold F_m_readExpressionb_67 at hF
  refine Ex_go 2 (pc' := 71) (L' := [some (.ref 1000), some (.int x1), none]) (st' := [.ref 3017, .ref 1000]) (σ' := (S, M, O)) (rfl) ?_
  obtain ⟨r1, hx2, hF⟩ := b1_i hF
  refine Ex_call (kind := 2) (y := 56) (as := [.ref 1000, .ref 3017]) (rest := []) (L0 := [some (.ref 1000), some (.ref 3017), none, none]) (d' := 6) (v := some (.int r1)) (σ1 := (S, M, O)) rfl rfl mt_56 rfl rfl (by omega) (X_m_is (Nat.le_refl _) _ _ _ (by decide) hx2) (Ex_st (st2 := [.int r1]) rfl ?_)
  refine Ex_go 1 (pc' := if r1 = 0 then 95 else 77) (L' := [some (.ref 1000), some (.int x1), none]) (st' := []) (σ' := (S, M, O)) (rfl) ?_
  refine Ex_br (fun hc => ?_) (fun hc => ?_)
  · rw [if_pos hc] at hF
    cases hF
    exact Ex_fin rfl
  · rw [if_neg hc] at hF
    refine Ex_go 1 (pc' := 78) (L' := [some (.ref 1000), some (.int x1), none]) (st' := [.ref 1000]) (σ' := (S, M, O)) (rfl) ?_
    obtain ⟨r3, M5, hx4, hF⟩ := b2_i hF
    refine Ex_call (kind := 2) (y := 55) (as := [.ref 1000]) (rest := []) (L0 := [some (.ref 1000), none]) (d' := 6) (v := none) (σ1 := (S, M5, O)) rfl rfl mt_55 rfl rfl (by omega) (X_m_stepOn (Nat.le_refl _) _ _ _ hx4) (Ex_st (st2 := []) rfl ?_)
    refine Ex_go 2 (pc' := 83) (L' := [some (.ref 1000), some (.int x1), none]) (st' := [.int x1, .ref 1000]) (σ' := (S, M5, O)) (rfl) ?_
    obtain ⟨r6, M8, hx7, hF⟩ := b2_i hF
    refine Ex_call (kind := 2) (y := 71) (as := [.ref 1000, .int x1]) (rest := []) (L0 := [some (.ref 1000), some (.int x1)]) (d' := (E + 5)) (v := none) (σ1 := (S, M8, O)) rfl rfl mt_71 rfl rfl (by omega) (X_m_readAnd hE (Nat.le_refl _) hrc _ _ _ _ hx7) (Ex_st (st2 := []) rfl ?_)
    refine Ex_go 2 (pc' := 89) (L' := [some (.ref 1000), some (.int x1), none]) (st' := [.int (-27 : Int32), .ref 1000]) (σ' := (S, M8, O)) (rfl) ?_
    obtain ⟨r9, M11, hx10, hF⟩ := b2_i hF
    refine Ex_call (kind := 2) (y := 65) (as := [.ref 1000, .int (-27 : Int32)]) (rest := []) (L0 := [some (.ref 1000), some (.int (-27 : Int32))]) (d' := 1) (v := none) (σ1 := (S, M11, O)) rfl rfl mt_65 rfl rfl (by omega) (X_m_lay (Nat.le_refl _) _ _ _ _ hx10) (Ex_st (st2 := []) rfl ?_)
    refine Ex_go 1 (pc' := 67) (L' := [some (.ref 1000), some (.int x1), none]) (st' := []) (σ' := (S, M11, O)) (rfl) ?_
    exact Ex_mono (L := [some (.ref 1000), some (.int x1), none]) (Le_s (Le_s (Le_n (Le_0)))) (ih _ _ _ _ hF) (Nat.le_refl _) (by omega)
def F_m_readExpressionb_62 (rc : Int32 → Sto → Option (Unit × Sto)) (x1 : Int32) (M : Sto) : Option (Unit × Sto) := b2 (F_m_readAnd rc x1 M) (fun r1 M3 => F_m_readExpressionb_67 rc FU x1 M3)
set_option maxRecDepth 100000 in
theorem X_m_readExpressionb_62 {nL : Nat} {xs : Nat → Int32} {S : Sto} {O : Sto} {rc : Int32 → Sto → Option (Unit × Sto)} {E d : Nat} (hE : 8 ≤ E) (hd : E + 6 ≤ d) (hrc : ∀ (x1 : Int32) (M : Sto) (r : Unit) (M' : Sto), rc x1 M = some (r, M') → EX nL xs 0 MI_72 E 0 [some (.ref 1000), some (.int x1), none] [] (S, M, O) (.inl none) (S, M', O)) : ∀ (x1 : Int32) (M : Sto) (r : Unit) (M' : Sto), F_m_readExpressionb_62 rc x1 M = some (r, M') → EX nL xs 0 MI_72 d 62 [some (.ref 1000), some (.int x1), none] [] (S, M, O) (.inl none) (S, M', O) := by
  intro x1 M r M' hF
  unfold F_m_readExpressionb_62 at hF
  refine Ex_go 2 (pc' := 64) (L' := [some (.ref 1000), some (.int x1), none]) (st' := [.int x1, .ref 1000]) (σ' := (S, M, O)) (rfl) ?_
  obtain ⟨r1, M3, hx2, hF⟩ := b2_i hF
  refine Ex_call (kind := 2) (y := 71) (as := [.ref 1000, .int x1]) (rest := []) (L0 := [some (.ref 1000), some (.int x1)]) (d' := (E + 5)) (v := none) (σ1 := (S, M3, O)) rfl rfl mt_71 rfl rfl (by omega) (X_m_readAnd hE (Nat.le_refl _) hrc _ _ _ _ hx2) (Ex_st (st2 := []) rfl ?_)
  exact Ex_mono (L := [some (.ref 1000), some (.int x1), none]) (Le_s (Le_s (Le_n (Le_0)))) (X_m_readExpressionb_67 hE hd hrc FU _ _ _ _ hF) (Nat.le_refl _) (by omega)
def F_m_readExpressionb_38 (rc : Int32 → Sto → Option (Unit × Sto)) (x1 : Int32) (s0 : Int32) (M : Sto) : Option (Unit × Sto) := if s0 = 0 then b2 (F_m_wrong (1 : Int32) M) (fun r4 M6 => F_m_readExpressionb_62 rc x1 M6) else if x1 = (6 : Int32) then b2 (F_m_wrong (2 : Int32) M) (fun r1 M3 => F_m_readExpressionb_62 rc x1 M3) else F_m_readExpressionb_62 rc x1 M
set_option maxRecDepth 100000 in
theorem X_m_readExpressionb_38 {nL : Nat} {xs : Nat → Int32} {S : Sto} {O : Sto} {rc : Int32 → Sto → Option (Unit × Sto)} {E d : Nat} (hE : 8 ≤ E) (hd : E + 6 ≤ d) (hrc : ∀ (x1 : Int32) (M : Sto) (r : Unit) (M' : Sto), rc x1 M = some (r, M') → EX nL xs 0 MI_72 E 0 [some (.ref 1000), some (.int x1), none] [] (S, M, O) (.inl none) (S, M', O)) : ∀ (x1 : Int32) (s0 : Int32) (M : Sto) (r : Unit) (M' : Sto), F_m_readExpressionb_38 rc x1 s0 M = some (r, M') → EX nL xs 0 MI_72 d 38 [some (.ref 1000), some (.int x1), none] [.int s0] (S, M, O) (.inl none) (S, M', O) := by
  intro x1 s0 M r M' hF
  unfold F_m_readExpressionb_38 at hF
  refine Ex_go 3 (pc' := if ¬ s0 = 0 then 51 else 43) (L' := [some (.ref 1000), some (.int x1), some (.int s0)]) (st' := []) (σ' := (S, M, O)) (rfl) ?_
  refine Ex_brN (fun hc => ?_) (fun hc => ?_)
  · rw [if_pos hc] at hF
    refine Ex_go 2 (pc' := 45) (L' := [some (.ref 1000), some (.int x1), some (.int s0)]) (st' := [.int (1 : Int32), .ref 1000]) (σ' := (S, M, O)) (rfl) ?_
    obtain ⟨r4, M6, hx5, hF⟩ := b2_i hF
    refine Ex_call (kind := 2) (y := 58) (as := [.ref 1000, .int (1 : Int32)]) (rest := []) (L0 := [some (.ref 1000), some (.int (1 : Int32))]) (d' := 1) (v := none) (σ1 := (S, M6, O)) rfl rfl mt_58 rfl rfl (by omega) (X_m_wrong (Nat.le_refl _) _ _ _ _ hx5) (Ex_st (st2 := []) rfl ?_)
    refine Ex_go 1 (pc' := 62) (L' := [some (.ref 1000), some (.int x1), some (.int s0)]) (st' := []) (σ' := (S, M6, O)) (rfl) ?_
    exact Ex_mono (L := [some (.ref 1000), some (.int x1), none]) (Le_s (Le_s (Le_n (Le_0)))) (X_m_readExpressionb_62 hE hd hrc _ _ _ _ hF) (Nat.le_refl _) (by omega)
  · rw [if_neg hc] at hF
    refine Ex_go 3 (pc' := if ¬ x1 = (6 : Int32) then 62 else 57) (L' := [some (.ref 1000), some (.int x1), some (.int s0)]) (st' := []) (σ' := (S, M, O)) (rfl) ?_
    refine Ex_brN (fun hc => ?_) (fun hc => ?_)
    · rw [if_pos hc] at hF
      refine Ex_go 2 (pc' := 59) (L' := [some (.ref 1000), some (.int x1), some (.int s0)]) (st' := [.int (2 : Int32), .ref 1000]) (σ' := (S, M, O)) (rfl) ?_
      obtain ⟨r1, M3, hx2, hF⟩ := b2_i hF
      refine Ex_call (kind := 2) (y := 58) (as := [.ref 1000, .int (2 : Int32)]) (rest := []) (L0 := [some (.ref 1000), some (.int (2 : Int32))]) (d' := 1) (v := none) (σ1 := (S, M3, O)) rfl rfl mt_58 rfl rfl (by omega) (X_m_wrong (Nat.le_refl _) _ _ _ _ hx2) (Ex_st (st2 := []) rfl ?_)
      exact Ex_mono (L := [some (.ref 1000), some (.int x1), none]) (Le_s (Le_s (Le_n (Le_0)))) (X_m_readExpressionb_62 hE hd hrc _ _ _ _ hF) (Nat.le_refl _) (by omega)
    · rw [if_neg hc] at hF
      exact Ex_mono (L := [some (.ref 1000), some (.int x1), none]) (Le_s (Le_s (Le_n (Le_0)))) (X_m_readExpressionb_62 hE hd hrc _ _ _ _ hF) (Nat.le_refl _) (by omega)
def F_m_readExpressionb_33 (rc : Int32 → Sto → Option (Unit × Sto)) (x1 : Int32) (M : Sto) : Option (Unit × Sto) := F_m_readExpressionb_38 rc x1 (1 : Int32) M
set_option maxRecDepth 100000 in
theorem X_m_readExpressionb_33 {nL : Nat} {xs : Nat → Int32} {S : Sto} {O : Sto} {rc : Int32 → Sto → Option (Unit × Sto)} {E d : Nat} (hE : 8 ≤ E) (hd : E + 6 ≤ d) (hrc : ∀ (x1 : Int32) (M : Sto) (r : Unit) (M' : Sto), rc x1 M = some (r, M') → EX nL xs 0 MI_72 E 0 [some (.ref 1000), some (.int x1), none] [] (S, M, O) (.inl none) (S, M', O)) : ∀ (x1 : Int32) (M : Sto) (r : Unit) (M' : Sto), F_m_readExpressionb_33 rc x1 M = some (r, M') → EX nL xs 0 MI_72 d 33 [some (.ref 1000), some (.int x1), none] [] (S, M, O) (.inl none) (S, M', O) := by
  intro x1 M r M' hF
  unfold F_m_readExpressionb_33 at hF
  refine Ex_go 2 (pc' := 38) (L' := [some (.ref 1000), some (.int x1), none]) (st' := [.int (1 : Int32)]) (σ' := (S, M, O)) (rfl) ?_
  exact Ex_mono (L := [some (.ref 1000), some (.int x1), none]) (Le_s (Le_s (Le_n (Le_0)))) (X_m_readExpressionb_38 hE hd hrc _ _ _ _ _ hF) (Nat.le_refl _) (by omega)
def F_m_readExpressionb (rc : Int32 → Sto → Option (Unit × Sto)) (x1 : Int32) (M : Sto) : Option (Unit × Sto) := if (gi M 1010) = 0 then if (gi M 1006) = (2 : Int32) then F_m_readExpressionb_33 rc x1 M else if (gi M 1006) = (1 : Int32) then F_m_readExpressionb_33 rc x1 M else b1 (F_m_isMarked (40 : Int32) M) (fun r1 => if r1 = 0 then F_m_readExpressionb_38 rc x1 (0 : Int32) M else F_m_readExpressionb_33 rc x1 M) else some ((), M)
set_option maxRecDepth 100000 in
theorem X_m_readExpressionb {nL : Nat} {xs : Nat → Int32} {S : Sto} {O : Sto} {rc : Int32 → Sto → Option (Unit × Sto)} {E d : Nat} (hE : 8 ≤ E) (hd : E + 6 ≤ d) (hrc : ∀ (x1 : Int32) (M : Sto) (r : Unit) (M' : Sto), rc x1 M = some (r, M') → EX nL xs 0 MI_72 E 0 [some (.ref 1000), some (.int x1), none] [] (S, M, O) (.inl none) (S, M', O)) : ∀ (x1 : Int32) (M : Sto) (r : Unit) (M' : Sto), F_m_readExpressionb rc x1 M = some (r, M') → EX nL xs 0 MI_72 d 0 [some (.ref 1000), some (.int x1), none] [] (S, M, O) (.inl none) (S, M', O) := by
  intro x1 M r M' hF
  unfold F_m_readExpressionb at hF
  refine Ex_go 3 (pc' := if (gi M 1010) = 0 then 8 else 7) (L' := [some (.ref 1000), some (.int x1), none]) (st' := []) (σ' := (S, M, O)) (rfl) ?_
  refine Ex_br (fun hc => ?_) (fun hc => ?_)
  · rw [if_pos hc] at hF
    refine Ex_go 4 (pc' := if (gi M 1006) = (2 : Int32) then 33 else 16) (L' := [some (.ref 1000), some (.int x1), none]) (st' := []) (σ' := (S, M, O)) (rfl) ?_
    refine Ex_br (fun hc => ?_) (fun hc => ?_)
    · rw [if_pos hc] at hF
      exact Ex_mono (L := [some (.ref 1000), some (.int x1), none]) (Le_s (Le_s (Le_n (Le_0)))) (X_m_readExpressionb_33 hE hd hrc _ _ _ _ hF) (Nat.le_refl _) (by omega)
    · rw [if_neg hc] at hF
      refine Ex_go 4 (pc' := if (gi M 1006) = (1 : Int32) then 33 else 24) (L' := [some (.ref 1000), some (.int x1), none]) (st' := []) (σ' := (S, M, O)) (rfl) ?_
      refine Ex_br (fun hc => ?_) (fun hc => ?_)
      · rw [if_pos hc] at hF
        exact Ex_mono (L := [some (.ref 1000), some (.int x1), none]) (Le_s (Le_s (Le_n (Le_0)))) (X_m_readExpressionb_33 hE hd hrc _ _ _ _ hF) (Nat.le_refl _) (by omega)
      · rw [if_neg hc] at hF
        refine Ex_go 2 (pc' := 27) (L' := [some (.ref 1000), some (.int x1), none]) (st' := [.int (40 : Int32), .ref 1000]) (σ' := (S, M, O)) (rfl) ?_
        obtain ⟨r1, hx2, hF⟩ := b1_i hF
        refine Ex_call (kind := 2) (y := 64) (as := [.ref 1000, .int (40 : Int32)]) (rest := []) (L0 := [some (.ref 1000), some (.int (40 : Int32))]) (d' := 1) (v := some (.int r1)) (σ1 := (S, M, O)) rfl rfl mt_64 rfl rfl (by omega) (X_m_isMarked (Nat.le_refl _) _ _ _ hx2) (Ex_st (st2 := [.int r1]) rfl ?_)
        refine Ex_go 1 (pc' := if r1 = 0 then 37 else 33) (L' := [some (.ref 1000), some (.int x1), none]) (st' := []) (σ' := (S, M, O)) (rfl) ?_
        refine Ex_br (fun hc => ?_) (fun hc => ?_)
        · rw [if_pos hc] at hF
          refine Ex_go 1 (pc' := 38) (L' := [some (.ref 1000), some (.int x1), none]) (st' := [.int (0 : Int32)]) (σ' := (S, M, O)) (rfl) ?_
          exact Ex_mono (L := [some (.ref 1000), some (.int x1), none]) (Le_s (Le_s (Le_n (Le_0)))) (X_m_readExpressionb_38 hE hd hrc _ _ _ _ _ hF) (Nat.le_refl _) (by omega)
        · rw [if_neg hc] at hF
          exact Ex_mono (L := [some (.ref 1000), some (.int x1), none]) (Le_s (Le_s (Le_n (Le_0)))) (X_m_readExpressionb_33 hE hd hrc _ _ _ _ hF) (Nat.le_refl _) (by omega)
  · rw [if_neg hc] at hF
    cases hF
    exact Ex_fin rfl
def F_m_readExpression : Nat → Int32 → Sto → Option (Unit × Sto)
  | 0, _, _ => none
  | n + 1, x1, M => F_m_readExpressionb (F_m_readExpression n) x1 M
set_option maxRecDepth 100000 in
theorem X_m_readExpression {nL : Nat} {xs : Nat → Int32} {S : Sto} {O : Sto} : ∀ (n : Nat) {d : Nat}, 8 + 6 * n ≤ d → ∀ (x1 : Int32) (M : Sto) (r : Unit) (M' : Sto), F_m_readExpression n x1 M = some (r, M') → EX nL xs 0 MI_72 d 0 [some (.ref 1000), some (.int x1), none] [] (S, M, O) (.inl none) (S, M', O) := by
  intro n
  induction n with
  | zero => intro d hd x1 M r M' hF; cases hF
  | succ n ih =>
  intro d hd x1 M r M' hF
  exact X_m_readExpressionb (E := 8 + 6 * n) (Nat.le_add_right _ _) (by omega) (ih (Nat.le_refl _)) x1 M r M' hF
