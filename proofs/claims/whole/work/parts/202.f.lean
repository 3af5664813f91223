/-! ===== what the methods do, as functions, and that the small machine does it (printed by wip/whole/gen4.py) ===== -/
def F_m_leastFrom_25 (M : Sto) : Option Int64 := some (-1 : Int64)
set_option maxRecDepth 100000 in
theorem X_m_leastFrom_25 {nL : Nat} {xs : Nat → Int32} {S : Sto} {O : Sto} {d : Nat} (hd : 6 ≤ d) : ∀ (M : Sto) (r : Int64), F_m_leastFrom_25 M = some r → EX nL xs 0 MI_139 d 25 [none, none, none, none, none, none, none, none, none] [] (S, M, O) (.inl (some (.long r))) (S, M, O) := by
  intro M r hF
  unfold F_m_leastFrom_25 at hF
  refine Ex_go 1 (pc' := 28) (L' := [none, none, none, none, none, none, none, none, none]) (st' := [.long (-1 : Int64)]) (σ' := (S, M, O)) (rfl) ?_
  cases hF
  exact Ex_fin rfl
def F_m_leastFrom_62 (s0 : Int64) (s1 : Int64) (M : Sto) : Option Int64 := if (s0 + s1) ≤ (gl M 1025) then some (s0 + s1) else some (-1 : Int64)
set_option maxRecDepth 100000 in
theorem X_m_leastFrom_62 {nL : Nat} {xs : Nat → Int32} {S : Sto} {O : Sto} {d : Nat} (hd : 6 ≤ d) : ∀ (s0 : Int64) (s1 : Int64) (M : Sto) (r : Int64), F_m_leastFrom_62 s0 s1 M = some r → EX nL xs 0 MI_139 d 62 [some (.ref 1000), none, none, none, none, none, none, none, none] [.long s1, .long s0] (S, M, O) (.inl (some (.long r))) (S, M, O) := by
  intro s0 s1 M r hF
  unfold F_m_leastFrom_62 at hF
  refine Ex_go 7 (pc' := if (lg_cmp (s0 + s1) (gl M 1025)) ≤ 0 then 81 else 75) (L' := [some (.ref 1000), none, none, none, none, none, none, some (.long (s0 + s1)), none]) (st' := []) (σ' := (S, M, O)) (rfl) ?_
  refine Ex_brI lc_le (fun hc => ?_) (fun hc => ?_)
  · rw [if_pos hc] at hF
    refine Ex_go 1 (pc' := 83) (L' := [some (.ref 1000), none, none, none, none, none, none, some (.long (s0 + s1)), none]) (st' := [.long (s0 + s1)]) (σ' := (S, M, O)) (rfl) ?_
    cases hF
    exact Ex_fin rfl
  · rw [if_neg hc] at hF
    refine Ex_go 2 (pc' := 83) (L' := [some (.ref 1000), none, none, none, none, none, none, some (.long (s0 + s1)), none]) (st' := [.long (-1 : Int64)]) (σ' := (S, M, O)) (rfl) ?_
    cases hF
    exact Ex_fin rfl
def F_m_leastFrom (x1 : Int64) (M : Sto) : Option Int64 := if (gi M 1026) = 0 then if (mxL (gl M 1024) x1) ≤ (gl M 1025) then ck (nzL (gl M 1022)) (nm ((gl M 1023) - ((mxL (gl M 1024) x1) - (mxL (gl M 1024) x1) / (gl M 1022) * (gl M 1022))) (fun t2 => if (0 : Int64) ≤ t2 then F_m_leastFrom_62 (mxL (gl M 1024) x1) t2 M else F_m_leastFrom_62 (mxL (gl M 1024) x1) (t2 + (gl M 1022)) M)) else F_m_leastFrom_25 M else F_m_leastFrom_25 M
set_option maxRecDepth 100000 in
theorem X_m_leastFrom {nL : Nat} {xs : Nat → Int32} {S : Sto} {O : Sto} {d : Nat} (hd : 6 ≤ d) : ∀ (x1 : Int64) (M : Sto) (r : Int64), F_m_leastFrom x1 M = some r → EX nL xs 0 MI_139 d 0 [some (.ref 1000), some (.long x1), none, none, none, none, none, none, none] [] (S, M, O) (.inl (some (.long r))) (S, M, O) := by
  intro x1 M r hF
  unfold F_m_leastFrom at hF
  refine Ex_go 3 (pc' := 5) (L' := [some (.ref 1000), some (.long x1), none, none, none, none, none, none, none]) (st' := [.long x1, .long (gl M 1024)]) (σ' := (S, M, O)) (rfl) ?_
  refine Ex_blt (kind := 11) (y := 0) (as := [.long (gl M 1024), .long x1]) (rest := []) (v := .long (mxL (gl M 1024) x1)) rfl rfl (by omega) ?_
  refine Ex_go 4 (pc' := if ¬ (gi M 1026) = 0 then 25 else 16) (L' := [some (.ref 1000), some (.long x1), none, some (.long (mxL (gl M 1024) x1)), none, none, none, none, none]) (st' := []) (σ' := (S, M, O)) (rfl) ?_
  refine Ex_brN (fun hc => ?_) (fun hc => ?_)
  · rw [if_pos hc] at hF
    refine Ex_go 5 (pc' := if (lg_cmp (mxL (gl M 1024) x1) (gl M 1025)) ≤ 0 then 29 else 25) (L' := [some (.ref 1000), some (.long x1), none, some (.long (mxL (gl M 1024) x1)), none, none, none, none, none]) (st' := []) (σ' := (S, M, O)) (rfl) ?_
    refine Ex_brI lc_le (fun hc => ?_) (fun hc => ?_)
    · rw [if_pos hc] at hF
      refine Ex_go 5 (pc' := 38) (L' := [some (.ref 1000), some (.long x1), none, some (.long (mxL (gl M 1024) x1)), none, none, none, none, none]) (st' := [.long (gl M 1022), .long (mxL (gl M 1024) x1), .long (gl M 1023)]) (σ' := (S, M, O)) (rfl) ?_
      obtain ⟨hc1, hF⟩ := ck_i hF
      refine Ex_chk (b := nzL (gl M 1022)) (pc' := 39) (L' := [some (.ref 1000), some (.long x1), none, some (.long (mxL (gl M 1024) x1)), none, none, none, none, none]) (st' := [.long ((mxL (gl M 1024) x1) - (mxL (gl M 1024) x1) / (gl M 1022) * (gl M 1022)), .long (gl M 1023)]) (σ' := (S, M, O)) rfl hc1 ?_
      obtain ⟨t2, ht3, hF⟩ := nm_i hF
      refine Ex_go 2 (pc' := 42) (L' := [some (.ref 1000), some (.long x1), none, some (.long (mxL (gl M 1024) x1)), none, some (.long t2), none, none, none]) (st' := []) (σ' := (S, M, O)) (by rw [ht3]; rfl) ?_
      refine Ex_go 5 (pc' := if 0 ≤ (lg_cmp t2 (0 : Int64)) then 60 else 50) (L' := [some (.ref 1000), some (.long x1), none, some (.long (mxL (gl M 1024) x1)), none, some (.long t2), none, none, none]) (st' := [.long (mxL (gl M 1024) x1)]) (σ' := (S, M, O)) (rfl) ?_
      refine Ex_brI lc_ge (fun hc => ?_) (fun hc => ?_)
      · rw [if_pos hc] at hF
        refine Ex_go 1 (pc' := 62) (L' := [some (.ref 1000), some (.long x1), none, some (.long (mxL (gl M 1024) x1)), none, some (.long t2), none, none, none]) (st' := [.long t2, .long (mxL (gl M 1024) x1)]) (σ' := (S, M, O)) (rfl) ?_
        exact Ex_mono (L := [some (.ref 1000), none, none, none, none, none, none, none, none]) (Le_s (Le_n (Le_n (Le_n (Le_n (Le_n (Le_n (Le_n (Le_n (Le_0)))))))))) (X_m_leastFrom_62 hd _ _ _ _ hF) (Nat.le_refl _) (by omega)
      · rw [if_neg hc] at hF
        refine Ex_go 5 (pc' := 62) (L' := [some (.ref 1000), some (.long x1), none, some (.long (mxL (gl M 1024) x1)), none, some (.long t2), none, none, none]) (st' := [.long (t2 + (gl M 1022)), .long (mxL (gl M 1024) x1)]) (σ' := (S, M, O)) (rfl) ?_
        exact Ex_mono (L := [some (.ref 1000), none, none, none, none, none, none, none, none]) (Le_s (Le_n (Le_n (Le_n (Le_n (Le_n (Le_n (Le_n (Le_n (Le_0)))))))))) (X_m_leastFrom_62 hd _ _ _ _ hF) (Nat.le_refl _) (by omega)
    · rw [if_neg hc] at hF
      exact Ex_mono (L := [none, none, none, none, none, none, none, none, none]) (Le_n (Le_n (Le_n (Le_n (Le_n (Le_n (Le_n (Le_n (Le_n (Le_0)))))))))) (X_m_leastFrom_25 hd _ _ hF) (Nat.le_refl _) (by omega)
  · rw [if_neg hc] at hF
    exact Ex_mono (L := [none, none, none, none, none, none, none, none, none]) (Le_n (Le_n (Le_n (Le_n (Le_n (Le_n (Le_n (Le_n (Le_n (Le_0)))))))))) (X_m_leastFrom_25 hd _ _ hF) (Nat.le_refl _) (by omega)
def F_m_manyNow (M : Sto) : Option Int64 := b1 (F_m_leastFrom (gl M 1024) M) (fun r1 => if r1 = (-1 : Int64) then some (0 : Int64) else ck (nzL (gl M 1022)) (some ((((gl M 1025) - r1) / (gl M 1022)) + (1 : Int64))))
set_option maxRecDepth 100000 in
theorem X_m_manyNow {nL : Nat} {xs : Nat → Int32} {S : Sto} {O : Sto} {d : Nat} (hd : 7 ≤ d) : ∀ (M : Sto) (r : Int64), F_m_manyNow M = some r → EX nL xs 0 MI_140 d 0 [some (.ref 1000), none, none] [] (S, M, O) (.inl (some (.long r))) (S, M, O) := by
  intro M r hF
  unfold F_m_manyNow at hF
  refine Ex_go 3 (pc' := 5) (L' := [some (.ref 1000), none, none]) (st' := [.long (gl M 1024), .ref 1000]) (σ' := (S, M, O)) (rfl) ?_
  obtain ⟨r1, hx2, hF⟩ := b1_i hF
  refine Ex_call (kind := 2) (y := 139) (as := [.ref 1000, .long (gl M 1024)]) (rest := []) (L0 := [some (.ref 1000), some (.long (gl M 1024)), none, none, none, none, none, none, none]) (d' := 6) (v := some (.long r1)) (σ1 := (S, M, O)) rfl rfl mt_139 rfl rfl (by omega) (X_m_leastFrom (Nat.le_refl _) _ _ _ hx2) (Ex_st (st2 := [.long r1]) rfl ?_)
  refine Ex_go 5 (pc' := if ¬ (lg_cmp r1 (-1 : Int64)) = 0 then 21 else 17) (L' := [some (.ref 1000), some (.long r1), none]) (st' := []) (σ' := (S, M, O)) (rfl) ?_
  refine Ex_brNI lc_ne (fun hc => ?_) (fun hc => ?_)
  · rw [if_pos hc] at hF
    refine Ex_go 2 (pc' := 34) (L' := [some (.ref 1000), some (.long r1), none]) (st' := [.long (0 : Int64)]) (σ' := (S, M, O)) (rfl) ?_
    cases hF
    exact Ex_fin rfl
  · rw [if_neg hc] at hF
    refine Ex_go 6 (pc' := 31) (L' := [some (.ref 1000), some (.long r1), none]) (st' := [.long (gl M 1022), .long ((gl M 1025) - r1)]) (σ' := (S, M, O)) (rfl) ?_
    obtain ⟨hc3, hF⟩ := ck_i hF
    refine Ex_chk (b := nzL (gl M 1022)) (pc' := 32) (L' := [some (.ref 1000), some (.long r1), none]) (st' := [.long (((gl M 1025) - r1) / (gl M 1022))]) (σ' := (S, M, O)) rfl hc3 ?_
    refine Ex_go 2 (pc' := 34) (L' := [some (.ref 1000), some (.long r1), none]) (st' := [.long ((((gl M 1025) - r1) / (gl M 1022)) + (1 : Int64))]) (σ' := (S, M, O)) (rfl) ?_
    cases hF
    exact Ex_fin rfl
def F_m_allOf (x1 : Int32) (M : Sto) : Option (Int64 × Sto) := b2 (F_m_tellOne x1 M) (fun r1 M3 => b1 (F_m_manyNow M3) (fun r4 => some (r4, M3)))
set_option maxRecDepth 100000 in
theorem X_m_allOf {nL : Nat} {xs : Nat → Int32} {S : Sto} {O : Sto} {d : Nat} (hd : 8 ≤ d) : ∀ (x1 : Int32) (M : Sto) (r : Int64) (M' : Sto), F_m_allOf x1 M = some (r, M') → EX nL xs 0 MI_141 d 0 [some (.ref 1000), some (.int x1)] [] (S, M, O) (.inl (some (.long r))) (S, M', O) := by
  intro x1 M r M' hF
  unfold F_m_allOf at hF
  refine Ex_go 2 (pc' := 2) (L' := [some (.ref 1000), some (.int x1)]) (st' := [.int x1, .ref 1000]) (σ' := (S, M, O)) (rfl) ?_
  obtain ⟨r1, M3, hx2, hF⟩ := b2_i hF
  refine Ex_call (kind := 2) (y := 138) (as := [.ref 1000, .int x1]) (rest := []) (L0 := [some (.ref 1000), some (.int x1), none]) (d' := 7) (v := none) (σ1 := (S, M3, O)) rfl rfl mt_138 rfl rfl (by omega) (X_m_tellOne (Nat.le_refl _) _ _ _ _ hx2) (Ex_st (st2 := []) rfl ?_)
  refine Ex_go 1 (pc' := 6) (L' := [some (.ref 1000), some (.int x1)]) (st' := [.ref 1000]) (σ' := (S, M3, O)) (rfl) ?_
  obtain ⟨r4, hx5, hF⟩ := b1_i hF
  refine Ex_call (kind := 2) (y := 140) (as := [.ref 1000]) (rest := []) (L0 := [some (.ref 1000), none, none]) (d' := 7) (v := some (.long r4)) (σ1 := (S, M3, O)) rfl rfl mt_140 rfl rfl (by omega) (X_m_manyNow (Nat.le_refl _) _ _ hx5) (Ex_st (st2 := [.long r4]) rfl ?_)
  cases hF
  exact Ex_fin rfl
def F_m_fleets_14 (M : Sto) : Option (Int32 × Sto) := b2 (F_m_fail (1 : Int32) M) (fun r1 M3 => some (r1, M3))
set_option maxRecDepth 100000 in
theorem X_m_fleets_14 {nL : Nat} {xs : Nat → Int32} {S : Sto} {O : Sto} {d : Nat} (hd : 9 ≤ d) : ∀ (M : Sto) (r : Int32) (M' : Sto), F_m_fleets_14 M = some (r, M') → EX nL xs 0 MI_270 d 14 [some (.ref 1000), none, none, none, none, none] [] (S, M, O) (.inl (some (.int r))) (S, M', O) := by
  intro M r M' hF
  unfold F_m_fleets_14 at hF
  refine Ex_go 2 (pc' := 16) (L' := [some (.ref 1000), none, none, none, none, none]) (st' := [.int (1 : Int32), .ref 1000]) (σ' := (S, M, O)) (rfl) ?_
  obtain ⟨r1, M3, hx2, hF⟩ := b2_i hF
  refine Ex_call (kind := 2) (y := 50) (as := [.ref 1000, .int (1 : Int32)]) (rest := []) (L0 := [some (.ref 1000), some (.int (1 : Int32))]) (d' := 1) (v := some (.int r1)) (σ1 := (S, M3, O)) rfl rfl mt_50 rfl rfl (by omega) (X_m_fail (Nat.le_refl _) _ _ _ _ hx2) (Ex_st (st2 := [.int r1]) rfl ?_)
  cases hF
  exact Ex_fin rfl
def F_m_fleets_34 (k22 : Int32 → Int32 → Sto → Option (Int32 × Sto)) : Nat → Int32 → Int32 → Int32 → Sto → Option (Int32 × Sto)
  | 0, _, _, _, _ => none
  | n + 1, x1, x2, x3, M => if (ai M 1003 (Int32.toNatClampNeg (0 : Int32))) ≤ x3 then k22 x1 (x2 + (1 : Int32)) M else b2 (F_m_allOf (((1 : Int32) <<< (x2 &&& 31)) ||| ((1 : Int32) <<< (x3 &&& 31))) M) (fun r1 M3 => ck (ib (((8 : Int32) * x2) + x3) 64) (F_m_fleets_34 k22 n x1 x2 (x3 + (1 : Int32)) (ul M3 1026 (vp_updL (al M3 1026) (Int32.toNatClampNeg (((8 : Int32) * x2) + x3)) r1))))
set_option maxRecDepth 100000 in
theorem X_m_fleets_34 {nL : Nat} {xs : Nat → Int32} {S : Sto} {O : Sto} {d : Nat} (hd : 9 ≤ d) {k22 : Int32 → Int32 → Sto → Option (Int32 × Sto)} (hk22 : ∀ (x1 : Int32) (x2 : Int32) (M : Sto) (r : Int32) (M' : Sto), k22 x1 x2 M = some (r, M') → EX nL xs 0 MI_270 d 22 [some (.ref 1000), some (.int x1), some (.int x2), none, none, none] [] (S, M, O) (.inl (some (.int r))) (S, M', O)) : ∀ n : Nat, ∀ (x1 : Int32) (x2 : Int32) (x3 : Int32) (M : Sto) (r : Int32) (M' : Sto), F_m_fleets_34 k22 n x1 x2 x3 M = some (r, M') → EX nL xs 0 MI_270 d 34 [some (.ref 1000), some (.int x1), some (.int x2), some (.int x3), none, none] [] (S, M, O) (.inl (some (.int r))) (S, M', O) := by
  intro n
  induction n with
  | zero => intro x1 x2 x3 M r M' hF; cases hF
  | succ n ih =>
  intro x1 x2 x3 M r M' hF
  unfold F_m_fleets_34 at hF
  refine Ex_go 4 (pc' := 40) (L' := [some (.ref 1000), some (.int x1), some (.int x2), some (.int x3), none, none]) (st' := [.int (0 : Int32), .ref 1003, .int x3]) (σ' := (S, M, O)) (rfl) ?_
  refine Ex_chk (b := ib (0 : Int32) 6) (pc' := 41) (L' := [some (.ref 1000), some (.int x1), some (.int x2), some (.int x3), none, none]) (st' := [.int (ai M 1003 (Int32.toNatClampNeg (0 : Int32))), .int x3]) (σ' := (S, M, O)) rfl (by decide) ?_
  refine Ex_go 1 (pc' := if (ai M 1003 (Int32.toNatClampNeg (0 : Int32))) ≤ x3 then 72 else 44) (L' := [some (.ref 1000), some (.int x1), some (.int x2), some (.int x3), none, none]) (st' := []) (σ' := (S, M, O)) (rfl) ?_
  refine Ex_br (fun hc => ?_) (fun hc => ?_)
  · rw [if_pos hc] at hF
    refine Ex_go 2 (pc' := 22) (L' := [some (.ref 1000), some (.int x1), some (.int (x2 + (1 : Int32))), some (.int x3), none, none]) (st' := []) (σ' := (S, M, O)) (rfl) ?_
    exact Ex_mono (L := [some (.ref 1000), some (.int x1), some (.int (x2 + (1 : Int32))), none, none, none]) (Le_s (Le_s (Le_s (Le_n (Le_n (Le_n (Le_0))))))) (hk22 _ _ _ _ _ hF) (Nat.le_refl _) (by omega)
  · rw [if_neg hc] at hF
    refine Ex_go 10 (pc' := 57) (L' := [some (.ref 1000), some (.int x1), some (.int x2), some (.int x3), none, none]) (st' := [.int x2, .int (1 : Int32), .ref 1000, .int (((8 : Int32) * x2) + x3), .ref 1026]) (σ' := (S, M, O)) (rfl) ?_
    refine Ex_go 5 (pc' := 62) (L' := [some (.ref 1000), some (.int x1), some (.int x2), some (.int x3), none, none]) (st' := [.int (((1 : Int32) <<< (x2 &&& 31)) ||| ((1 : Int32) <<< (x3 &&& 31))), .ref 1000, .int (((8 : Int32) * x2) + x3), .ref 1026]) (σ' := (S, M, O)) (rfl) ?_
    obtain ⟨r1, M3, hx2, hF⟩ := b2_i hF
    refine Ex_call (kind := 2) (y := 141) (as := [.ref 1000, .int (((1 : Int32) <<< (x2 &&& 31)) ||| ((1 : Int32) <<< (x3 &&& 31)))]) (rest := [.int (((8 : Int32) * x2) + x3), .ref 1026]) (L0 := [some (.ref 1000), some (.int (((1 : Int32) <<< (x2 &&& 31)) ||| ((1 : Int32) <<< (x3 &&& 31))))]) (d' := 8) (v := some (.long r1)) (σ1 := (S, M3, O)) rfl rfl mt_141 rfl rfl (by omega) (X_m_allOf (Nat.le_refl _) _ _ _ _ hx2) (Ex_st (st2 := [.long r1, .int (((8 : Int32) * x2) + x3), .ref 1026]) rfl ?_)
    obtain ⟨hc4, hF⟩ := ck_i hF
    refine Ex_chk (b := ib (((8 : Int32) * x2) + x3) 64) (pc' := 66) (L' := [some (.ref 1000), some (.int x1), some (.int x2), some (.int x3), none, none]) (st' := []) (σ' := (S, (ul M3 1026 (vp_updL (al M3 1026) (Int32.toNatClampNeg (((8 : Int32) * x2) + x3)) r1)), O)) rfl hc4 ?_
    refine Ex_go 2 (pc' := 34) (L' := [some (.ref 1000), some (.int x1), some (.int x2), some (.int (x3 + (1 : Int32))), none, none]) (st' := []) (σ' := (S, (ul M3 1026 (vp_updL (al M3 1026) (Int32.toNatClampNeg (((8 : Int32) * x2) + x3)) r1)), O)) (rfl) ?_
    exact Ex_mono (L := [some (.ref 1000), some (.int x1), some (.int x2), some (.int (x3 + (1 : Int32))), none, none]) (Le_s (Le_s (Le_s (Le_s (Le_n (Le_n (Le_0))))))) (ih _ _ _ _ _ _ hF) (Nat.le_refl _) (by omega)
def F_m_fleets_145 (k85 : Int32 → Int32 → Int32 → Int32 → Sto → Option (Int32 × Sto)) (k99 : Int32 → Int32 → Int32 → Int32 → Int32 → Sto → Option (Int32 × Sto)) (x1 : Int32) (x2 : Int32) (x3 : Int32) (x4 : Int32) (x5 : Int32) (M : Sto) : Option (Int32 × Sto) := k99 x1 x2 x3 x4 (x5 + (1 : Int32)) M
set_option maxRecDepth 100000 in
theorem X_m_fleets_145 {nL : Nat} {xs : Nat → Int32} {S : Sto} {O : Sto} {d : Nat} (hd : 9 ≤ d) {k85 : Int32 → Int32 → Int32 → Int32 → Sto → Option (Int32 × Sto)} {k99 : Int32 → Int32 → Int32 → Int32 → Int32 → Sto → Option (Int32 × Sto)} (hk85 : ∀ (x1 : Int32) (x2 : Int32) (x3 : Int32) (x4 : Int32) (M : Sto) (r : Int32) (M' : Sto), k85 x1 x2 x3 x4 M = some (r, M') → EX nL xs 0 MI_270 d 85 [some (.ref 1000), some (.int x1), some (.int x2), some (.int x3), some (.int x4), none] [] (S, M, O) (.inl (some (.int r))) (S, M', O)) (hk99 : ∀ (x1 : Int32) (x2 : Int32) (x3 : Int32) (x4 : Int32) (x5 : Int32) (M : Sto) (r : Int32) (M' : Sto), k99 x1 x2 x3 x4 x5 M = some (r, M') → EX nL xs 0 MI_270 d 99 [some (.ref 1000), some (.int x1), some (.int x2), some (.int x3), some (.int x4), some (.int x5)] [] (S, M, O) (.inl (some (.int r))) (S, M', O)) : ∀ (x1 : Int32) (x2 : Int32) (x3 : Int32) (x4 : Int32) (x5 : Int32) (M : Sto) (r : Int32) (M' : Sto), F_m_fleets_145 k85 k99 x1 x2 x3 x4 x5 M = some (r, M') → EX nL xs 0 MI_270 d 145 [some (.ref 1000), some (.int x1), some (.int x2), some (.int x3), some (.int x4), some (.int x5)] [] (S, M, O) (.inl (some (.int r))) (S, M', O) := by
  intro x1 x2 x3 x4 x5 M r M' hF
  unfold F_m_fleets_145 at hF
  refine Ex_go 2 (pc' := 99) (L' := [some (.ref 1000), some (.int x1), some (.int x2), some (.int x3), some (.int x4), some (.int (x5 + (1 : Int32)))]) (st' := []) (σ' := (S, M, O)) (rfl) ?_
  exact Ex_mono (L := [some (.ref 1000), some (.int x1), some (.int x2), some (.int x3), some (.int x4), some (.int (x5 + (1 : Int32)))]) (Le_s (Le_s (Le_s (Le_s (Le_s (Le_s (Le_0))))))) (hk99 _ _ _ _ _ _ _ _ hF) (Nat.le_refl _) (by omega)
def F_m_fleets_144 (k85 : Int32 → Int32 → Int32 → Int32 → Sto → Option (Int32 × Sto)) (k99 : Int32 → Int32 → Int32 → Int32 → Int32 → Sto → Option (Int32 × Sto)) (x1 : Int32) (x2 : Int32) (x4 : Int32) (x5 : Int32) (s0 : Int32) (M : Sto) : Option (Int32 × Sto) := F_m_fleets_145 k85 k99 x1 x2 s0 x4 x5 M
set_option maxRecDepth 100000 in
theorem X_m_fleets_144 {nL : Nat} {xs : Nat → Int32} {S : Sto} {O : Sto} {d : Nat} (hd : 9 ≤ d) {k85 : Int32 → Int32 → Int32 → Int32 → Sto → Option (Int32 × Sto)} {k99 : Int32 → Int32 → Int32 → Int32 → Int32 → Sto → Option (Int32 × Sto)} (hk85 : ∀ (x1 : Int32) (x2 : Int32) (x3 : Int32) (x4 : Int32) (M : Sto) (r : Int32) (M' : Sto), k85 x1 x2 x3 x4 M = some (r, M') → EX nL xs 0 MI_270 d 85 [some (.ref 1000), some (.int x1), some (.int x2), some (.int x3), some (.int x4), none] [] (S, M, O) (.inl (some (.int r))) (S, M', O)) (hk99 : ∀ (x1 : Int32) (x2 : Int32) (x3 : Int32) (x4 : Int32) (x5 : Int32) (M : Sto) (r : Int32) (M' : Sto), k99 x1 x2 x3 x4 x5 M = some (r, M') → EX nL xs 0 MI_270 d 99 [some (.ref 1000), some (.int x1), some (.int x2), some (.int x3), some (.int x4), some (.int x5)] [] (S, M, O) (.inl (some (.int r))) (S, M', O)) : ∀ (x1 : Int32) (x2 : Int32) (x4 : Int32) (x5 : Int32) (s0 : Int32) (M : Sto) (r : Int32) (M' : Sto), F_m_fleets_144 k85 k99 x1 x2 x4 x5 s0 M = some (r, M') → EX nL xs 0 MI_270 d 144 [some (.ref 1000), some (.int x1), some (.int x2), none, some (.int x4), some (.int x5)] [.int s0] (S, M, O) (.inl (some (.int r))) (S, M', O) := by
  intro x1 x2 x4 x5 s0 M r M' hF
  unfold F_m_fleets_144 at hF
  refine Ex_go 1 (pc' := 145) (L' := [some (.ref 1000), some (.int x1), some (.int x2), some (.int s0), some (.int x4), some (.int x5)]) (st' := []) (σ' := (S, M, O)) (rfl) ?_
  exact Ex_mono (L := [some (.ref 1000), some (.int x1), some (.int x2), some (.int s0), some (.int x4), some (.int x5)]) (Le_s (Le_s (Le_s (Le_s (Le_s (Le_s (Le_0))))))) (X_m_fleets_145 hd hk85 hk99 _ _ _ _ _ _ _ _ hF) (Nat.le_refl _) (by omega)
def F_m_fleets_99 (k85 : Int32 → Int32 → Int32 → Int32 → Sto → Option (Int32 × Sto)) : Nat → Int32 → Int32 → Int32 → Int32 → Int32 → Sto → Option (Int32 × Sto)
  | 0, _, _, _, _, _, _ => none
  | n + 1, x1, x2, x3, x4, x5, M => if (ai M 1003 (Int32.toNatClampNeg (0 : Int32))) ≤ x5 then k85 x1 x2 x3 (x4 + (1 : Int32)) M else b1 (F_m_rests x4 x5 M) (fun r1 => if r1 = 0 then F_m_fleets_145 k85 (F_m_fleets_99 k85 n) x1 x2 x3 x4 x5 M else if x3 = (-1 : Int32) then F_m_fleets_144 k85 (F_m_fleets_99 k85 n) x1 (x2 + (1 : Int32)) x4 x5 (((10 : Int32) * x4) + x5) M else F_m_fleets_144 k85 (F_m_fleets_99 k85 n) x1 (x2 + (1 : Int32)) x4 x5 x3 M)
set_option maxRecDepth 100000 in
theorem X_m_fleets_99 {nL : Nat} {xs : Nat → Int32} {S : Sto} {O : Sto} {d : Nat} (hd : 9 ≤ d) {k85 : Int32 → Int32 → Int32 → Int32 → Sto → Option (Int32 × Sto)} (hk85 : ∀ (x1 : Int32) (x2 : Int32) (x3 : Int32) (x4 : Int32) (M : Sto) (r : Int32) (M' : Sto), k85 x1 x2 x3 x4 M = some (r, M') → EX nL xs 0 MI_270 d 85 [some (.ref 1000), some (.int x1), some (.int x2), some (.int x3), some (.int x4), none] [] (S, M, O) (.inl (some (.int r))) (S, M', O)) : ∀ n : Nat, ∀ (x1 : Int32) (x2 : Int32) (x3 : Int32) (x4 : Int32) (x5 : Int32) (M : Sto) (r : Int32) (M' : Sto), F_m_fleets_99 k85 n x1 x2 x3 x4 x5 M = some (r, M') → EX nL xs 0 MI_270 d 99 [some (.ref 1000), some (.int x1), some (.int x2), some (.int x3), some (.int x4), some (.int x5)] [] (S, M, O) (.inl (some (.int r))) (S, M', O) := by
  intro n
  induction n with
  | zero => intro x1 x2 x3 x4 x5 M r M' hF; cases hF
  | succ n ih =>
  intro x1 x2 x3 x4 x5 M r M' hF
  unfold F_m_fleets_99 at hF
  refine Ex_go 4 (pc' := 106) (L' := [some (.ref 1000), some (.int x1), some (.int x2), some (.int x3), some (.int x4), some (.int x5)]) (st' := [.int (0 : Int32), .ref 1003, .int x5]) (σ' := (S, M, O)) (rfl) ?_
  refine Ex_chk (b := ib (0 : Int32) 6) (pc' := 107) (L' := [some (.ref 1000), some (.int x1), some (.int x2), some (.int x3), some (.int x4), some (.int x5)]) (st' := [.int (ai M 1003 (Int32.toNatClampNeg (0 : Int32))), .int x5]) (σ' := (S, M, O)) rfl (by decide) ?_
  refine Ex_go 1 (pc' := if (ai M 1003 (Int32.toNatClampNeg (0 : Int32))) ≤ x5 then 151 else 110) (L' := [some (.ref 1000), some (.int x1), some (.int x2), some (.int x3), some (.int x4), some (.int x5)]) (st' := []) (σ' := (S, M, O)) (rfl) ?_
  refine Ex_br (fun hc => ?_) (fun hc => ?_)
  · rw [if_pos hc] at hF
    refine Ex_go 2 (pc' := 85) (L' := [some (.ref 1000), some (.int x1), some (.int x2), some (.int x3), some (.int (x4 + (1 : Int32))), some (.int x5)]) (st' := []) (σ' := (S, M, O)) (rfl) ?_
    exact Ex_mono (L := [some (.ref 1000), some (.int x1), some (.int x2), some (.int x3), some (.int (x4 + (1 : Int32))), none]) (Le_s (Le_s (Le_s (Le_s (Le_s (Le_n (Le_0))))))) (hk85 _ _ _ _ _ _ _ hF) (Nat.le_refl _) (by omega)
  · rw [if_neg hc] at hF
    refine Ex_go 3 (pc' := 115) (L' := [some (.ref 1000), some (.int x1), some (.int x2), some (.int x3), some (.int x4), some (.int x5)]) (st' := [.int x5, .int x4, .ref 1000]) (σ' := (S, M, O)) (rfl) ?_
    obtain ⟨r1, hx2, hF⟩ := b1_i hF
    refine Ex_call (kind := 2) (y := 269) (as := [.ref 1000, .int x4, .int x5]) (rest := []) (L0 := [some (.ref 1000), some (.int x4), some (.int x5), none]) (d' := 2) (v := some (.int r1)) (σ1 := (S, M, O)) rfl rfl mt_269 rfl rfl (by omega) (X_m_rests (Nat.le_refl _) _ _ _ _ hx2) (Ex_st (st2 := [.int r1]) rfl ?_)
    refine Ex_go 1 (pc' := if ¬ r1 = 0 then 124 else 121) (L' := [some (.ref 1000), some (.int x1), some (.int x2), some (.int x3), some (.int x4), some (.int x5)]) (st' := []) (σ' := (S, M, O)) (rfl) ?_
    refine Ex_brN (fun hc => ?_) (fun hc => ?_)
    · rw [if_pos hc] at hF
      refine Ex_go 1 (pc' := 145) (L' := [some (.ref 1000), some (.int x1), some (.int x2), some (.int x3), some (.int x4), some (.int x5)]) (st' := []) (σ' := (S, M, O)) (rfl) ?_
      exact Ex_mono (L := [some (.ref 1000), some (.int x1), some (.int x2), some (.int x3), some (.int x4), some (.int x5)]) (Le_s (Le_s (Le_s (Le_s (Le_s (Le_s (Le_0))))))) (X_m_fleets_145 hd hk85 ih _ _ _ _ _ _ _ _ hF) (Nat.le_refl _) (by omega)
    · rw [if_neg hc] at hF
      refine Ex_go 4 (pc' := if ¬ x3 = (-1 : Int32) then 143 else 132) (L' := [some (.ref 1000), some (.int x1), some (.int (x2 + (1 : Int32))), some (.int x3), some (.int x4), some (.int x5)]) (st' := []) (σ' := (S, M, O)) (rfl) ?_
      refine Ex_brN (fun hc => ?_) (fun hc => ?_)
      · rw [if_pos hc] at hF
        refine Ex_go 6 (pc' := 144) (L' := [some (.ref 1000), some (.int x1), some (.int (x2 + (1 : Int32))), some (.int x3), some (.int x4), some (.int x5)]) (st' := [.int (((10 : Int32) * x4) + x5)]) (σ' := (S, M, O)) (rfl) ?_
        exact Ex_mono (L := [some (.ref 1000), some (.int x1), some (.int (x2 + (1 : Int32))), none, some (.int x4), some (.int x5)]) (Le_s (Le_s (Le_s (Le_n (Le_s (Le_s (Le_0))))))) (X_m_fleets_144 hd hk85 ih _ _ _ _ _ _ _ _ hF) (Nat.le_refl _) (by omega)
      · rw [if_neg hc] at hF
        refine Ex_go 1 (pc' := 144) (L' := [some (.ref 1000), some (.int x1), some (.int (x2 + (1 : Int32))), some (.int x3), some (.int x4), some (.int x5)]) (st' := [.int x3]) (σ' := (S, M, O)) (rfl) ?_
        exact Ex_mono (L := [some (.ref 1000), some (.int x1), some (.int (x2 + (1 : Int32))), none, some (.int x4), some (.int x5)]) (Le_s (Le_s (Le_s (Le_n (Le_s (Le_s (Le_0))))))) (X_m_fleets_144 hd hk85 ih _ _ _ _ _ _ _ _ hF) (Nat.le_refl _) (by omega)
def F_m_fleets_85 : Nat → Int32 → Int32 → Int32 → Int32 → Sto → Option (Int32 × Sto)
  | 0, _, _, _, _, _ => none
  | n + 1, x1, x2, x3, x4, M => if (ai M 1003 (Int32.toNatClampNeg (0 : Int32))) ≤ x4 then if x1 = 0 then some (x2, M) else some (x3, M) else F_m_fleets_99 (F_m_fleets_85 n) FU x1 x2 x3 x4 (0 : Int32) M
set_option maxRecDepth 100000 in
theorem X_m_fleets_85 {nL : Nat} {xs : Nat → Int32} {S : Sto} {O : Sto} {d : Nat} (hd : 9 ≤ d) : ∀ n : Nat, ∀ (x1 : Int32) (x2 : Int32) (x3 : Int32) (x4 : Int32) (M : Sto) (r : Int32) (M' : Sto), F_m_fleets_85 n x1 x2 x3 x4 M = some (r, M') → EX nL xs 0 MI_270 d 85 [some (.ref 1000), some (.int x1), some (.int x2), some (.int x3), some (.int x4), none] [] (S, M, O) (.inl (some (.int r))) (S, M', O) := by
  intro n
  induction n with
  | zero => intro x1 x2 x3 x4 M r M' hF; cases hF
  | succ n ih =>
  intro x1 x2 x3 x4 M r M' hF
  unfold F_m_fleets_85 at hF
  refine Ex_go 4 (pc' := 92) (L' := [some (.ref 1000), some (.int x1), some (.int x2), some (.int x3), some (.int x4), none]) (st' := [.int (0 : Int32), .ref 1003, .int x4]) (σ' := (S, M, O)) (rfl) ?_
  refine Ex_chk (b := ib (0 : Int32) 6) (pc' := 93) (L' := [some (.ref 1000), some (.int x1), some (.int x2), some (.int x3), some (.int x4), none]) (st' := [.int (ai M 1003 (Int32.toNatClampNeg (0 : Int32))), .int x4]) (σ' := (S, M, O)) rfl (by decide) ?_
  refine Ex_go 1 (pc' := if (ai M 1003 (Int32.toNatClampNeg (0 : Int32))) ≤ x4 then 157 else 96) (L' := [some (.ref 1000), some (.int x1), some (.int x2), some (.int x3), some (.int x4), none]) (st' := []) (σ' := (S, M, O)) (rfl) ?_
  refine Ex_br (fun hc => ?_) (fun hc => ?_)
  · rw [if_pos hc] at hF
    refine Ex_go 2 (pc' := if ¬ x1 = 0 then 165 else 161) (L' := [some (.ref 1000), some (.int x1), some (.int x2), some (.int x3), some (.int x4), none]) (st' := []) (σ' := (S, M, O)) (rfl) ?_
    refine Ex_brN (fun hc => ?_) (fun hc => ?_)
    · rw [if_pos hc] at hF
      refine Ex_go 2 (pc' := 166) (L' := [some (.ref 1000), some (.int x1), some (.int x2), some (.int x3), some (.int x4), none]) (st' := [.int x2]) (σ' := (S, M, O)) (rfl) ?_
      cases hF
      exact Ex_fin rfl
    · rw [if_neg hc] at hF
      refine Ex_go 1 (pc' := 166) (L' := [some (.ref 1000), some (.int x1), some (.int x2), some (.int x3), some (.int x4), none]) (st' := [.int x3]) (σ' := (S, M, O)) (rfl) ?_
      cases hF
      exact Ex_fin rfl
  · rw [if_neg hc] at hF
    refine Ex_go 2 (pc' := 99) (L' := [some (.ref 1000), some (.int x1), some (.int x2), some (.int x3), some (.int x4), some (.int (0 : Int32))]) (st' := []) (σ' := (S, M, O)) (rfl) ?_
    exact Ex_mono (L := [some (.ref 1000), some (.int x1), some (.int x2), some (.int x3), some (.int x4), some (.int (0 : Int32))]) (Le_s (Le_s (Le_s (Le_s (Le_s (Le_s (Le_0))))))) (X_m_fleets_99 hd ih FU _ _ _ _ _ _ _ _ hF) (Nat.le_refl _) (by omega)
def F_m_fleets_22 : Nat → Int32 → Int32 → Sto → Option (Int32 × Sto)
  | 0, _, _, _ => none
  | n + 1, x1, x2, M => if (ai M 1003 (Int32.toNatClampNeg (0 : Int32))) ≤ x2 then F_m_fleets_85 FU x1 (0 : Int32) (-1 : Int32) (0 : Int32) M else F_m_fleets_34 (F_m_fleets_22 n) FU x1 x2 (0 : Int32) M
set_option maxRecDepth 100000 in
theorem X_m_fleets_22 {nL : Nat} {xs : Nat → Int32} {S : Sto} {O : Sto} {d : Nat} (hd : 9 ≤ d) : ∀ n : Nat, ∀ (x1 : Int32) (x2 : Int32) (M : Sto) (r : Int32) (M' : Sto), F_m_fleets_22 n x1 x2 M = some (r, M') → EX nL xs 0 MI_270 d 22 [some (.ref 1000), some (.int x1), some (.int x2), none, none, none] [] (S, M, O) (.inl (some (.int r))) (S, M', O) := by
  intro n
  induction n with
  | zero => intro x1 x2 M r M' hF; cases hF
  | succ n ih =>
  intro x1 x2 M r M' hF
  unfold F_m_fleets_22 at hF
  refine Ex_go 4 (pc' := 28) (L' := [some (.ref 1000), some (.int x1), some (.int x2), none, none, none]) (st' := [.int (0 : Int32), .ref 1003, .int x2]) (σ' := (S, M, O)) (rfl) ?_
  refine Ex_chk (b := ib (0 : Int32) 6) (pc' := 29) (L' := [some (.ref 1000), some (.int x1), some (.int x2), none, none, none]) (st' := [.int (ai M 1003 (Int32.toNatClampNeg (0 : Int32))), .int x2]) (σ' := (S, M, O)) rfl (by decide) ?_
  refine Ex_go 1 (pc' := if (ai M 1003 (Int32.toNatClampNeg (0 : Int32))) ≤ x2 then 78 else 32) (L' := [some (.ref 1000), some (.int x1), some (.int x2), none, none, none]) (st' := []) (σ' := (S, M, O)) (rfl) ?_
  refine Ex_br (fun hc => ?_) (fun hc => ?_)
  · rw [if_pos hc] at hF
    refine Ex_go 6 (pc' := 85) (L' := [some (.ref 1000), some (.int x1), some (.int (0 : Int32)), some (.int (-1 : Int32)), some (.int (0 : Int32)), none]) (st' := []) (σ' := (S, M, O)) (rfl) ?_
    exact Ex_mono (L := [some (.ref 1000), some (.int x1), some (.int (0 : Int32)), some (.int (-1 : Int32)), some (.int (0 : Int32)), none]) (Le_s (Le_s (Le_s (Le_s (Le_s (Le_n (Le_0))))))) (X_m_fleets_85 hd FU _ _ _ _ _ _ _ hF) (Nat.le_refl _) (by omega)
  · rw [if_neg hc] at hF
    refine Ex_go 2 (pc' := 34) (L' := [some (.ref 1000), some (.int x1), some (.int x2), some (.int (0 : Int32)), none, none]) (st' := []) (σ' := (S, M, O)) (rfl) ?_
    exact Ex_mono (L := [some (.ref 1000), some (.int x1), some (.int x2), some (.int (0 : Int32)), none, none]) (Le_s (Le_s (Le_s (Le_s (Le_n (Le_n (Le_0))))))) (X_m_fleets_34 hd ih FU _ _ _ _ _ _ hF) (Nat.le_refl _) (by omega)
def F_m_fleets (x1 : Int32) (M : Sto) : Option (Int32 × Sto) := if x1 < 0 then F_m_fleets_14 (si M 1001 (0 : Int32)) else if x1 ≤ (1 : Int32) then F_m_fleets_22 FU x1 (0 : Int32) (si M 1001 (0 : Int32)) else F_m_fleets_14 (si M 1001 (0 : Int32))
set_option maxRecDepth 100000 in
theorem X_m_fleets {nL : Nat} {xs : Nat → Int32} {S : Sto} {O : Sto} {d : Nat} (hd : 9 ≤ d) : ∀ (x1 : Int32) (M : Sto) (r : Int32) (M' : Sto), F_m_fleets x1 M = some (r, M') → EX nL xs 0 MI_270 d 0 [some (.ref 1000), some (.int x1), none, none, none, none] [] (S, M, O) (.inl (some (.int r))) (S, M', O) := by
  intro x1 M r M' hF
  unfold F_m_fleets at hF
  refine Ex_go 5 (pc' := if x1 < 0 then 14 else 9) (L' := [some (.ref 1000), some (.int x1), none, none, none, none]) (st' := []) (σ' := (S, (si M 1001 (0 : Int32)), O)) (rfl) ?_
  refine Ex_br (fun hc => ?_) (fun hc => ?_)
  · rw [if_pos hc] at hF
    exact Ex_mono (L := [some (.ref 1000), none, none, none, none, none]) (Le_s (Le_n (Le_n (Le_n (Le_n (Le_n (Le_0))))))) (X_m_fleets_14 hd _ _ _ hF) (Nat.le_refl _) (by omega)
  · rw [if_neg hc] at hF
    refine Ex_go 3 (pc' := if x1 ≤ (1 : Int32) then 20 else 14) (L' := [some (.ref 1000), some (.int x1), none, none, none, none]) (st' := []) (σ' := (S, (si M 1001 (0 : Int32)), O)) (rfl) ?_
    refine Ex_br (fun hc => ?_) (fun hc => ?_)
    · rw [if_pos hc] at hF
      refine Ex_go 2 (pc' := 22) (L' := [some (.ref 1000), some (.int x1), some (.int (0 : Int32)), none, none, none]) (st' := []) (σ' := (S, (si M 1001 (0 : Int32)), O)) (rfl) ?_
      exact Ex_mono (L := [some (.ref 1000), some (.int x1), some (.int (0 : Int32)), none, none, none]) (Le_s (Le_s (Le_s (Le_n (Le_n (Le_n (Le_0))))))) (X_m_fleets_22 hd FU _ _ _ _ _ hF) (Nat.le_refl _) (by omega)
    · rw [if_neg hc] at hF
      exact Ex_mono (L := [some (.ref 1000), none, none, none, none, none]) (Le_s (Le_n (Le_n (Le_n (Le_n (Le_n (Le_0))))))) (X_m_fleets_14 hd _ _ _ hF) (Nat.le_refl _) (by omega)
def F_w_markCatchers_0_33_2 : Nat → Int32 → Int32 → Sto → Option (Unit × Sto)
  | 0, _, _, _ => none
  | n + 1, x2, x3, S => if x2 ≤ x3 then some ((), S) else if (nI 12) ≤ x3 then some ((), S) else if (nI 12) ≤ x3 then some ((), S) else ck (ib x3 12) (b1 (F_Se_catchers (al S 33 (Int32.toNatClampNeg x3)) S) (fun r2 => ck (ib x3 12) (F_w_markCatchers_0_33_2 n x2 (x3 + (1 : Int32)) (ui S 56 (upd (ai S 56) (Int32.toNatClampNeg x3) r2)))))
set_option maxRecDepth 100000 in
theorem X_w_markCatchers_0_33_2 {nL : Nat} {xs : Nat → Int32} {M : Sto} {O : Sto} {d : Nat} (hd : 3 ≤ d) : ∀ n : Nat, ∀ (x2 : Int32) (x3 : Int32) (S : Sto) (r : Unit) (S' : Sto), F_w_markCatchers_0_33_2 n x2 x3 S = some (r, S') → EX nL xs 0 MI_174 d 2 [some (.ref 0), some (.ref 33), some (.int x2), some (.int x3)] [] (S, M, O) (.inl none) (S', M, O) := by
  intro n
  induction n with
  | zero => intro x2 x3 S r S' hF; cases hF
  | succ n ih =>
  intro x2 x3 S r S' hF
  unfold F_w_markCatchers_0_33_2 at hF
  refine Ex_go 3 (pc' := if x2 ≤ x3 then 44 else 7) (L' := [some (.ref 0), some (.ref 33), some (.int x2), some (.int x3)]) (st' := []) (σ' := (S, M, O)) (rfl) ?_
  refine Ex_br (fun hc => ?_) (fun hc => ?_)
  · rw [if_pos hc] at hF
    cases hF
    exact Ex_fin rfl
  · rw [if_neg hc] at hF
    refine Ex_go 4 (pc' := if (nI 12) ≤ x3 then 44 else 13) (L' := [some (.ref 0), some (.ref 33), some (.int x2), some (.int x3)]) (st' := []) (σ' := (S, M, O)) (rfl) ?_
    refine Ex_br (fun hc => ?_) (fun hc => ?_)
    · rw [if_pos hc] at hF
      cases hF
      exact Ex_fin rfl
    · rw [if_neg hc] at hF
      refine Ex_go 5 (pc' := if (nI 12) ≤ x3 then 44 else 22) (L' := [some (.ref 0), some (.ref 33), some (.int x2), some (.int x3)]) (st' := []) (σ' := (S, M, O)) (rfl) ?_
      refine Ex_br (fun hc => ?_) (fun hc => ?_)
      · rw [if_pos hc] at hF
        cases hF
        exact Ex_fin rfl
      · rw [if_neg hc] at hF
        refine Ex_go 7 (pc' := 33) (L' := [some (.ref 0), some (.ref 33), some (.int x2), some (.int x3)]) (st' := [.int x3, .ref 33, .ref 12, .int x3, .ref 56]) (σ' := (S, M, O)) (rfl) ?_
        obtain ⟨hc1, hF⟩ := ck_i hF
        refine Ex_chk (b := ib x3 12) (pc' := 34) (L' := [some (.ref 0), some (.ref 33), some (.int x2), some (.int x3)]) (st' := [.long (al S 33 (Int32.toNatClampNeg x3)), .ref 12, .int x3, .ref 56]) (σ' := (S, M, O)) rfl hc1 ?_
        obtain ⟨r2, hx3, hF⟩ := b1_i hF
        refine Ex_call (kind := 2) (y := 124) (as := [.ref 12, .long (al S 33 (Int32.toNatClampNeg x3))]) (rest := [.int x3, .ref 56]) (L0 := [some (.ref 12), some (.long (al S 33 (Int32.toNatClampNeg x3))), none, none, none]) (d' := 2) (v := some (.int r2)) (σ1 := (S, M, O)) rfl rfl mt_124 rfl rfl (by omega) (X_Se_catchers (Nat.le_refl _) _ _ _ hx3) (Ex_st (st2 := [.int r2, .int x3, .ref 56]) rfl ?_)
        obtain ⟨hc4, hF⟩ := ck_i hF
        refine Ex_chk (b := ib x3 12) (pc' := 38) (L' := [some (.ref 0), some (.ref 33), some (.int x2), some (.int x3)]) (st' := []) (σ' := ((ui S 56 (upd (ai S 56) (Int32.toNatClampNeg x3) r2)), M, O)) rfl hc4 ?_
        refine Ex_go 2 (pc' := 2) (L' := [some (.ref 0), some (.ref 33), some (.int x2), some (.int (x3 + (1 : Int32)))]) (st' := []) (σ' := ((ui S 56 (upd (ai S 56) (Int32.toNatClampNeg x3) r2)), M, O)) (rfl) ?_
        exact Ex_mono (L := [some (.ref 0), some (.ref 33), some (.int x2), some (.int (x3 + (1 : Int32)))]) (Le_s (Le_s (Le_s (Le_s (Le_0))))) (ih _ _ _ _ _ hF) (Nat.le_refl _) (by omega)
def F_w_markCatchers_0_33 (x2 : Int32) (S : Sto) : Option (Unit × Sto) := F_w_markCatchers_0_33_2 FU x2 (0 : Int32) S
set_option maxRecDepth 100000 in
theorem X_w_markCatchers_0_33 {nL : Nat} {xs : Nat → Int32} {M : Sto} {O : Sto} {d : Nat} (hd : 3 ≤ d) : ∀ (x2 : Int32) (S : Sto) (r : Unit) (S' : Sto), F_w_markCatchers_0_33 x2 S = some (r, S') → EX nL xs 0 MI_174 d 0 [some (.ref 0), some (.ref 33), some (.int x2), none] [] (S, M, O) (.inl none) (S', M, O) := by
  intro x2 S r S' hF
  unfold F_w_markCatchers_0_33 at hF
  refine Ex_go 2 (pc' := 2) (L' := [some (.ref 0), some (.ref 33), some (.int x2), some (.int (0 : Int32))]) (st' := []) (σ' := (S, M, O)) (rfl) ?_
  exact Ex_mono (L := [some (.ref 0), some (.ref 33), some (.int x2), some (.int (0 : Int32))]) (Le_s (Le_s (Le_s (Le_s (Le_0))))) (X_w_markCatchers_0_33_2 hd FU _ _ _ _ _ hF) (Nat.le_refl _) (by omega)
def F_w_explains_52 (x1 : Int32) (x2 : Int32) (S : Sto) : Option Int32 := if (x1 &&& (x2 ^^^ (-1 : Int32))) = 0 then some (1 : Int32) else some (0 : Int32)
set_option maxRecDepth 100000 in
theorem X_w_explains_52 {nL : Nat} {xs : Nat → Int32} {M : Sto} {O : Sto} {d : Nat} (hd : 1 ≤ d) : ∀ (x1 : Int32) (x2 : Int32) (S : Sto) (r : Int32), F_w_explains_52 x1 x2 S = some r → EX nL xs 0 MI_258 d 52 [none, some (.int x1), some (.int x2), none] [] (S, M, O) (.inl (some (.int r))) (S, M, O) := by
  intro x1 x2 S r hF
  unfold F_w_explains_52 at hF
  refine Ex_go 6 (pc' := if ¬ (x1 &&& (x2 ^^^ (-1 : Int32))) = 0 then 64 else 60) (L' := [none, some (.int x1), some (.int x2), none]) (st' := []) (σ' := (S, M, O)) (rfl) ?_
  refine Ex_brN (fun hc => ?_) (fun hc => ?_)
  · rw [if_pos hc] at hF
    refine Ex_go 2 (pc' := 65) (L' := [none, some (.int x1), some (.int x2), none]) (st' := [.int (1 : Int32)]) (σ' := (S, M, O)) (rfl) ?_
    cases hF
    exact Ex_fin rfl
  · rw [if_neg hc] at hF
    refine Ex_go 1 (pc' := 65) (L' := [none, some (.int x1), some (.int x2), none]) (st' := [.int (0 : Int32)]) (σ' := (S, M, O)) (rfl) ?_
    cases hF
    exact Ex_fin rfl
def F_w_explains_4 : Nat → Int32 → Int32 → Int32 → Sto → Option Int32
  | 0, _, _, _, _ => none
  | n + 1, x1, x2, x3, S => if (gi S 33) ≤ x3 then F_w_explains_52 x1 x2 S else if (nI 12) ≤ x3 then F_w_explains_52 x1 x2 S else ck (ib x3 12) (if ((ai S 56 (Int32.toNatClampNeg x3)) &&& x1) = 0 then some (0 : Int32) else ck (ib x3 12) (F_w_explains_4 n x1 (x2 ||| (ai S 56 (Int32.toNatClampNeg x3))) (x3 + (1 : Int32)) S))
set_option maxRecDepth 100000 in
theorem X_w_explains_4 {nL : Nat} {xs : Nat → Int32} {M : Sto} {O : Sto} {d : Nat} (hd : 1 ≤ d) : ∀ n : Nat, ∀ (x1 : Int32) (x2 : Int32) (x3 : Int32) (S : Sto) (r : Int32), F_w_explains_4 n x1 x2 x3 S = some r → EX nL xs 0 MI_258 d 4 [some (.ref 0), some (.int x1), some (.int x2), some (.int x3)] [] (S, M, O) (.inl (some (.int r))) (S, M, O) := by
  intro n
  induction n with
  | zero => intro x1 x2 x3 S r hF; cases hF
  | succ n ih =>
  intro x1 x2 x3 S r hF
  unfold F_w_explains_4 at hF
  refine Ex_go 5 (pc' := if (gi S 33) ≤ x3 then 52 else 15) (L' := [some (.ref 0), some (.int x1), some (.int x2), some (.int x3)]) (st' := []) (σ' := (S, M, O)) (rfl) ?_
  refine Ex_br (fun hc => ?_) (fun hc => ?_)
  · rw [if_pos hc] at hF
    exact Ex_mono (L := [none, some (.int x1), some (.int x2), none]) (Le_n (Le_s (Le_s (Le_n (Le_0))))) (X_w_explains_52 hd _ _ _ _ hF) (Nat.le_refl _) (by omega)
  · rw [if_neg hc] at hF
    refine Ex_go 5 (pc' := if (nI 12) ≤ x3 then 52 else 24) (L' := [some (.ref 0), some (.int x1), some (.int x2), some (.int x3)]) (st' := []) (σ' := (S, M, O)) (rfl) ?_
    refine Ex_br (fun hc => ?_) (fun hc => ?_)
    · rw [if_pos hc] at hF
      exact Ex_mono (L := [none, some (.int x1), some (.int x2), none]) (Le_n (Le_s (Le_s (Le_n (Le_0))))) (X_w_explains_52 hd _ _ _ _ hF) (Nat.le_refl _) (by omega)
    · rw [if_neg hc] at hF
      refine Ex_go 3 (pc' := 29) (L' := [some (.ref 0), some (.int x1), some (.int x2), some (.int x3)]) (st' := [.int x3, .ref 56]) (σ' := (S, M, O)) (rfl) ?_
      obtain ⟨hc1, hF⟩ := ck_i hF
      refine Ex_chk (b := ib x3 12) (pc' := 30) (L' := [some (.ref 0), some (.int x1), some (.int x2), some (.int x3)]) (st' := [.int (ai S 56 (Int32.toNatClampNeg x3))]) (σ' := (S, M, O)) rfl hc1 ?_
      refine Ex_go 3 (pc' := if ¬ ((ai S 56 (Int32.toNatClampNeg x3)) &&& x1) = 0 then 37 else 35) (L' := [some (.ref 0), some (.int x1), some (.int x2), some (.int x3)]) (st' := []) (σ' := (S, M, O)) (rfl) ?_
      refine Ex_brN (fun hc => ?_) (fun hc => ?_)
      · rw [if_pos hc] at hF
        refine Ex_go 1 (pc' := 36) (L' := [some (.ref 0), some (.int x1), some (.int x2), some (.int x3)]) (st' := [.int (0 : Int32)]) (σ' := (S, M, O)) (rfl) ?_
        cases hF
        exact Ex_fin rfl
      · rw [if_neg hc] at hF
        refine Ex_go 4 (pc' := 43) (L' := [some (.ref 0), some (.int x1), some (.int x2), some (.int x3)]) (st' := [.int x3, .ref 56, .int x2]) (σ' := (S, M, O)) (rfl) ?_
        obtain ⟨hc2, hF⟩ := ck_i hF
        refine Ex_chk (b := ib x3 12) (pc' := 44) (L' := [some (.ref 0), some (.int x1), some (.int x2), some (.int x3)]) (st' := [.int (ai S 56 (Int32.toNatClampNeg x3)), .int x2]) (σ' := (S, M, O)) rfl hc2 ?_
        refine Ex_go 4 (pc' := 4) (L' := [some (.ref 0), some (.int x1), some (.int (x2 ||| (ai S 56 (Int32.toNatClampNeg x3)))), some (.int (x3 + (1 : Int32)))]) (st' := []) (σ' := (S, M, O)) (rfl) ?_
        exact Ex_mono (L := [some (.ref 0), some (.int x1), some (.int (x2 ||| (ai S 56 (Int32.toNatClampNeg x3)))), some (.int (x3 + (1 : Int32)))]) (Le_s (Le_s (Le_s (Le_s (Le_0))))) (ih _ _ _ _ _ hF) (Nat.le_refl _) (by omega)
def F_w_explains (x1 : Int32) (S : Sto) : Option Int32 := F_w_explains_4 FU x1 (0 : Int32) (0 : Int32) S
set_option maxRecDepth 100000 in
theorem X_w_explains {nL : Nat} {xs : Nat → Int32} {M : Sto} {O : Sto} {d : Nat} (hd : 1 ≤ d) : ∀ (x1 : Int32) (S : Sto) (r : Int32), F_w_explains x1 S = some r → EX nL xs 0 MI_258 d 0 [some (.ref 0), some (.int x1), none, none] [] (S, M, O) (.inl (some (.int r))) (S, M, O) := by
  intro x1 S r hF
  unfold F_w_explains at hF
  refine Ex_go 4 (pc' := 4) (L' := [some (.ref 0), some (.int x1), some (.int (0 : Int32)), some (.int (0 : Int32))]) (st' := []) (σ' := (S, M, O)) (rfl) ?_
  exact Ex_mono (L := [some (.ref 0), some (.int x1), some (.int (0 : Int32)), some (.int (0 : Int32))]) (Le_s (Le_s (Le_s (Le_s (Le_0))))) (X_w_explains_4 hd FU _ _ _ _ _ hF) (Nat.le_refl _) (by omega)
def F_w_poached_36 (k4 : Int32 → Int32 → Sto → Option Int32) (x1 : Int32) (x2 : Int32) (S : Sto) : Option Int32 := k4 x1 (x2 + (1 : Int32)) S
set_option maxRecDepth 100000 in
theorem X_w_poached_36 {nL : Nat} {xs : Nat → Int32} {M : Sto} {O : Sto} {d : Nat} (hd : 1 ≤ d) {k4 : Int32 → Int32 → Sto → Option Int32} (hk4 : ∀ (x1 : Int32) (x2 : Int32) (S : Sto) (r : Int32), k4 x1 x2 S = some r → EX nL xs 0 MI_257 d 4 [some (.ref 0), some (.int x1), some (.int x2)] [] (S, M, O) (.inl (some (.int r))) (S, M, O)) : ∀ (x1 : Int32) (x2 : Int32) (S : Sto) (r : Int32), F_w_poached_36 k4 x1 x2 S = some r → EX nL xs 0 MI_257 d 36 [some (.ref 0), some (.int x1), some (.int x2)] [] (S, M, O) (.inl (some (.int r))) (S, M, O) := by
  intro x1 x2 S r hF
  unfold F_w_poached_36 at hF
  refine Ex_go 2 (pc' := 4) (L' := [some (.ref 0), some (.int x1), some (.int (x2 + (1 : Int32)))]) (st' := []) (σ' := (S, M, O)) (rfl) ?_
  exact Ex_mono (L := [some (.ref 0), some (.int x1), some (.int (x2 + (1 : Int32)))]) (Le_s (Le_s (Le_s (Le_0)))) (hk4 _ _ _ _ hF) (Nat.le_refl _) (by omega)
def F_w_poached_4 : Nat → Int32 → Int32 → Sto → Option Int32
  | 0, _, _, _ => none
  | n + 1, x1, x2, S => if (gi S 33) ≤ x2 then some x1 else if (nI 12) ≤ x2 then some x1 else ck (ib x2 12) (if (ai S 56 (Int32.toNatClampNeg x2)) = 0 then F_w_poached_36 (F_w_poached_4 n) (x1 + (1 : Int32)) x2 S else F_w_poached_36 (F_w_poached_4 n) x1 x2 S)
set_option maxRecDepth 100000 in
theorem X_w_poached_4 {nL : Nat} {xs : Nat → Int32} {M : Sto} {O : Sto} {d : Nat} (hd : 1 ≤ d) : ∀ n : Nat, ∀ (x1 : Int32) (x2 : Int32) (S : Sto) (r : Int32), F_w_poached_4 n x1 x2 S = some r → EX nL xs 0 MI_257 d 4 [some (.ref 0), some (.int x1), some (.int x2)] [] (S, M, O) (.inl (some (.int r))) (S, M, O) := by
  intro n
  induction n with
  | zero => intro x1 x2 S r hF; cases hF
  | succ n ih =>
  intro x1 x2 S r hF
  unfold F_w_poached_4 at hF
  refine Ex_go 5 (pc' := if (gi S 33) ≤ x2 then 42 else 15) (L' := [some (.ref 0), some (.int x1), some (.int x2)]) (st' := []) (σ' := (S, M, O)) (rfl) ?_
  refine Ex_br (fun hc => ?_) (fun hc => ?_)
  · rw [if_pos hc] at hF
    refine Ex_go 1 (pc' := 43) (L' := [some (.ref 0), some (.int x1), some (.int x2)]) (st' := [.int x1]) (σ' := (S, M, O)) (rfl) ?_
    cases hF
    exact Ex_fin rfl
  · rw [if_neg hc] at hF
    refine Ex_go 5 (pc' := if (nI 12) ≤ x2 then 42 else 24) (L' := [some (.ref 0), some (.int x1), some (.int x2)]) (st' := []) (σ' := (S, M, O)) (rfl) ?_
    refine Ex_br (fun hc => ?_) (fun hc => ?_)
    · rw [if_pos hc] at hF
      refine Ex_go 1 (pc' := 43) (L' := [some (.ref 0), some (.int x1), some (.int x2)]) (st' := [.int x1]) (σ' := (S, M, O)) (rfl) ?_
      cases hF
      exact Ex_fin rfl
    · rw [if_neg hc] at hF
      refine Ex_go 3 (pc' := 29) (L' := [some (.ref 0), some (.int x1), some (.int x2)]) (st' := [.int x2, .ref 56]) (σ' := (S, M, O)) (rfl) ?_
      obtain ⟨hc1, hF⟩ := ck_i hF
      refine Ex_chk (b := ib x2 12) (pc' := 30) (L' := [some (.ref 0), some (.int x1), some (.int x2)]) (st' := [.int (ai S 56 (Int32.toNatClampNeg x2))]) (σ' := (S, M, O)) rfl hc1 ?_
      refine Ex_go 1 (pc' := if ¬ (ai S 56 (Int32.toNatClampNeg x2)) = 0 then 36 else 33) (L' := [some (.ref 0), some (.int x1), some (.int x2)]) (st' := []) (σ' := (S, M, O)) (rfl) ?_
      refine Ex_brN (fun hc => ?_) (fun hc => ?_)
      · rw [if_pos hc] at hF
        refine Ex_go 1 (pc' := 36) (L' := [some (.ref 0), some (.int (x1 + (1 : Int32))), some (.int x2)]) (st' := []) (σ' := (S, M, O)) (rfl) ?_
        exact Ex_mono (L := [some (.ref 0), some (.int (x1 + (1 : Int32))), some (.int x2)]) (Le_s (Le_s (Le_s (Le_0)))) (X_w_poached_36 hd ih _ _ _ _ hF) (Nat.le_refl _) (by omega)
      · rw [if_neg hc] at hF
        exact Ex_mono (L := [some (.ref 0), some (.int x1), some (.int x2)]) (Le_s (Le_s (Le_s (Le_0)))) (X_w_poached_36 hd ih _ _ _ _ hF) (Nat.le_refl _) (by omega)
def F_w_poached (S : Sto) : Option Int32 := F_w_poached_4 FU (0 : Int32) (0 : Int32) S
set_option maxRecDepth 100000 in
theorem X_w_poached {nL : Nat} {xs : Nat → Int32} {M : Sto} {O : Sto} {d : Nat} (hd : 1 ≤ d) : ∀ (S : Sto) (r : Int32), F_w_poached S = some r → EX nL xs 0 MI_257 d 0 [some (.ref 0), none, none] [] (S, M, O) (.inl (some (.int r))) (S, M, O) := by
  intro S r hF
  unfold F_w_poached at hF
  refine Ex_go 4 (pc' := 4) (L' := [some (.ref 0), some (.int (0 : Int32)), some (.int (0 : Int32))]) (st' := []) (σ' := (S, M, O)) (rfl) ?_
  exact Ex_mono (L := [some (.ref 0), some (.int (0 : Int32)), some (.int (0 : Int32))]) (Le_s (Le_s (Le_s (Le_0)))) (X_w_poached_4 hd FU _ _ _ _ hF) (Nat.le_refl _) (by omega)
def F_w_fits_9 (S : Sto) : Option ((Int32 ⊕ Nat) × Sto) := some ((.inr 1), S)
set_option maxRecDepth 100000 in
theorem X_w_fits_9 {nL : Nat} {xs : Nat → Int32} {M : Sto} {O : Sto} {d : Nat} (hd : 8 ≤ d) : ∀ (S : Sto) (r : Int32 ⊕ Nat) (S' : Sto), F_w_fits_9 S = some (r, S') → EX nL xs 1 MI_259 d 9 [none, none, none, none, none] [] (S, M, O) (rsI r) (S', M, O) := by
  intro S r S' hF
  unfold F_w_fits_9 at hF
  cases hF
  exact Ex_thr rfl (by omega) (Nat.le_refl _)
def F_w_fits_87 (k52 : Int32 → Int32 → Int32 → Int32 → Sto → Option ((Int32 ⊕ Nat) × Sto)) (x1 : Int32) (x2 : Int32) (x3 : Int32) (x4 : Int32) (S : Sto) : Option ((Int32 ⊕ Nat) × Sto) := k52 x1 x2 x3 (x4 + (1 : Int32)) S
set_option maxRecDepth 100000 in
theorem X_w_fits_87 {nL : Nat} {xs : Nat → Int32} {M : Sto} {O : Sto} {d : Nat} (hd : 8 ≤ d) {k52 : Int32 → Int32 → Int32 → Int32 → Sto → Option ((Int32 ⊕ Nat) × Sto)} (hk52 : ∀ (x1 : Int32) (x2 : Int32) (x3 : Int32) (x4 : Int32) (S : Sto) (r : Int32 ⊕ Nat) (S' : Sto), k52 x1 x2 x3 x4 S = some (r, S') → EX nL xs 1 MI_259 d 52 [some (.ref 0), some (.int x1), some (.int x2), some (.int x3), some (.int x4)] [] (S, M, O) (rsI r) (S', M, O)) : ∀ (x1 : Int32) (x2 : Int32) (x3 : Int32) (x4 : Int32) (S : Sto) (r : Int32 ⊕ Nat) (S' : Sto), F_w_fits_87 k52 x1 x2 x3 x4 S = some (r, S') → EX nL xs 1 MI_259 d 87 [some (.ref 0), some (.int x1), some (.int x2), some (.int x3), some (.int x4)] [] (S, M, O) (rsI r) (S', M, O) := by
  intro x1 x2 x3 x4 S r S' hF
  unfold F_w_fits_87 at hF
  refine Ex_go 2 (pc' := 52) (L' := [some (.ref 0), some (.int x1), some (.int x2), some (.int x3), some (.int (x4 + (1 : Int32)))]) (st' := []) (σ' := (S, M, O)) (rfl) ?_
  exact Ex_mono (L := [some (.ref 0), some (.int x1), some (.int x2), some (.int x3), some (.int (x4 + (1 : Int32)))]) (Le_s (Le_s (Le_s (Le_s (Le_s (Le_0)))))) (hk52 _ _ _ _ _ _ _ hF) (Nat.le_refl _) (by omega)
def F_w_fits_83 (k52 : Int32 → Int32 → Int32 → Int32 → Sto → Option ((Int32 ⊕ Nat) × Sto)) (x1 : Int32) (x2 : Int32) (x4 : Int32) (s0 : Int32) (S : Sto) : Option ((Int32 ⊕ Nat) × Sto) := F_w_fits_87 k52 x1 (x2 + (1 : Int32)) s0 x4 S
set_option maxRecDepth 100000 in
theorem X_w_fits_83 {nL : Nat} {xs : Nat → Int32} {M : Sto} {O : Sto} {d : Nat} (hd : 8 ≤ d) {k52 : Int32 → Int32 → Int32 → Int32 → Sto → Option ((Int32 ⊕ Nat) × Sto)} (hk52 : ∀ (x1 : Int32) (x2 : Int32) (x3 : Int32) (x4 : Int32) (S : Sto) (r : Int32 ⊕ Nat) (S' : Sto), k52 x1 x2 x3 x4 S = some (r, S') → EX nL xs 1 MI_259 d 52 [some (.ref 0), some (.int x1), some (.int x2), some (.int x3), some (.int x4)] [] (S, M, O) (rsI r) (S', M, O)) : ∀ (x1 : Int32) (x2 : Int32) (x4 : Int32) (s0 : Int32) (S : Sto) (r : Int32 ⊕ Nat) (S' : Sto), F_w_fits_83 k52 x1 x2 x4 s0 S = some (r, S') → EX nL xs 1 MI_259 d 83 [some (.ref 0), some (.int x1), some (.int x2), none, some (.int x4)] [.int s0] (S, M, O) (rsI r) (S', M, O) := by
  intro x1 x2 x4 s0 S r S' hF
  unfold F_w_fits_83 at hF
  refine Ex_go 2 (pc' := 87) (L' := [some (.ref 0), some (.int x1), some (.int (x2 + (1 : Int32))), some (.int s0), some (.int x4)]) (st' := []) (σ' := (S, M, O)) (rfl) ?_
  exact Ex_mono (L := [some (.ref 0), some (.int x1), some (.int (x2 + (1 : Int32))), some (.int s0), some (.int x4)]) (Le_s (Le_s (Le_s (Le_s (Le_s (Le_0)))))) (X_w_fits_87 hd hk52 _ _ _ _ _ _ _ hF) (Nat.le_refl _) (by omega)
def F_w_fits_52 : Nat → Int32 → Int32 → Int32 → Int32 → Sto → Option ((Int32 ⊕ Nat) × Sto)
  | 0, _, _, _, _, _ => none
  | n + 1, x1, x2, x3, x4, S => if (gi S 25) ≤ x4 then if x1 = 0 then some ((.inl x2), S) else some ((.inl x3), S) else b1 (F_w_explains x4 S) (fun r1 => if r1 = 0 then F_w_fits_87 (F_w_fits_52 n) x1 x2 x3 x4 S else if x2 = 0 then F_w_fits_83 (F_w_fits_52 n) x1 x2 x4 x4 S else F_w_fits_83 (F_w_fits_52 n) x1 x2 x4 x3 S)
set_option maxRecDepth 100000 in
theorem X_w_fits_52 {nL : Nat} {xs : Nat → Int32} {M : Sto} {O : Sto} {d : Nat} (hd : 8 ≤ d) : ∀ n : Nat, ∀ (x1 : Int32) (x2 : Int32) (x3 : Int32) (x4 : Int32) (S : Sto) (r : Int32 ⊕ Nat) (S' : Sto), F_w_fits_52 n x1 x2 x3 x4 S = some (r, S') → EX nL xs 1 MI_259 d 52 [some (.ref 0), some (.int x1), some (.int x2), some (.int x3), some (.int x4)] [] (S, M, O) (rsI r) (S', M, O) := by
  intro n
  induction n with
  | zero => intro x1 x2 x3 x4 S r S' hF; cases hF
  | succ n ih =>
  intro x1 x2 x3 x4 S r S' hF
  unfold F_w_fits_52 at hF
  refine Ex_go 5 (pc' := if (gi S 25) ≤ x4 then 93 else 64) (L' := [some (.ref 0), some (.int x1), some (.int x2), some (.int x3), some (.int x4)]) (st' := []) (σ' := (S, M, O)) (rfl) ?_
  refine Ex_br (fun hc => ?_) (fun hc => ?_)
  · rw [if_pos hc] at hF
    refine Ex_go 2 (pc' := if ¬ x1 = 0 then 101 else 97) (L' := [some (.ref 0), some (.int x1), some (.int x2), some (.int x3), some (.int x4)]) (st' := []) (σ' := (S, M, O)) (rfl) ?_
    refine Ex_brN (fun hc => ?_) (fun hc => ?_)
    · rw [if_pos hc] at hF
      refine Ex_go 2 (pc' := 102) (L' := [some (.ref 0), some (.int x1), some (.int x2), some (.int x3), some (.int x4)]) (st' := [.int x2]) (σ' := (S, M, O)) (rfl) ?_
      cases hF
      exact Ex_fin rfl
    · rw [if_neg hc] at hF
      refine Ex_go 1 (pc' := 102) (L' := [some (.ref 0), some (.int x1), some (.int x2), some (.int x3), some (.int x4)]) (st' := [.int x3]) (σ' := (S, M, O)) (rfl) ?_
      cases hF
      exact Ex_fin rfl
  · rw [if_neg hc] at hF
    refine Ex_go 2 (pc' := 67) (L' := [some (.ref 0), some (.int x1), some (.int x2), some (.int x3), some (.int x4)]) (st' := [.int x4, .ref 0]) (σ' := (S, M, O)) (rfl) ?_
    obtain ⟨r1, hx2, hF⟩ := b1_i hF
    refine Ex_callK (K1 := 0) (K2 := 1) (kind := 2) (y := 258) (as := [.ref 0, .int x4]) (rest := []) (L0 := [some (.ref 0), some (.int x4), none, none]) (d' := 1) (v := some (.int r1)) (σ1 := (S, M, O)) rfl rfl mt_258 rfl rfl (by omega) (X_w_explains (Nat.le_refl _) _ _ _ hx2) (Ex_st (st2 := [.int r1]) rfl ?_) (by omega)
    refine Ex_go 1 (pc' := if r1 = 0 then 87 else 73) (L' := [some (.ref 0), some (.int x1), some (.int x2), some (.int x3), some (.int x4)]) (st' := []) (σ' := (S, M, O)) (rfl) ?_
    refine Ex_br (fun hc => ?_) (fun hc => ?_)
    · rw [if_pos hc] at hF
      exact Ex_mono (L := [some (.ref 0), some (.int x1), some (.int x2), some (.int x3), some (.int x4)]) (Le_s (Le_s (Le_s (Le_s (Le_s (Le_0)))))) (X_w_fits_87 hd ih _ _ _ _ _ _ _ hF) (Nat.le_refl _) (by omega)
    · rw [if_neg hc] at hF
      refine Ex_go 2 (pc' := if ¬ x2 = 0 then 82 else 77) (L' := [some (.ref 0), some (.int x1), some (.int x2), some (.int x3), some (.int x4)]) (st' := []) (σ' := (S, M, O)) (rfl) ?_
      refine Ex_brN (fun hc => ?_) (fun hc => ?_)
      · rw [if_pos hc] at hF
        refine Ex_go 2 (pc' := 83) (L' := [some (.ref 0), some (.int x1), some (.int x2), some (.int x3), some (.int x4)]) (st' := [.int x4]) (σ' := (S, M, O)) (rfl) ?_
        exact Ex_mono (L := [some (.ref 0), some (.int x1), some (.int x2), none, some (.int x4)]) (Le_s (Le_s (Le_s (Le_n (Le_s (Le_0)))))) (X_w_fits_83 hd ih _ _ _ _ _ _ _ hF) (Nat.le_refl _) (by omega)
      · rw [if_neg hc] at hF
        refine Ex_go 1 (pc' := 83) (L' := [some (.ref 0), some (.int x1), some (.int x2), some (.int x3), some (.int x4)]) (st' := [.int x3]) (σ' := (S, M, O)) (rfl) ?_
        exact Ex_mono (L := [some (.ref 0), some (.int x1), some (.int x2), none, some (.int x4)]) (Le_s (Le_s (Le_s (Le_n (Le_s (Le_0)))))) (X_w_fits_83 hd ih _ _ _ _ _ _ _ hF) (Nat.le_refl _) (by omega)
def F_w_fits (x1 : Int32) (S : Sto) : Option ((Int32 ⊕ Nat) × Sto) := if x1 < 0 then F_w_fits_9 S else if x1 ≤ (2 : Int32) then b2 (F_w_markCatchers_0_33 (gi S 33) S) (fun r1 S3 => if x1 = (2 : Int32) then b1 (F_w_poached S3) (fun r4 => some ((.inl r4), S3)) else F_w_fits_52 FU x1 (0 : Int32) (-1 : Int32) (0 : Int32) S3) else F_w_fits_9 S
set_option maxRecDepth 100000 in
theorem X_w_fits {nL : Nat} {xs : Nat → Int32} {M : Sto} {O : Sto} {d : Nat} (hd : 8 ≤ d) : ∀ (x1 : Int32) (S : Sto) (r : Int32 ⊕ Nat) (S' : Sto), F_w_fits x1 S = some (r, S') → EX nL xs 1 MI_259 d 0 [some (.ref 0), some (.int x1), none, none, none] [] (S, M, O) (rsI r) (S', M, O) := by
  intro x1 S r S' hF
  unfold F_w_fits at hF
  refine Ex_go 2 (pc' := if x1 < 0 then 9 else 4) (L' := [some (.ref 0), some (.int x1), none, none, none]) (st' := []) (σ' := (S, M, O)) (rfl) ?_
  refine Ex_br (fun hc => ?_) (fun hc => ?_)
  · rw [if_pos hc] at hF
    exact Ex_mono (L := [none, none, none, none, none]) (Le_n (Le_n (Le_n (Le_n (Le_n (Le_0)))))) (X_w_fits_9 hd _ _ _ hF) (Nat.le_refl _) (by omega)
  · rw [if_neg hc] at hF
    refine Ex_go 3 (pc' := if x1 ≤ (2 : Int32) then 17 else 9) (L' := [some (.ref 0), some (.int x1), none, none, none]) (st' := []) (σ' := (S, M, O)) (rfl) ?_
    refine Ex_br (fun hc => ?_) (fun hc => ?_)
    · rw [if_pos hc] at hF
      refine Ex_go 7 (pc' := 32) (L' := [some (.ref 0), some (.int x1), none, none, none]) (st' := [.int (gi S 33), .ref 33, .ref 0]) (σ' := (S, M, O)) (rfl) ?_
      obtain ⟨r1, S3, hx2, hF⟩ := b2_i hF
      refine Ex_callK (K1 := 0) (K2 := 1) (kind := 2) (y := 174) (as := [.ref 0, .ref 33, .int (gi S 33)]) (rest := []) (L0 := [some (.ref 0), some (.ref 33), some (.int (gi S 33)), none]) (d' := 3) (v := none) (σ1 := (S3, M, O)) rfl rfl mt_174 rfl rfl (by omega) (X_w_markCatchers_0_33 (Nat.le_refl _) _ _ _ _ hx2) (Ex_st (st2 := []) rfl ?_) (by omega)
      refine Ex_go 3 (pc' := if ¬ x1 = (2 : Int32) then 45 else 40) (L' := [some (.ref 0), some (.int x1), none, none, none]) (st' := []) (σ' := (S3, M, O)) (rfl) ?_
      refine Ex_brN (fun hc => ?_) (fun hc => ?_)
      · rw [if_pos hc] at hF
        refine Ex_go 1 (pc' := 41) (L' := [some (.ref 0), some (.int x1), none, none, none]) (st' := [.ref 0]) (σ' := (S3, M, O)) (rfl) ?_
        obtain ⟨r4, hx5, hF⟩ := b1_i hF
        refine Ex_callK (K1 := 0) (K2 := 1) (kind := 2) (y := 257) (as := [.ref 0]) (rest := []) (L0 := [some (.ref 0), none, none]) (d' := 1) (v := some (.int r4)) (σ1 := (S3, M, O)) rfl rfl mt_257 rfl rfl (by omega) (X_w_poached (Nat.le_refl _) _ _ hx5) (Ex_st (st2 := [.int r4]) rfl ?_) (by omega)
        cases hF
        exact Ex_fin rfl
      · rw [if_neg hc] at hF
        refine Ex_go 6 (pc' := 52) (L' := [some (.ref 0), some (.int x1), some (.int (0 : Int32)), some (.int (-1 : Int32)), some (.int (0 : Int32))]) (st' := []) (σ' := (S3, M, O)) (rfl) ?_
        exact Ex_mono (L := [some (.ref 0), some (.int x1), some (.int (0 : Int32)), some (.int (-1 : Int32)), some (.int (0 : Int32))]) (Le_s (Le_s (Le_s (Le_s (Le_s (Le_0)))))) (X_w_fits_52 hd FU _ _ _ _ _ _ _ hF) (Nat.le_refl _) (by omega)
    · rw [if_neg hc] at hF
      exact Ex_mono (L := [none, none, none, none, none]) (Le_n (Le_n (Le_n (Le_n (Le_n (Le_0)))))) (X_w_fits_9 hd _ _ _ hF) (Nat.le_refl _) (by omega)
def F_l_fits (x1 : Int32) (S : Sto) (O : Sto) : Option (Int32 × Sto × Sto) := b2 (F_w_fits x1 S) (fun r1 S3 => su r1 (fun v4 => some ((0 : Int32), S3, (ul O 2000 (vp_updL (al O 2000) (Int32.toNatClampNeg (0 : Int32)) (Int32.toInt64 v4))))) (fun z5 => if z5 = 1 then some ((1 : Int32), S3, O) else (none)))
set_option maxRecDepth 100000 in
theorem X_l_fits {nL : Nat} {xs : Nat → Int32} {M : Sto} {d : Nat} (hd : 9 ≤ d) : ∀ (x1 : Int32) (S : Sto) (O : Sto) (r : Int32) (S' : Sto) (O' : Sto), F_l_fits x1 S O = some (r, S', O') → EX nL xs 1 MI_260 d 0 [some (.ref 0), some (.int x1), some (.ref 2000), none] [] (S, M, O) (.inl (some (.int r))) (S', M, O') := by
  intro x1 S O r S' O' hF
  unfold F_l_fits at hF
  refine Ex_go 4 (pc' := 4) (L' := [some (.ref 0), some (.int x1), some (.ref 2000), none]) (st' := [.int x1, .ref 0, .int (0 : Int32), .ref 2000]) (σ' := (S, M, O)) (rfl) ?_
  obtain ⟨r1, S3, hx2, hF⟩ := b2_i hF
  cases r1 with
  | inl v4 =>
    rw [su_l] at hF
    refine Ex_callK (K1 := 1) (K2 := 0) (kind := 3) (y := 259) (as := [.ref 0, .int x1]) (rest := [.int (0 : Int32), .ref 2000]) (L0 := [some (.ref 0), some (.int x1), none, none, none]) (d' := 8) (v := some (.int v4)) (σ1 := (S3, M, O)) rfl rfl mt_259 rfl rfl (by omega) (X_w_fits (Nat.le_refl _) _ _ _ _ hx2) (Ex_st (st2 := [.int v4, .int (0 : Int32), .ref 2000]) rfl ?_) (by omega)
    refine Ex_go 1 (pc' := 8) (L' := [some (.ref 0), some (.int x1), some (.ref 2000), none]) (st' := [.long (Int32.toInt64 v4), .int (0 : Int32), .ref 2000]) (σ' := (S3, M, O)) (rfl) ?_
    refine Ex_chk (b := ib (0 : Int32) 1) (pc' := 9) (L' := [some (.ref 0), some (.int x1), some (.ref 2000), none]) (st' := []) (σ' := (S3, M, (ul O 2000 (vp_updL (al O 2000) (Int32.toNatClampNeg (0 : Int32)) (Int32.toInt64 v4))))) rfl (by decide) ?_
    refine Ex_go 2 (pc' := 16) (L' := [some (.ref 0), some (.int x1), some (.ref 2000), none]) (st' := [.int (0 : Int32)]) (σ' := (S3, M, (ul O 2000 (vp_updL (al O 2000) (Int32.toNatClampNeg (0 : Int32)) (Int32.toInt64 v4))))) (rfl) ?_
    cases hF
    exact Ex_fin rfl
  | inr z5 =>
    by_cases hz1 : z5 = 1
    · have hF : (if z5 = 1 then _ else _) = _ := hF
      rw [if_pos hz1] at hF
      subst hz1
      refine Ex_callX (K1 := 1) (K2 := 0) (y := 259) (as := [.ref 0, .int x1]) (rest := [.int (0 : Int32), .ref 2000]) (L0 := [some (.ref 0), some (.int x1), none, none, none]) (d' := 8) (σ1 := (S3, M, O)) (x := 1) (pc' := 13) (i := 3) rfl rfl mt_259 rfl rfl (by omega) (X_w_fits (Nat.le_refl _) _ _ _ _ hx2) rfl (Ex_L (L2 := [some (.ref 0), some (.int x1), some (.ref 2000), none]) rfl ?_) (by omega)
      refine Ex_go 1 (pc' := 14) (L' := [some (.ref 0), some (.int x1), some (.ref 2000), none]) (st' := [.int (1 : Int32)]) (σ' := (S3, M, O)) (rfl) ?_
      cases hF
      exact Ex_fin rfl
    have hF : (if z5 = 1 then _ else _) = _ := hF
    rw [if_neg hz1] at hF
    cases hF
def F_m_isFit_4 : Nat → Int32 → Int32 → Int32 → Sto → Option Int32
  | 0, _, _, _, _ => none
  | n + 1, x1, x2, x3, M => if (gi M 1021) ≤ x3 then if x2 = x1 then some (1 : Int32) else some (0 : Int32) else ck (ib x3 12) (b1 (F_m_netsOf (al M 1017 (Int32.toNatClampNeg x3)) M) (fun r2 => if (r2 &&& x1) = 0 then some (0 : Int32) else F_m_isFit_4 n x1 (x2 ||| (r2 &&& x1)) (x3 + (1 : Int32)) M))
set_option maxRecDepth 100000 in
theorem X_m_isFit_4 {nL : Nat} {xs : Nat → Int32} {S : Sto} {O : Sto} {d : Nat} (hd : 4 ≤ d) : ∀ n : Nat, ∀ (x1 : Int32) (x2 : Int32) (x3 : Int32) (M : Sto) (r : Int32), F_m_isFit_4 n x1 x2 x3 M = some r → EX nL xs 0 MI_261 d 4 [some (.ref 1000), some (.int x1), some (.int x2), some (.int x3), none] [] (S, M, O) (.inl (some (.int r))) (S, M, O) := by
  intro n
  induction n with
  | zero => intro x1 x2 x3 M r hF; cases hF
  | succ n ih =>
  intro x1 x2 x3 M r hF
  unfold F_m_isFit_4 at hF
  refine Ex_go 4 (pc' := if (gi M 1021) ≤ x3 then 44 else 12) (L' := [some (.ref 1000), some (.int x1), some (.int x2), some (.int x3), none]) (st' := []) (σ' := (S, M, O)) (rfl) ?_
  refine Ex_br (fun hc => ?_) (fun hc => ?_)
  · rw [if_pos hc] at hF
    refine Ex_go 3 (pc' := if ¬ x2 = x1 then 53 else 49) (L' := [some (.ref 1000), some (.int x1), some (.int x2), some (.int x3), none]) (st' := []) (σ' := (S, M, O)) (rfl) ?_
    refine Ex_brN (fun hc => ?_) (fun hc => ?_)
    · rw [if_pos hc] at hF
      refine Ex_go 2 (pc' := 54) (L' := [some (.ref 1000), some (.int x1), some (.int x2), some (.int x3), none]) (st' := [.int (1 : Int32)]) (σ' := (S, M, O)) (rfl) ?_
      cases hF
      exact Ex_fin rfl
    · rw [if_neg hc] at hF
      refine Ex_go 1 (pc' := 54) (L' := [some (.ref 1000), some (.int x1), some (.int x2), some (.int x3), none]) (st' := [.int (0 : Int32)]) (σ' := (S, M, O)) (rfl) ?_
      cases hF
      exact Ex_fin rfl
  · rw [if_neg hc] at hF
    refine Ex_go 4 (pc' := 18) (L' := [some (.ref 1000), some (.int x1), some (.int x2), some (.int x3), none]) (st' := [.int x3, .ref 1017, .ref 1000]) (σ' := (S, M, O)) (rfl) ?_
    obtain ⟨hc1, hF⟩ := ck_i hF
    refine Ex_chk (b := ib x3 12) (pc' := 19) (L' := [some (.ref 1000), some (.int x1), some (.int x2), some (.int x3), none]) (st' := [.long (al M 1017 (Int32.toNatClampNeg x3)), .ref 1000]) (σ' := (S, M, O)) rfl hc1 ?_
    obtain ⟨r2, hx3, hF⟩ := b1_i hF
    refine Ex_call (kind := 2) (y := 128) (as := [.ref 1000, .long (al M 1017 (Int32.toNatClampNeg x3))]) (rest := []) (L0 := [some (.ref 1000), some (.long (al M 1017 (Int32.toNatClampNeg x3))), none, none, none]) (d' := 3) (v := some (.int r2)) (σ1 := (S, M, O)) rfl rfl mt_128 rfl rfl (by omega) (X_m_netsOf (Nat.le_refl _) _ _ _ hx3) (Ex_st (st2 := [.int r2]) rfl ?_)
    refine Ex_go 5 (pc' := if ¬ (r2 &&& x1) = 0 then 33 else 31) (L' := [some (.ref 1000), some (.int x1), some (.int x2), some (.int x3), some (.int (r2 &&& x1))]) (st' := []) (σ' := (S, M, O)) (rfl) ?_
    refine Ex_brN (fun hc => ?_) (fun hc => ?_)
    · rw [if_pos hc] at hF
      refine Ex_go 1 (pc' := 32) (L' := [some (.ref 1000), some (.int x1), some (.int x2), some (.int x3), some (.int (r2 &&& x1))]) (st' := [.int (0 : Int32)]) (σ' := (S, M, O)) (rfl) ?_
      cases hF
      exact Ex_fin rfl
    · rw [if_neg hc] at hF
      refine Ex_go 6 (pc' := 4) (L' := [some (.ref 1000), some (.int x1), some (.int (x2 ||| (r2 &&& x1))), some (.int (x3 + (1 : Int32))), some (.int (r2 &&& x1))]) (st' := []) (σ' := (S, M, O)) (rfl) ?_
      exact Ex_mono (L := [some (.ref 1000), some (.int x1), some (.int (x2 ||| (r2 &&& x1))), some (.int (x3 + (1 : Int32))), none]) (Le_s (Le_s (Le_s (Le_s (Le_n (Le_0)))))) (ih _ _ _ _ _ hF) (Nat.le_refl _) (by omega)
def F_m_isFit (x1 : Int32) (M : Sto) : Option Int32 := F_m_isFit_4 FU x1 (0 : Int32) (0 : Int32) M
set_option maxRecDepth 100000 in
theorem X_m_isFit {nL : Nat} {xs : Nat → Int32} {S : Sto} {O : Sto} {d : Nat} (hd : 4 ≤ d) : ∀ (x1 : Int32) (M : Sto) (r : Int32), F_m_isFit x1 M = some r → EX nL xs 0 MI_261 d 0 [some (.ref 1000), some (.int x1), none, none, none] [] (S, M, O) (.inl (some (.int r))) (S, M, O) := by
  intro x1 M r hF
  unfold F_m_isFit at hF
  refine Ex_go 4 (pc' := 4) (L' := [some (.ref 1000), some (.int x1), some (.int (0 : Int32)), some (.int (0 : Int32)), none]) (st' := []) (σ' := (S, M, O)) (rfl) ?_
  exact Ex_mono (L := [some (.ref 1000), some (.int x1), some (.int (0 : Int32)), some (.int (0 : Int32)), none]) (Le_s (Le_s (Le_s (Le_s (Le_n (Le_0)))))) (X_m_isFit_4 hd FU _ _ _ _ _ hF) (Nat.le_refl _) (by omega)
def F_m_fits_14 (M : Sto) : Option (Int32 × Sto) := b2 (F_m_fail (1 : Int32) M) (fun r1 M3 => some (r1, M3))
set_option maxRecDepth 100000 in
theorem X_m_fits_14 {nL : Nat} {xs : Nat → Int32} {S : Sto} {O : Sto} {d : Nat} (hd : 5 ≤ d) : ∀ (M : Sto) (r : Int32) (M' : Sto), F_m_fits_14 M = some (r, M') → EX nL xs 0 MI_262 d 14 [some (.ref 1000), none, none, none, none, none] [] (S, M, O) (.inl (some (.int r))) (S, M', O) := by
  intro M r M' hF
  unfold F_m_fits_14 at hF
  refine Ex_go 2 (pc' := 16) (L' := [some (.ref 1000), none, none, none, none, none]) (st' := [.int (1 : Int32), .ref 1000]) (σ' := (S, M, O)) (rfl) ?_
  obtain ⟨r1, M3, hx2, hF⟩ := b2_i hF
  refine Ex_call (kind := 2) (y := 50) (as := [.ref 1000, .int (1 : Int32)]) (rest := []) (L0 := [some (.ref 1000), some (.int (1 : Int32))]) (d' := 1) (v := some (.int r1)) (σ1 := (S, M3, O)) rfl rfl mt_50 rfl rfl (by omega) (X_m_fail (Nat.le_refl _) _ _ _ _ hx2) (Ex_st (st2 := [.int r1]) rfl ?_)
  cases hF
  exact Ex_fin rfl
def F_m_fits_67 (k27 : Int32 → Int32 → Int32 → Int32 → Sto → Option (Int32 × Sto)) (x1 : Int32) (x2 : Int32) (x3 : Int32) (x4 : Int32) (M : Sto) : Option (Int32 × Sto) := k27 x1 x2 x3 (x4 + (1 : Int32)) M
set_option maxRecDepth 100000 in
theorem X_m_fits_67 {nL : Nat} {xs : Nat → Int32} {S : Sto} {O : Sto} {d : Nat} (hd : 5 ≤ d) {k27 : Int32 → Int32 → Int32 → Int32 → Sto → Option (Int32 × Sto)} (hk27 : ∀ (x1 : Int32) (x2 : Int32) (x3 : Int32) (x4 : Int32) (M : Sto) (r : Int32) (M' : Sto), k27 x1 x2 x3 x4 M = some (r, M') → EX nL xs 0 MI_262 d 27 [some (.ref 1000), some (.int x1), some (.int x2), some (.int x3), some (.int x4), none] [] (S, M, O) (.inl (some (.int r))) (S, M', O)) : ∀ (x1 : Int32) (x2 : Int32) (x3 : Int32) (x4 : Int32) (M : Sto) (r : Int32) (M' : Sto), F_m_fits_67 k27 x1 x2 x3 x4 M = some (r, M') → EX nL xs 0 MI_262 d 67 [some (.ref 1000), some (.int x1), some (.int x2), some (.int x3), some (.int x4), none] [] (S, M, O) (.inl (some (.int r))) (S, M', O) := by
  intro x1 x2 x3 x4 M r M' hF
  unfold F_m_fits_67 at hF
  refine Ex_go 2 (pc' := 27) (L' := [some (.ref 1000), some (.int x1), some (.int x2), some (.int x3), some (.int (x4 + (1 : Int32))), none]) (st' := []) (σ' := (S, M, O)) (rfl) ?_
  exact Ex_mono (L := [some (.ref 1000), some (.int x1), some (.int x2), some (.int x3), some (.int (x4 + (1 : Int32))), none]) (Le_s (Le_s (Le_s (Le_s (Le_s (Le_n (Le_0))))))) (hk27 _ _ _ _ _ _ _ hF) (Nat.le_refl _) (by omega)
def F_m_fits_66 (k27 : Int32 → Int32 → Int32 → Int32 → Sto → Option (Int32 × Sto)) (x1 : Int32) (x2 : Int32) (x4 : Int32) (s0 : Int32) (M : Sto) : Option (Int32 × Sto) := F_m_fits_67 k27 x1 x2 s0 x4 M
set_option maxRecDepth 100000 in
theorem X_m_fits_66 {nL : Nat} {xs : Nat → Int32} {S : Sto} {O : Sto} {d : Nat} (hd : 5 ≤ d) {k27 : Int32 → Int32 → Int32 → Int32 → Sto → Option (Int32 × Sto)} (hk27 : ∀ (x1 : Int32) (x2 : Int32) (x3 : Int32) (x4 : Int32) (M : Sto) (r : Int32) (M' : Sto), k27 x1 x2 x3 x4 M = some (r, M') → EX nL xs 0 MI_262 d 27 [some (.ref 1000), some (.int x1), some (.int x2), some (.int x3), some (.int x4), none] [] (S, M, O) (.inl (some (.int r))) (S, M', O)) : ∀ (x1 : Int32) (x2 : Int32) (x4 : Int32) (s0 : Int32) (M : Sto) (r : Int32) (M' : Sto), F_m_fits_66 k27 x1 x2 x4 s0 M = some (r, M') → EX nL xs 0 MI_262 d 66 [some (.ref 1000), some (.int x1), some (.int x2), none, some (.int x4), none] [.int s0] (S, M, O) (.inl (some (.int r))) (S, M', O) := by
  intro x1 x2 x4 s0 M r M' hF
  unfold F_m_fits_66 at hF
  refine Ex_go 1 (pc' := 67) (L' := [some (.ref 1000), some (.int x1), some (.int x2), some (.int s0), some (.int x4), none]) (st' := []) (σ' := (S, M, O)) (rfl) ?_
  exact Ex_mono (L := [some (.ref 1000), some (.int x1), some (.int x2), some (.int s0), some (.int x4), none]) (Le_s (Le_s (Le_s (Le_s (Le_s (Le_n (Le_0))))))) (X_m_fits_67 hd hk27 _ _ _ _ _ _ _ hF) (Nat.le_refl _) (by omega)
def F_m_fits_109 (k79 : Int32 → Int32 → Int32 → Int32 → Int32 → Sto → Option (Int32 × Sto)) (x1 : Int32) (x2 : Int32) (x3 : Int32) (x5 : Int32) (s0 : Int32) (s1 : Int32) (M : Sto) : Option (Int32 × Sto) := k79 x1 x2 x3 (s0 + s1) (x5 + (1 : Int32)) M
set_option maxRecDepth 100000 in
theorem X_m_fits_109 {nL : Nat} {xs : Nat → Int32} {S : Sto} {O : Sto} {d : Nat} (hd : 5 ≤ d) {k79 : Int32 → Int32 → Int32 → Int32 → Int32 → Sto → Option (Int32 × Sto)} (hk79 : ∀ (x1 : Int32) (x2 : Int32) (x3 : Int32) (x4 : Int32) (x5 : Int32) (M : Sto) (r : Int32) (M' : Sto), k79 x1 x2 x3 x4 x5 M = some (r, M') → EX nL xs 0 MI_262 d 79 [some (.ref 1000), some (.int x1), some (.int x2), some (.int x3), some (.int x4), some (.int x5)] [] (S, M, O) (.inl (some (.int r))) (S, M', O)) : ∀ (x1 : Int32) (x2 : Int32) (x3 : Int32) (x5 : Int32) (s0 : Int32) (s1 : Int32) (M : Sto) (r : Int32) (M' : Sto), F_m_fits_109 k79 x1 x2 x3 x5 s0 s1 M = some (r, M') → EX nL xs 0 MI_262 d 109 [some (.ref 1000), some (.int x1), some (.int x2), some (.int x3), none, some (.int x5)] [.int s1, .int s0] (S, M, O) (.inl (some (.int r))) (S, M', O) := by
  intro x1 x2 x3 x5 s0 s1 M r M' hF
  unfold F_m_fits_109 at hF
  refine Ex_go 4 (pc' := 79) (L' := [some (.ref 1000), some (.int x1), some (.int x2), some (.int x3), some (.int (s0 + s1)), some (.int (x5 + (1 : Int32)))]) (st' := []) (σ' := (S, M, O)) (rfl) ?_
  exact Ex_mono (L := [some (.ref 1000), some (.int x1), some (.int x2), some (.int x3), some (.int (s0 + s1)), some (.int (x5 + (1 : Int32)))]) (Le_s (Le_s (Le_s (Le_s (Le_s (Le_s (Le_0))))))) (hk79 _ _ _ _ _ _ _ _ hF) (Nat.le_refl _) (by omega)
def F_m_fits_79 : Nat → Int32 → Int32 → Int32 → Int32 → Int32 → Sto → Option (Int32 × Sto)
  | 0, _, _, _, _, _, _ => none
  | n + 1, x1, x2, x3, x4, x5, M => if (gi M 1021) ≤ x5 then if x1 = 0 then some (x2, M) else if x1 = (1 : Int32) then some (x3, M) else some (x4, M) else ck (ib x5 12) (b1 (F_m_netsOf (al M 1017 (Int32.toNatClampNeg x5)) M) (fun r2 => if r2 = 0 then F_m_fits_109 (F_m_fits_79 n) x1 x2 x3 x5 x4 (1 : Int32) M else F_m_fits_109 (F_m_fits_79 n) x1 x2 x3 x5 x4 (0 : Int32) M))
set_option maxRecDepth 100000 in
theorem X_m_fits_79 {nL : Nat} {xs : Nat → Int32} {S : Sto} {O : Sto} {d : Nat} (hd : 5 ≤ d) : ∀ n : Nat, ∀ (x1 : Int32) (x2 : Int32) (x3 : Int32) (x4 : Int32) (x5 : Int32) (M : Sto) (r : Int32) (M' : Sto), F_m_fits_79 n x1 x2 x3 x4 x5 M = some (r, M') → EX nL xs 0 MI_262 d 79 [some (.ref 1000), some (.int x1), some (.int x2), some (.int x3), some (.int x4), some (.int x5)] [] (S, M, O) (.inl (some (.int r))) (S, M', O) := by
  intro n
  induction n with
  | zero => intro x1 x2 x3 x4 x5 M r M' hF; cases hF
  | succ n ih =>
  intro x1 x2 x3 x4 x5 M r M' hF
  unfold F_m_fits_79 at hF
  refine Ex_go 4 (pc' := if (gi M 1021) ≤ x5 then 118 else 88) (L' := [some (.ref 1000), some (.int x1), some (.int x2), some (.int x3), some (.int x4), some (.int x5)]) (st' := []) (σ' := (S, M, O)) (rfl) ?_
  refine Ex_br (fun hc => ?_) (fun hc => ?_)
  · rw [if_pos hc] at hF
    refine Ex_go 2 (pc' := if ¬ x1 = 0 then 126 else 122) (L' := [some (.ref 1000), some (.int x1), some (.int x2), some (.int x3), some (.int x4), some (.int x5)]) (st' := []) (σ' := (S, M, O)) (rfl) ?_
    refine Ex_brN (fun hc => ?_) (fun hc => ?_)
    · rw [if_pos hc] at hF
      refine Ex_go 2 (pc' := 137) (L' := [some (.ref 1000), some (.int x1), some (.int x2), some (.int x3), some (.int x4), some (.int x5)]) (st' := [.int x2]) (σ' := (S, M, O)) (rfl) ?_
      cases hF
      exact Ex_fin rfl
    · rw [if_neg hc] at hF
      refine Ex_go 3 (pc' := if ¬ x1 = (1 : Int32) then 135 else 131) (L' := [some (.ref 1000), some (.int x1), some (.int x2), some (.int x3), some (.int x4), some (.int x5)]) (st' := []) (σ' := (S, M, O)) (rfl) ?_
      refine Ex_brN (fun hc => ?_) (fun hc => ?_)
      · rw [if_pos hc] at hF
        refine Ex_go 2 (pc' := 137) (L' := [some (.ref 1000), some (.int x1), some (.int x2), some (.int x3), some (.int x4), some (.int x5)]) (st' := [.int x3]) (σ' := (S, M, O)) (rfl) ?_
        cases hF
        exact Ex_fin rfl
      · rw [if_neg hc] at hF
        refine Ex_go 1 (pc' := 137) (L' := [some (.ref 1000), some (.int x1), some (.int x2), some (.int x3), some (.int x4), some (.int x5)]) (st' := [.int x4]) (σ' := (S, M, O)) (rfl) ?_
        cases hF
        exact Ex_fin rfl
  · rw [if_neg hc] at hF
    refine Ex_go 5 (pc' := 97) (L' := [some (.ref 1000), some (.int x1), some (.int x2), some (.int x3), some (.int x4), some (.int x5)]) (st' := [.int x5, .ref 1017, .ref 1000, .int x4]) (σ' := (S, M, O)) (rfl) ?_
    obtain ⟨hc1, hF⟩ := ck_i hF
    refine Ex_chk (b := ib x5 12) (pc' := 98) (L' := [some (.ref 1000), some (.int x1), some (.int x2), some (.int x3), some (.int x4), some (.int x5)]) (st' := [.long (al M 1017 (Int32.toNatClampNeg x5)), .ref 1000, .int x4]) (σ' := (S, M, O)) rfl hc1 ?_
    obtain ⟨r2, hx3, hF⟩ := b1_i hF
    refine Ex_call (kind := 2) (y := 128) (as := [.ref 1000, .long (al M 1017 (Int32.toNatClampNeg x5))]) (rest := [.int x4]) (L0 := [some (.ref 1000), some (.long (al M 1017 (Int32.toNatClampNeg x5))), none, none, none]) (d' := 3) (v := some (.int r2)) (σ1 := (S, M, O)) rfl rfl mt_128 rfl rfl (by omega) (X_m_netsOf (Nat.le_refl _) _ _ _ hx3) (Ex_st (st2 := [.int r2, .int x4]) rfl ?_)
    refine Ex_go 1 (pc' := if ¬ r2 = 0 then 108 else 104) (L' := [some (.ref 1000), some (.int x1), some (.int x2), some (.int x3), some (.int x4), some (.int x5)]) (st' := [.int x4]) (σ' := (S, M, O)) (rfl) ?_
    refine Ex_brN (fun hc => ?_) (fun hc => ?_)
    · rw [if_pos hc] at hF
      refine Ex_go 2 (pc' := 109) (L' := [some (.ref 1000), some (.int x1), some (.int x2), some (.int x3), some (.int x4), some (.int x5)]) (st' := [.int (1 : Int32), .int x4]) (σ' := (S, M, O)) (rfl) ?_
      exact Ex_mono (L := [some (.ref 1000), some (.int x1), some (.int x2), some (.int x3), none, some (.int x5)]) (Le_s (Le_s (Le_s (Le_s (Le_n (Le_s (Le_0))))))) (X_m_fits_109 hd ih _ _ _ _ _ _ _ _ _ hF) (Nat.le_refl _) (by omega)
    · rw [if_neg hc] at hF
      refine Ex_go 1 (pc' := 109) (L' := [some (.ref 1000), some (.int x1), some (.int x2), some (.int x3), some (.int x4), some (.int x5)]) (st' := [.int (0 : Int32), .int x4]) (σ' := (S, M, O)) (rfl) ?_
      exact Ex_mono (L := [some (.ref 1000), some (.int x1), some (.int x2), some (.int x3), none, some (.int x5)]) (Le_s (Le_s (Le_s (Le_s (Le_n (Le_s (Le_0))))))) (X_m_fits_109 hd ih _ _ _ _ _ _ _ _ _ hF) (Nat.le_refl _) (by omega)
def F_m_fits_27 : Nat → Int32 → Int32 → Int32 → Int32 → Sto → Option (Int32 × Sto)
  | 0, _, _, _, _, _ => none
  | n + 1, x1, x2, x3, x4, M => if ((1 : Int32) <<< ((ai M 1003 (Int32.toNatClampNeg (0 : Int32))) &&& 31)) ≤ x4 then F_m_fits_79 FU x1 x2 x3 (0 : Int32) (0 : Int32) M else b1 (F_m_isFit x4 M) (fun r1 => if r1 = 0 then F_m_fits_67 (F_m_fits_27 n) x1 x2 x3 x4 M else if x3 = (-1 : Int32) then F_m_fits_66 (F_m_fits_27 n) x1 (x2 + (1 : Int32)) x4 x4 M else F_m_fits_66 (F_m_fits_27 n) x1 (x2 + (1 : Int32)) x4 x3 M)
set_option maxRecDepth 100000 in
theorem X_m_fits_27 {nL : Nat} {xs : Nat → Int32} {S : Sto} {O : Sto} {d : Nat} (hd : 5 ≤ d) : ∀ n : Nat, ∀ (x1 : Int32) (x2 : Int32) (x3 : Int32) (x4 : Int32) (M : Sto) (r : Int32) (M' : Sto), F_m_fits_27 n x1 x2 x3 x4 M = some (r, M') → EX nL xs 0 MI_262 d 27 [some (.ref 1000), some (.int x1), some (.int x2), some (.int x3), some (.int x4), none] [] (S, M, O) (.inl (some (.int r))) (S, M', O) := by
  intro n
  induction n with
  | zero => intro x1 x2 x3 x4 M r M' hF; cases hF
  | succ n ih =>
  intro x1 x2 x3 x4 M r M' hF
  unfold F_m_fits_27 at hF
  refine Ex_go 5 (pc' := 35) (L' := [some (.ref 1000), some (.int x1), some (.int x2), some (.int x3), some (.int x4), none]) (st' := [.int (0 : Int32), .ref 1003, .int (1 : Int32), .int x4]) (σ' := (S, M, O)) (rfl) ?_
  refine Ex_chk (b := ib (0 : Int32) 6) (pc' := 36) (L' := [some (.ref 1000), some (.int x1), some (.int x2), some (.int x3), some (.int x4), none]) (st' := [.int (ai M 1003 (Int32.toNatClampNeg (0 : Int32))), .int (1 : Int32), .int x4]) (σ' := (S, M, O)) rfl (by decide) ?_
  refine Ex_go 2 (pc' := if ((1 : Int32) <<< ((ai M 1003 (Int32.toNatClampNeg (0 : Int32))) &&& 31)) ≤ x4 then 73 else 40) (L' := [some (.ref 1000), some (.int x1), some (.int x2), some (.int x3), some (.int x4), none]) (st' := []) (σ' := (S, M, O)) (rfl) ?_
  refine Ex_br (fun hc => ?_) (fun hc => ?_)
  · rw [if_pos hc] at hF
    refine Ex_go 4 (pc' := 79) (L' := [some (.ref 1000), some (.int x1), some (.int x2), some (.int x3), some (.int (0 : Int32)), some (.int (0 : Int32))]) (st' := []) (σ' := (S, M, O)) (rfl) ?_
    exact Ex_mono (L := [some (.ref 1000), some (.int x1), some (.int x2), some (.int x3), some (.int (0 : Int32)), some (.int (0 : Int32))]) (Le_s (Le_s (Le_s (Le_s (Le_s (Le_s (Le_0))))))) (X_m_fits_79 hd FU _ _ _ _ _ _ _ _ hF) (Nat.le_refl _) (by omega)
  · rw [if_neg hc] at hF
    refine Ex_go 2 (pc' := 43) (L' := [some (.ref 1000), some (.int x1), some (.int x2), some (.int x3), some (.int x4), none]) (st' := [.int x4, .ref 1000]) (σ' := (S, M, O)) (rfl) ?_
    obtain ⟨r1, hx2, hF⟩ := b1_i hF
    refine Ex_call (kind := 2) (y := 261) (as := [.ref 1000, .int x4]) (rest := []) (L0 := [some (.ref 1000), some (.int x4), none, none, none]) (d' := 4) (v := some (.int r1)) (σ1 := (S, M, O)) rfl rfl mt_261 rfl rfl (by omega) (X_m_isFit (Nat.le_refl _) _ _ _ hx2) (Ex_st (st2 := [.int r1]) rfl ?_)
    refine Ex_go 1 (pc' := if ¬ r1 = 0 then 52 else 49) (L' := [some (.ref 1000), some (.int x1), some (.int x2), some (.int x3), some (.int x4), none]) (st' := []) (σ' := (S, M, O)) (rfl) ?_
    refine Ex_brN (fun hc => ?_) (fun hc => ?_)
    · rw [if_pos hc] at hF
      refine Ex_go 1 (pc' := 67) (L' := [some (.ref 1000), some (.int x1), some (.int x2), some (.int x3), some (.int x4), none]) (st' := []) (σ' := (S, M, O)) (rfl) ?_
      exact Ex_mono (L := [some (.ref 1000), some (.int x1), some (.int x2), some (.int x3), some (.int x4), none]) (Le_s (Le_s (Le_s (Le_s (Le_s (Le_n (Le_0))))))) (X_m_fits_67 hd ih _ _ _ _ _ _ _ hF) (Nat.le_refl _) (by omega)
    · rw [if_neg hc] at hF
      refine Ex_go 4 (pc' := if ¬ x3 = (-1 : Int32) then 65 else 60) (L' := [some (.ref 1000), some (.int x1), some (.int (x2 + (1 : Int32))), some (.int x3), some (.int x4), none]) (st' := []) (σ' := (S, M, O)) (rfl) ?_
      refine Ex_brN (fun hc => ?_) (fun hc => ?_)
      · rw [if_pos hc] at hF
        refine Ex_go 2 (pc' := 66) (L' := [some (.ref 1000), some (.int x1), some (.int (x2 + (1 : Int32))), some (.int x3), some (.int x4), none]) (st' := [.int x4]) (σ' := (S, M, O)) (rfl) ?_
        exact Ex_mono (L := [some (.ref 1000), some (.int x1), some (.int (x2 + (1 : Int32))), none, some (.int x4), none]) (Le_s (Le_s (Le_s (Le_n (Le_s (Le_n (Le_0))))))) (X_m_fits_66 hd ih _ _ _ _ _ _ _ hF) (Nat.le_refl _) (by omega)
      · rw [if_neg hc] at hF
        refine Ex_go 1 (pc' := 66) (L' := [some (.ref 1000), some (.int x1), some (.int (x2 + (1 : Int32))), some (.int x3), some (.int x4), none]) (st' := [.int x3]) (σ' := (S, M, O)) (rfl) ?_
        exact Ex_mono (L := [some (.ref 1000), some (.int x1), some (.int (x2 + (1 : Int32))), none, some (.int x4), none]) (Le_s (Le_s (Le_s (Le_n (Le_s (Le_n (Le_0))))))) (X_m_fits_66 hd ih _ _ _ _ _ _ _ hF) (Nat.le_refl _) (by omega)
def F_m_fits (x1 : Int32) (M : Sto) : Option (Int32 × Sto) := if x1 < 0 then F_m_fits_14 (si M 1001 (0 : Int32)) else if x1 ≤ (2 : Int32) then F_m_fits_27 FU x1 (0 : Int32) (-1 : Int32) (0 : Int32) (si M 1001 (0 : Int32)) else F_m_fits_14 (si M 1001 (0 : Int32))
set_option maxRecDepth 100000 in
theorem X_m_fits {nL : Nat} {xs : Nat → Int32} {S : Sto} {O : Sto} {d : Nat} (hd : 5 ≤ d) : ∀ (x1 : Int32) (M : Sto) (r : Int32) (M' : Sto), F_m_fits x1 M = some (r, M') → EX nL xs 0 MI_262 d 0 [some (.ref 1000), some (.int x1), none, none, none, none] [] (S, M, O) (.inl (some (.int r))) (S, M', O) := by
  intro x1 M r M' hF
  unfold F_m_fits at hF
  refine Ex_go 5 (pc' := if x1 < 0 then 14 else 9) (L' := [some (.ref 1000), some (.int x1), none, none, none, none]) (st' := []) (σ' := (S, (si M 1001 (0 : Int32)), O)) (rfl) ?_
  refine Ex_br (fun hc => ?_) (fun hc => ?_)
  · rw [if_pos hc] at hF
    exact Ex_mono (L := [some (.ref 1000), none, none, none, none, none]) (Le_s (Le_n (Le_n (Le_n (Le_n (Le_n (Le_0))))))) (X_m_fits_14 hd _ _ _ hF) (Nat.le_refl _) (by omega)
  · rw [if_neg hc] at hF
    refine Ex_go 3 (pc' := if x1 ≤ (2 : Int32) then 20 else 14) (L' := [some (.ref 1000), some (.int x1), none, none, none, none]) (st' := []) (σ' := (S, (si M 1001 (0 : Int32)), O)) (rfl) ?_
    refine Ex_br (fun hc => ?_) (fun hc => ?_)
    · rw [if_pos hc] at hF
      refine Ex_go 6 (pc' := 27) (L' := [some (.ref 1000), some (.int x1), some (.int (0 : Int32)), some (.int (-1 : Int32)), some (.int (0 : Int32)), none]) (st' := []) (σ' := (S, (si M 1001 (0 : Int32)), O)) (rfl) ?_
      exact Ex_mono (L := [some (.ref 1000), some (.int x1), some (.int (0 : Int32)), some (.int (-1 : Int32)), some (.int (0 : Int32)), none]) (Le_s (Le_s (Le_s (Le_s (Le_s (Le_n (Le_0))))))) (X_m_fits_27 hd FU _ _ _ _ _ _ _ hF) (Nat.le_refl _) (by omega)
    · rw [if_neg hc] at hF
      exact Ex_mono (L := [some (.ref 1000), none, none, none, none, none]) (Le_s (Le_n (Le_n (Le_n (Le_n (Le_n (Le_0))))))) (X_m_fits_14 hd _ _ _ hF) (Nat.le_refl _) (by omega)
def F_w_isNumber (x0 : Int64) : Option Int32 := if x0 < (1 : Int64) then some (0 : Int32) else if (1000000000000 : Int64) < x0 then some (0 : Int32) else some (1 : Int32)
set_option maxRecDepth 100000 in
theorem X_w_isNumber {nL : Nat} {xs : Nat → Int32} {S : Sto} {M : Sto} {O : Sto} {d : Nat} (hd : 1 ≤ d) : ∀ (x0 : Int64) (r : Int32), F_w_isNumber x0 = some r → EX nL xs 0 MI_98 d 0 [some (.long x0), none] [] (S, M, O) (.inl (some (.int r))) (S, M, O) := by
  intro x0 r hF
  unfold F_w_isNumber at hF
  refine Ex_go 4 (pc' := if (lg_cmp x0 (1 : Int64)) < 0 then 18 else 6) (L' := [some (.long x0), none]) (st' := []) (σ' := (S, M, O)) (rfl) ?_
  refine Ex_brI lc_lt (fun hc => ?_) (fun hc => ?_)
  · rw [if_pos hc] at hF
    refine Ex_go 1 (pc' := 19) (L' := [some (.long x0), none]) (st' := [.int (0 : Int32)]) (σ' := (S, M, O)) (rfl) ?_
    cases hF
    exact Ex_fin rfl
  · rw [if_neg hc] at hF
    refine Ex_go 4 (pc' := if 0 < (lg_cmp x0 (1000000000000 : Int64)) then 18 else 14) (L' := [some (.long x0), none]) (st' := []) (σ' := (S, M, O)) (rfl) ?_
    refine Ex_brI lc_gt (fun hc => ?_) (fun hc => ?_)
    · rw [if_pos hc] at hF
      refine Ex_go 1 (pc' := 19) (L' := [some (.long x0), none]) (st' := [.int (0 : Int32)]) (σ' := (S, M, O)) (rfl) ?_
      cases hF
      exact Ex_fin rfl
    · rw [if_neg hc] at hF
      refine Ex_go 2 (pc' := 19) (L' := [some (.long x0), none]) (st' := [.int (1 : Int32)]) (σ' := (S, M, O)) (rfl) ?_
      cases hF
      exact Ex_fin rfl
def F_Sc_refuse (x1 : Int32) (S : Sto) : Option (Unit × Sto) := if x1 < 0 then some ((), S) else if (3 : Int32) ≤ x1 then some ((), S) else ck (ib x1 3) (ck (ib x1 3) (some ((), (ui S 34 (upd (ai S 34) (Int32.toNatClampNeg x1) ((ai S 34 (Int32.toNatClampNeg x1)) + (1 : Int32)))))))
set_option maxRecDepth 100000 in
theorem X_Sc_refuse {nL : Nat} {xs : Nat → Int32} {M : Sto} {O : Sto} {d : Nat} (hd : 1 ≤ d) : ∀ (x1 : Int32) (S : Sto) (r : Unit) (S' : Sto), F_Sc_refuse x1 S = some (r, S') → EX nL xs 0 MI_37 d 0 [some (.ref 27), some (.int x1)] [] (S, M, O) (.inl none) (S', M, O) := by
  intro x1 S r S' hF
  unfold F_Sc_refuse at hF
  refine Ex_go 2 (pc' := if x1 < 0 then 19 else 4) (L' := [some (.ref 27), some (.int x1)]) (st' := []) (σ' := (S, M, O)) (rfl) ?_
  refine Ex_br (fun hc => ?_) (fun hc => ?_)
  · rw [if_pos hc] at hF
    cases hF
    exact Ex_fin rfl
  · rw [if_neg hc] at hF
    refine Ex_go 3 (pc' := if (3 : Int32) ≤ x1 then 19 else 9) (L' := [some (.ref 27), some (.int x1)]) (st' := []) (σ' := (S, M, O)) (rfl) ?_
    refine Ex_br (fun hc => ?_) (fun hc => ?_)
    · rw [if_pos hc] at hF
      cases hF
      exact Ex_fin rfl
    · rw [if_neg hc] at hF
      refine Ex_go 4 (pc' := 15) (L' := [some (.ref 27), some (.int x1)]) (st' := [.int x1, .ref 34, .int x1, .ref 34]) (σ' := (S, M, O)) (rfl) ?_
      obtain ⟨hc1, hF⟩ := ck_i hF
      refine Ex_chk (b := ib x1 3) (pc' := 16) (L' := [some (.ref 27), some (.int x1)]) (st' := [.int (ai S 34 (Int32.toNatClampNeg x1)), .int x1, .ref 34]) (σ' := (S, M, O)) rfl hc1 ?_
      refine Ex_go 2 (pc' := 18) (L' := [some (.ref 27), some (.int x1)]) (st' := [.int ((ai S 34 (Int32.toNatClampNeg x1)) + (1 : Int32)), .int x1, .ref 34]) (σ' := (S, M, O)) (rfl) ?_
      obtain ⟨hc2, hF⟩ := ck_i hF
      refine Ex_chk (b := ib x1 3) (pc' := 19) (L' := [some (.ref 27), some (.int x1)]) (st' := []) (σ' := ((ui S 34 (upd (ai S 34) (Int32.toNatClampNeg x1) ((ai S 34 (Int32.toNatClampNeg x1)) + (1 : Int32)))), M, O)) rfl hc2 ?_
      cases hF
      exact Ex_fin rfl
def F_Sc_addSeen (x1 : Int64) (S : Sto) : Option (Int32 × Sto) := if (gi S 33) < 0 then some ((0 : Int32), S) else if (gi S 33) < (12 : Int32) then ck (ib (gi S 33) 12) (some ((1 : Int32), (si (ul S 33 (vp_updL (al S 33) (Int32.toNatClampNeg (gi S 33)) x1)) 33 ((gi (ul S 33 (vp_updL (al S 33) (Int32.toNatClampNeg (gi S 33)) x1)) 33) + (1 : Int32))))) else some ((0 : Int32), S)
set_option maxRecDepth 100000 in
theorem X_Sc_addSeen {nL : Nat} {xs : Nat → Int32} {M : Sto} {O : Sto} {d : Nat} (hd : 1 ≤ d) : ∀ (x1 : Int64) (S : Sto) (r : Int32) (S' : Sto), F_Sc_addSeen x1 S = some (r, S') → EX nL xs 0 MI_254 d 0 [some (.ref 27), some (.long x1), none] [] (S, M, O) (.inl (some (.int r))) (S', M, O) := by
  intro x1 S r S' hF
  unfold F_Sc_addSeen at hF
  refine Ex_go 3 (pc' := if (gi S 33) < 0 then 16 else 7) (L' := [some (.ref 27), some (.long x1), none]) (st' := []) (σ' := (S, M, O)) (rfl) ?_
  refine Ex_br (fun hc => ?_) (fun hc => ?_)
  · rw [if_pos hc] at hF
    refine Ex_go 1 (pc' := 17) (L' := [some (.ref 27), some (.long x1), none]) (st' := [.int (0 : Int32)]) (σ' := (S, M, O)) (rfl) ?_
    cases hF
    exact Ex_fin rfl
  · rw [if_neg hc] at hF
    refine Ex_go 4 (pc' := if (gi S 33) < (12 : Int32) then 18 else 16) (L' := [some (.ref 27), some (.long x1), none]) (st' := []) (σ' := (S, M, O)) (rfl) ?_
    refine Ex_br (fun hc => ?_) (fun hc => ?_)
    · rw [if_pos hc] at hF
      refine Ex_go 5 (pc' := 27) (L' := [some (.ref 27), some (.long x1), none]) (st' := [.long x1, .int (gi S 33), .ref 33]) (σ' := (S, M, O)) (rfl) ?_
      obtain ⟨hc1, hF⟩ := ck_i hF
      refine Ex_chk (b := ib (gi S 33) 12) (pc' := 28) (L' := [some (.ref 27), some (.long x1), none]) (st' := []) (σ' := ((ul S 33 (vp_updL (al S 33) (Int32.toNatClampNeg (gi S 33)) x1)), M, O)) rfl hc1 ?_
      refine Ex_go 7 (pc' := 39) (L' := [some (.ref 27), some (.long x1), none]) (st' := [.int (1 : Int32)]) (σ' := ((si (ul S 33 (vp_updL (al S 33) (Int32.toNatClampNeg (gi S 33)) x1)) 33 ((gi (ul S 33 (vp_updL (al S 33) (Int32.toNatClampNeg (gi S 33)) x1)) 33) + (1 : Int32))), M, O)) (rfl) ?_
      cases hF
      exact Ex_fin rfl
    · rw [if_neg hc] at hF
      refine Ex_go 1 (pc' := 17) (L' := [some (.ref 27), some (.long x1), none]) (st' := [.int (0 : Int32)]) (σ' := (S, M, O)) (rfl) ?_
      cases hF
      exact Ex_fin rfl
def F_w_see_18 (S : Sto) : Option (Int32 × Sto) := b2 (F_Sc_refuse (2 : Int32) S) (fun r1 S3 => some ((-1 : Int32), S3))
set_option maxRecDepth 100000 in
theorem X_w_see_18 {nL : Nat} {xs : Nat → Int32} {M : Sto} {O : Sto} {d : Nat} (hd : 2 ≤ d) : ∀ (S : Sto) (r : Int32) (S' : Sto), F_w_see_18 S = some (r, S') → EX nL xs 0 MI_255 d 18 [some (.ref 0), none, none] [] (S, M, O) (.inl (some (.int r))) (S', M, O) := by
  intro S r S' hF
  unfold F_w_see_18 at hF
  refine Ex_go 3 (pc' := 23) (L' := [some (.ref 0), none, none]) (st' := [.int (2 : Int32), .ref 27]) (σ' := (S, M, O)) (rfl) ?_
  obtain ⟨r1, S3, hx2, hF⟩ := b2_i hF
  refine Ex_call (kind := 2) (y := 37) (as := [.ref 27, .int (2 : Int32)]) (rest := []) (L0 := [some (.ref 27), some (.int (2 : Int32))]) (d' := 1) (v := none) (σ1 := (S3, M, O)) rfl rfl mt_37 rfl rfl (by omega) (X_Sc_refuse (Nat.le_refl _) _ _ _ _ hx2) (Ex_st (st2 := []) rfl ?_)
  refine Ex_go 1 (pc' := 27) (L' := [some (.ref 0), none, none]) (st' := [.int (-1 : Int32)]) (σ' := (S3, M, O)) (rfl) ?_
  cases hF
  exact Ex_fin rfl
def F_w_see (x1 : Int64) (S : Sto) : Option (Int32 × Sto) := b1 (F_w_isNumber x1) (fun r1 => if r1 = 0 then F_w_see_18 S else b2 (F_Sc_addSeen x1 S) (fun r3 S5 => if r3 = 0 then F_w_see_18 S5 else some ((gi S5 33), S5)))
set_option maxRecDepth 100000 in
theorem X_w_see {nL : Nat} {xs : Nat → Int32} {M : Sto} {O : Sto} {d : Nat} (hd : 2 ≤ d) : ∀ (x1 : Int64) (S : Sto) (r : Int32) (S' : Sto), F_w_see x1 S = some (r, S') → EX nL xs 0 MI_255 d 0 [some (.ref 0), some (.long x1), none] [] (S, M, O) (.inl (some (.int r))) (S', M, O) := by
  intro x1 S r S' hF
  unfold F_w_see at hF
  refine Ex_go 1 (pc' := 1) (L' := [some (.ref 0), some (.long x1), none]) (st' := [.long x1]) (σ' := (S, M, O)) (rfl) ?_
  obtain ⟨r1, hx2, hF⟩ := b1_i hF
  refine Ex_call (kind := 0) (y := 98) (as := [.long x1]) (rest := []) (L0 := [some (.long x1), none]) (d' := 1) (v := some (.int r1)) (σ1 := (S, M, O)) rfl rfl mt_98 rfl rfl (by omega) (X_w_isNumber (Nat.le_refl _) _ _ hx2) (Ex_st (st2 := [.int r1]) rfl ?_)
  refine Ex_go 1 (pc' := if r1 = 0 then 18 else 7) (L' := [some (.ref 0), some (.long x1), none]) (st' := []) (σ' := (S, M, O)) (rfl) ?_
  refine Ex_br (fun hc => ?_) (fun hc => ?_)
  · rw [if_pos hc] at hF
    exact Ex_mono (L := [some (.ref 0), none, none]) (Le_s (Le_n (Le_n (Le_0)))) (X_w_see_18 hd _ _ _ hF) (Nat.le_refl _) (by omega)
  · rw [if_neg hc] at hF
    refine Ex_go 3 (pc' := 12) (L' := [some (.ref 0), some (.long x1), none]) (st' := [.long x1, .ref 27]) (σ' := (S, M, O)) (rfl) ?_
    obtain ⟨r3, S5, hx4, hF⟩ := b2_i hF
    refine Ex_call (kind := 2) (y := 254) (as := [.ref 27, .long x1]) (rest := []) (L0 := [some (.ref 27), some (.long x1), none]) (d' := 1) (v := some (.int r3)) (σ1 := (S5, M, O)) rfl rfl mt_254 rfl rfl (by omega) (X_Sc_addSeen (Nat.le_refl _) _ _ _ _ hx4) (Ex_st (st2 := [.int r3]) rfl ?_)
    refine Ex_go 1 (pc' := if ¬ r3 = 0 then 28 else 18) (L' := [some (.ref 0), some (.long x1), none]) (st' := []) (σ' := (S5, M, O)) (rfl) ?_
    refine Ex_brN (fun hc => ?_) (fun hc => ?_)
    · rw [if_pos hc] at hF
      exact Ex_mono (L := [some (.ref 0), none, none]) (Le_s (Le_n (Le_n (Le_0)))) (X_w_see_18 hd _ _ _ hF) (Nat.le_refl _) (by omega)
    · rw [if_neg hc] at hF
      refine Ex_go 3 (pc' := 35) (L' := [some (.ref 0), some (.long x1), none]) (st' := [.int (gi S5 33)]) (σ' := (S5, M, O)) (rfl) ?_
      cases hF
      exact Ex_fin rfl
def F_m_refuse (x1 : Int32) (M : Sto) : Option (Int32 × Sto) := ck (ib x1 3) (ck (ib x1 3) (some ((-1 : Int32), (ui M 1008 (upd (ai M 1008) (Int32.toNatClampNeg x1) ((ai M 1008 (Int32.toNatClampNeg x1)) + (1 : Int32)))))))
set_option maxRecDepth 100000 in
theorem X_m_refuse {nL : Nat} {xs : Nat → Int32} {S : Sto} {O : Sto} {d : Nat} (hd : 1 ≤ d) : ∀ (x1 : Int32) (M : Sto) (r : Int32) (M' : Sto), F_m_refuse x1 M = some (r, M') → EX nL xs 0 MI_114 d 0 [some (.ref 1000), some (.int x1)] [] (S, M, O) (.inl (some (.int r))) (S, M', O) := by
  intro x1 M r M' hF
  unfold F_m_refuse at hF
  refine Ex_go 4 (pc' := 6) (L' := [some (.ref 1000), some (.int x1)]) (st' := [.int x1, .ref 1008, .int x1, .ref 1008]) (σ' := (S, M, O)) (rfl) ?_
  obtain ⟨hc1, hF⟩ := ck_i hF
  refine Ex_chk (b := ib x1 3) (pc' := 7) (L' := [some (.ref 1000), some (.int x1)]) (st' := [.int (ai M 1008 (Int32.toNatClampNeg x1)), .int x1, .ref 1008]) (σ' := (S, M, O)) rfl hc1 ?_
  refine Ex_go 2 (pc' := 9) (L' := [some (.ref 1000), some (.int x1)]) (st' := [.int ((ai M 1008 (Int32.toNatClampNeg x1)) + (1 : Int32)), .int x1, .ref 1008]) (σ' := (S, M, O)) (rfl) ?_
  obtain ⟨hc2, hF⟩ := ck_i hF
  refine Ex_chk (b := ib x1 3) (pc' := 10) (L' := [some (.ref 1000), some (.int x1)]) (st' := []) (σ' := (S, (ui M 1008 (upd (ai M 1008) (Int32.toNatClampNeg x1) ((ai M 1008 (Int32.toNatClampNeg x1)) + (1 : Int32)))), O)) rfl hc2 ?_
  refine Ex_go 1 (pc' := 11) (L' := [some (.ref 1000), some (.int x1)]) (st' := [.int (-1 : Int32)]) (σ' := (S, (ui M 1008 (upd (ai M 1008) (Int32.toNatClampNeg x1) ((ai M 1008 (Int32.toNatClampNeg x1)) + (1 : Int32)))), O)) (rfl) ?_
  cases hF
  exact Ex_fin rfl
def F_m_isNumber (x0 : Int64) : Option Int32 := b1 (F_m_isIn x0 (1 : Int64) (1000000000000 : Int64)) (fun r1 => ck (b01 r1) (some r1))
set_option maxRecDepth 100000 in
theorem X_m_isNumber {nL : Nat} {xs : Nat → Int32} {S : Sto} {M : Sto} {O : Sto} {d : Nat} (hd : 2 ≤ d) : ∀ (x0 : Int64) (r : Int32), F_m_isNumber x0 = some r → EX nL xs 0 MI_101 d 0 [some (.long x0), none] [] (S, M, O) (.inl (some (.int r))) (S, M, O) := by
  intro x0 r hF
  unfold F_m_isNumber at hF
  refine Ex_go 3 (pc' := 5) (L' := [some (.long x0), none]) (st' := [.long (1000000000000 : Int64), .long (1 : Int64), .long x0]) (σ' := (S, M, O)) (rfl) ?_
  obtain ⟨r1, hx2, hF⟩ := b1_i hF
  refine Ex_call (kind := 0) (y := 91) (as := [.long x0, .long (1 : Int64), .long (1000000000000 : Int64)]) (rest := []) (L0 := [some (.long x0), none, some (.long (1 : Int64)), none, some (.long (1000000000000 : Int64)), none]) (d' := 1) (v := some (.int r1)) (σ1 := (S, M, O)) rfl rfl mt_91 rfl rfl (by omega) (X_m_isIn (Nat.le_refl _) _ _ _ _ hx2) (Ex_st (st2 := [.int r1]) rfl ?_)
  obtain ⟨hc3, hF⟩ := ck_i hF
  cases hF
  exact Ex_finZ (by exact rfl) hc3
def F_m_see_21 (M : Sto) : Option (Int32 × Sto) := b2 (F_m_refuse (2 : Int32) M) (fun r1 M3 => some (r1, M3))
set_option maxRecDepth 100000 in
theorem X_m_see_21 {nL : Nat} {xs : Nat → Int32} {S : Sto} {O : Sto} {d : Nat} (hd : 3 ≤ d) : ∀ (M : Sto) (r : Int32) (M' : Sto), F_m_see_21 M = some (r, M') → EX nL xs 0 MI_256 d 21 [some (.ref 1000), none, none] [] (S, M, O) (.inl (some (.int r))) (S, M', O) := by
  intro M r M' hF
  unfold F_m_see_21 at hF
  refine Ex_go 2 (pc' := 23) (L' := [some (.ref 1000), none, none]) (st' := [.int (2 : Int32), .ref 1000]) (σ' := (S, M, O)) (rfl) ?_
  obtain ⟨r1, M3, hx2, hF⟩ := b2_i hF
  refine Ex_call (kind := 2) (y := 114) (as := [.ref 1000, .int (2 : Int32)]) (rest := []) (L0 := [some (.ref 1000), some (.int (2 : Int32))]) (d' := 1) (v := some (.int r1)) (σ1 := (S, M3, O)) rfl rfl mt_114 rfl rfl (by omega) (X_m_refuse (Nat.le_refl _) _ _ _ _ hx2) (Ex_st (st2 := [.int r1]) rfl ?_)
  cases hF
  exact Ex_fin rfl
def F_m_see (x1 : Int64) (M : Sto) : Option (Int32 × Sto) := if (gi (si M 1001 (0 : Int32)) 1021) = (12 : Int32) then F_m_see_21 (si M 1001 (0 : Int32)) else b1 (F_m_isNumber x1) (fun r1 => if r1 = 0 then F_m_see_21 (si M 1001 (0 : Int32)) else ck (ib (gi (si M 1001 (0 : Int32)) 1021) 12) (some ((gi (si (ul (si M 1001 (0 : Int32)) 1017 (vp_updL (al (si M 1001 (0 : Int32)) 1017) (Int32.toNatClampNeg (gi (si M 1001 (0 : Int32)) 1021)) x1)) 1021 ((gi (ul (si M 1001 (0 : Int32)) 1017 (vp_updL (al (si M 1001 (0 : Int32)) 1017) (Int32.toNatClampNeg (gi (si M 1001 (0 : Int32)) 1021)) x1)) 1021) + (1 : Int32))) 1021), (si (ul (si M 1001 (0 : Int32)) 1017 (vp_updL (al (si M 1001 (0 : Int32)) 1017) (Int32.toNatClampNeg (gi (si M 1001 (0 : Int32)) 1021)) x1)) 1021 ((gi (ul (si M 1001 (0 : Int32)) 1017 (vp_updL (al (si M 1001 (0 : Int32)) 1017) (Int32.toNatClampNeg (gi (si M 1001 (0 : Int32)) 1021)) x1)) 1021) + (1 : Int32))))))
set_option maxRecDepth 100000 in
theorem X_m_see {nL : Nat} {xs : Nat → Int32} {S : Sto} {O : Sto} {d : Nat} (hd : 3 ≤ d) : ∀ (x1 : Int64) (M : Sto) (r : Int32) (M' : Sto), F_m_see x1 M = some (r, M') → EX nL xs 0 MI_256 d 0 [some (.ref 1000), some (.long x1), none] [] (S, M, O) (.inl (some (.int r))) (S, M', O) := by
  intro x1 M r M' hF
  unfold F_m_see at hF
  refine Ex_go 7 (pc' := if (gi (si M 1001 (0 : Int32)) 1021) = (12 : Int32) then 21 else 14) (L' := [some (.ref 1000), some (.long x1), none]) (st' := []) (σ' := (S, (si M 1001 (0 : Int32)), O)) (rfl) ?_
  refine Ex_br (fun hc => ?_) (fun hc => ?_)
  · rw [if_pos hc] at hF
    exact Ex_mono (L := [some (.ref 1000), none, none]) (Le_s (Le_n (Le_n (Le_0)))) (X_m_see_21 hd _ _ _ hF) (Nat.le_refl _) (by omega)
  · rw [if_neg hc] at hF
    refine Ex_go 1 (pc' := 15) (L' := [some (.ref 1000), some (.long x1), none]) (st' := [.long x1]) (σ' := (S, (si M 1001 (0 : Int32)), O)) (rfl) ?_
    obtain ⟨r1, hx2, hF⟩ := b1_i hF
    refine Ex_call (kind := 0) (y := 101) (as := [.long x1]) (rest := []) (L0 := [some (.long x1), none]) (d' := 2) (v := some (.int r1)) (σ1 := (S, (si M 1001 (0 : Int32)), O)) rfl rfl mt_101 rfl rfl (by omega) (X_m_isNumber (Nat.le_refl _) _ _ hx2) (Ex_st (st2 := [.int r1]) rfl ?_)
    refine Ex_go 1 (pc' := if ¬ r1 = 0 then 27 else 21) (L' := [some (.ref 1000), some (.long x1), none]) (st' := []) (σ' := (S, (si M 1001 (0 : Int32)), O)) (rfl) ?_
    refine Ex_brN (fun hc => ?_) (fun hc => ?_)
    · rw [if_pos hc] at hF
      exact Ex_mono (L := [some (.ref 1000), none, none]) (Le_s (Le_n (Le_n (Le_0)))) (X_m_see_21 hd _ _ _ hF) (Nat.le_refl _) (by omega)
    · rw [if_neg hc] at hF
      refine Ex_go 5 (pc' := 36) (L' := [some (.ref 1000), some (.long x1), none]) (st' := [.long x1, .int (gi (si M 1001 (0 : Int32)) 1021), .ref 1017]) (σ' := (S, (si M 1001 (0 : Int32)), O)) (rfl) ?_
      obtain ⟨hc3, hF⟩ := ck_i hF
      refine Ex_chk (b := ib (gi (si M 1001 (0 : Int32)) 1021) 12) (pc' := 37) (L' := [some (.ref 1000), some (.long x1), none]) (st' := []) (σ' := (S, (ul (si M 1001 (0 : Int32)) 1017 (vp_updL (al (si M 1001 (0 : Int32)) 1017) (Int32.toNatClampNeg (gi (si M 1001 (0 : Int32)) 1021)) x1)), O)) rfl hc3 ?_
      refine Ex_go 8 (pc' := 51) (L' := [some (.ref 1000), some (.long x1), none]) (st' := [.int (gi (si (ul (si M 1001 (0 : Int32)) 1017 (vp_updL (al (si M 1001 (0 : Int32)) 1017) (Int32.toNatClampNeg (gi (si M 1001 (0 : Int32)) 1021)) x1)) 1021 ((gi (ul (si M 1001 (0 : Int32)) 1017 (vp_updL (al (si M 1001 (0 : Int32)) 1017) (Int32.toNatClampNeg (gi (si M 1001 (0 : Int32)) 1021)) x1)) 1021) + (1 : Int32))) 1021)]) (σ' := (S, (si (ul (si M 1001 (0 : Int32)) 1017 (vp_updL (al (si M 1001 (0 : Int32)) 1017) (Int32.toNatClampNeg (gi (si M 1001 (0 : Int32)) 1021)) x1)) 1021 ((gi (ul (si M 1001 (0 : Int32)) 1017 (vp_updL (al (si M 1001 (0 : Int32)) 1017) (Int32.toNatClampNeg (gi (si M 1001 (0 : Int32)) 1021)) x1)) 1021) + (1 : Int32))), O)) (rfl) ?_
      cases hF
      exact Ex_fin rfl
def F_Po_joined (x0 : Int32) (x1 : Int32) (x2 : Int32) : Option Int32 := if x0 = 8 then if x1 = 0 then some (1 : Int32) else some (0 : Int32) else (if x0 = 9 then if x1 = 0 then if x2 = 0 then some (0 : Int32) else some (1 : Int32) else some (1 : Int32) else (if x0 = 10 then if x1 = 0 then some (0 : Int32) else if x2 = 0 then some (0 : Int32) else some (1 : Int32) else (if x0 = 11 then if x2 ≤ x1 then some (0 : Int32) else some (1 : Int32) else (if x0 = 12 then if x1 = x2 then some (1 : Int32) else some (0 : Int32) else (if x0 = 13 then some (x1 + x2) else (if x0 = 14 then some (x1 - x2) else (if x0 = 15 then some (x1 * x2) else (if x2 = 0 then some (0 : Int32) else ck (nzI x2) (some (x1 / x2))))))))))
set_option maxRecDepth 100000 in
theorem X_Po_joined {nL : Nat} {xs : Nat → Int32} {S : Sto} {M : Sto} {O : Sto} {d : Nat} (hd : 1 ≤ d) : ∀ (x0 : Int32) (x1 : Int32) (x2 : Int32) (r : Int32), F_Po_joined x0 x1 x2 = some r → EX nL xs 0 MI_110 d 0 [some (.int x0), some (.int x1), some (.int x2)] [] (S, M, O) (.inl (some (.int r))) (S, M, O) := by
  intro x0 x1 x2 r hF
  unfold F_Po_joined at hF
  refine Ex_go 2 (pc' := swp x0 [(8, 48), (9, 58), (10, 72), (11, 86), (12, 97), (13, 108), (14, 112), (15, 116)] 120) (L' := [some (.int x0), some (.int x1), some (.int x2)]) (st' := []) (σ' := (S, M, O)) (rfl) ?_
  refine Ex_br (c := x0 = 8) (fun hc => ?_) (fun hc => ?_)
  · rw [if_pos hc] at hF
    refine Ex_go 2 (pc' := if ¬ x1 = 0 then 56 else 52) (L' := [some (.int x0), some (.int x1), some (.int x2)]) (st' := []) (σ' := (S, M, O)) (rfl) ?_
    refine Ex_brN (fun hc => ?_) (fun hc => ?_)
    · rw [if_pos hc] at hF
      refine Ex_go 2 (pc' := 57) (L' := [some (.int x0), some (.int x1), some (.int x2)]) (st' := [.int (1 : Int32)]) (σ' := (S, M, O)) (rfl) ?_
      cases hF
      exact Ex_fin rfl
    · rw [if_neg hc] at hF
      refine Ex_go 1 (pc' := 57) (L' := [some (.int x0), some (.int x1), some (.int x2)]) (st' := [.int (0 : Int32)]) (σ' := (S, M, O)) (rfl) ?_
      cases hF
      exact Ex_fin rfl
  rw [if_neg hc] at hF
  refine Ex_br (c := x0 = 9) (fun hc => ?_) (fun hc => ?_)
  · rw [if_pos hc] at hF
    refine Ex_go 2 (pc' := if ¬ x1 = 0 then 66 else 62) (L' := [some (.int x0), some (.int x1), some (.int x2)]) (st' := []) (σ' := (S, M, O)) (rfl) ?_
    refine Ex_brN (fun hc => ?_) (fun hc => ?_)
    · rw [if_pos hc] at hF
      refine Ex_go 2 (pc' := if x2 = 0 then 70 else 66) (L' := [some (.int x0), some (.int x1), some (.int x2)]) (st' := []) (σ' := (S, M, O)) (rfl) ?_
      refine Ex_br (fun hc => ?_) (fun hc => ?_)
      · rw [if_pos hc] at hF
        refine Ex_go 1 (pc' := 71) (L' := [some (.int x0), some (.int x1), some (.int x2)]) (st' := [.int (0 : Int32)]) (σ' := (S, M, O)) (rfl) ?_
        cases hF
        exact Ex_fin rfl
      · rw [if_neg hc] at hF
        refine Ex_go 2 (pc' := 71) (L' := [some (.int x0), some (.int x1), some (.int x2)]) (st' := [.int (1 : Int32)]) (σ' := (S, M, O)) (rfl) ?_
        cases hF
        exact Ex_fin rfl
    · rw [if_neg hc] at hF
      refine Ex_go 2 (pc' := 71) (L' := [some (.int x0), some (.int x1), some (.int x2)]) (st' := [.int (1 : Int32)]) (σ' := (S, M, O)) (rfl) ?_
      cases hF
      exact Ex_fin rfl
  rw [if_neg hc] at hF
  refine Ex_br (c := x0 = 10) (fun hc => ?_) (fun hc => ?_)
  · rw [if_pos hc] at hF
    refine Ex_go 2 (pc' := if x1 = 0 then 84 else 76) (L' := [some (.int x0), some (.int x1), some (.int x2)]) (st' := []) (σ' := (S, M, O)) (rfl) ?_
    refine Ex_br (fun hc => ?_) (fun hc => ?_)
    · rw [if_pos hc] at hF
      refine Ex_go 1 (pc' := 85) (L' := [some (.int x0), some (.int x1), some (.int x2)]) (st' := [.int (0 : Int32)]) (σ' := (S, M, O)) (rfl) ?_
      cases hF
      exact Ex_fin rfl
    · rw [if_neg hc] at hF
      refine Ex_go 2 (pc' := if x2 = 0 then 84 else 80) (L' := [some (.int x0), some (.int x1), some (.int x2)]) (st' := []) (σ' := (S, M, O)) (rfl) ?_
      refine Ex_br (fun hc => ?_) (fun hc => ?_)
      · rw [if_pos hc] at hF
        refine Ex_go 1 (pc' := 85) (L' := [some (.int x0), some (.int x1), some (.int x2)]) (st' := [.int (0 : Int32)]) (σ' := (S, M, O)) (rfl) ?_
        cases hF
        exact Ex_fin rfl
      · rw [if_neg hc] at hF
        refine Ex_go 2 (pc' := 85) (L' := [some (.int x0), some (.int x1), some (.int x2)]) (st' := [.int (1 : Int32)]) (σ' := (S, M, O)) (rfl) ?_
        cases hF
        exact Ex_fin rfl
  rw [if_neg hc] at hF
  refine Ex_br (c := x0 = 11) (fun hc => ?_) (fun hc => ?_)
  · rw [if_pos hc] at hF
    refine Ex_go 3 (pc' := if x2 ≤ x1 then 95 else 91) (L' := [some (.int x0), some (.int x1), some (.int x2)]) (st' := []) (σ' := (S, M, O)) (rfl) ?_
    refine Ex_br (fun hc => ?_) (fun hc => ?_)
    · rw [if_pos hc] at hF
      refine Ex_go 1 (pc' := 96) (L' := [some (.int x0), some (.int x1), some (.int x2)]) (st' := [.int (0 : Int32)]) (σ' := (S, M, O)) (rfl) ?_
      cases hF
      exact Ex_fin rfl
    · rw [if_neg hc] at hF
      refine Ex_go 2 (pc' := 96) (L' := [some (.int x0), some (.int x1), some (.int x2)]) (st' := [.int (1 : Int32)]) (σ' := (S, M, O)) (rfl) ?_
      cases hF
      exact Ex_fin rfl
  rw [if_neg hc] at hF
  refine Ex_br (c := x0 = 12) (fun hc => ?_) (fun hc => ?_)
  · rw [if_pos hc] at hF
    refine Ex_go 3 (pc' := if ¬ x1 = x2 then 106 else 102) (L' := [some (.int x0), some (.int x1), some (.int x2)]) (st' := []) (σ' := (S, M, O)) (rfl) ?_
    refine Ex_brN (fun hc => ?_) (fun hc => ?_)
    · rw [if_pos hc] at hF
      refine Ex_go 2 (pc' := 107) (L' := [some (.int x0), some (.int x1), some (.int x2)]) (st' := [.int (1 : Int32)]) (σ' := (S, M, O)) (rfl) ?_
      cases hF
      exact Ex_fin rfl
    · rw [if_neg hc] at hF
      refine Ex_go 1 (pc' := 107) (L' := [some (.int x0), some (.int x1), some (.int x2)]) (st' := [.int (0 : Int32)]) (σ' := (S, M, O)) (rfl) ?_
      cases hF
      exact Ex_fin rfl
  rw [if_neg hc] at hF
  refine Ex_br (c := x0 = 13) (fun hc => ?_) (fun hc => ?_)
  · rw [if_pos hc] at hF
    refine Ex_go 3 (pc' := 111) (L' := [some (.int x0), some (.int x1), some (.int x2)]) (st' := [.int (x1 + x2)]) (σ' := (S, M, O)) (rfl) ?_
    cases hF
    exact Ex_fin rfl
  rw [if_neg hc] at hF
  refine Ex_br (c := x0 = 14) (fun hc => ?_) (fun hc => ?_)
  · rw [if_pos hc] at hF
    refine Ex_go 3 (pc' := 115) (L' := [some (.int x0), some (.int x1), some (.int x2)]) (st' := [.int (x1 - x2)]) (σ' := (S, M, O)) (rfl) ?_
    cases hF
    exact Ex_fin rfl
  rw [if_neg hc] at hF
  refine Ex_br (c := x0 = 15) (fun hc => ?_) (fun hc => ?_)
  · rw [if_pos hc] at hF
    refine Ex_go 3 (pc' := 119) (L' := [some (.int x0), some (.int x1), some (.int x2)]) (st' := [.int (x1 * x2)]) (σ' := (S, M, O)) (rfl) ?_
    cases hF
    exact Ex_fin rfl
  rw [if_neg hc] at hF
  refine Ex_go 2 (pc' := if ¬ x2 = 0 then 128 else 124) (L' := [some (.int x0), some (.int x1), some (.int x2)]) (st' := []) (σ' := (S, M, O)) (rfl) ?_
  refine Ex_brN (fun hc => ?_) (fun hc => ?_)
  · rw [if_pos hc] at hF
    refine Ex_go 2 (pc' := 131) (L' := [some (.int x0), some (.int x1), some (.int x2)]) (st' := [.int (0 : Int32)]) (σ' := (S, M, O)) (rfl) ?_
    cases hF
    exact Ex_fin rfl
  · rw [if_neg hc] at hF
    refine Ex_go 2 (pc' := 130) (L' := [some (.int x0), some (.int x1), some (.int x2)]) (st' := [.int x2, .int x1]) (σ' := (S, M, O)) (rfl) ?_
    obtain ⟨hc1, hF⟩ := ck_i hF
    refine Ex_chk (b := nzI x2) (pc' := 131) (L' := [some (.int x0), some (.int x1), some (.int x2)]) (st' := [.int (x1 / x2)]) (σ' := (S, M, O)) rfl hc1 ?_
    cases hF
    exact Ex_fin rfl
def F_Po_join_3 : Nat → Int32 → Nat → Nat → Int32 → Int32 → Sto → Option (Unit × Sto)
  | 0, _, _, _, _, _, _ => none
  | n + 1, x0, p1, p2, x3, x4, S => if x3 ≤ x4 then some ((), S) else if (nI 60) ≤ x4 then some ((), S) else if (nI 60) ≤ x4 then some ((), S) else ck (ib x4 60) (ck (ib x4 60) (b1 (F_Po_joined x0 (ai S p1 (Int32.toNatClampNeg x4)) (ai S p2 (Int32.toNatClampNeg x4))) (fun r3 => ck (ib x4 60) (F_Po_join_3 n x0 p1 p2 x3 (x4 + (1 : Int32)) (ui S p1 (upd (ai S p1) (Int32.toNatClampNeg x4) r3))))))
set_option maxRecDepth 100000 in
theorem X_Po_join_3 {nL : Nat} {xs : Nat → Int32} {M : Sto} {O : Sto} {d : Nat} (hd : 2 ≤ d) : ∀ n : Nat, ∀ (x0 : Int32) (p1 : Nat) (p2 : Nat) (x3 : Int32) (x4 : Int32) (S : Sto) (r : Unit) (S' : Sto), isW p1 → isW p2 → F_Po_join_3 n x0 p1 p2 x3 x4 S = some (r, S') → EX nL xs 0 MI_111 d 3 [some (.int x0), some (.ref p1), some (.ref p2), some (.int x3), some (.int x4)] [] (S, M, O) (.inl none) (S', M, O) := by
  intro n
  induction n with
  | zero => intro x0 p1 p2 x3 x4 S r S' hp1 hp2 hF; cases hF
  | succ n ih =>
  intro x0 p1 p2 x3 x4 S r S' hp1 hp2 hF
  unfold F_Po_join_3 at hF
  refine Ex_go 3 (pc' := if x3 ≤ x4 then 45 else 9) (L' := [some (.int x0), some (.ref p1), some (.ref p2), some (.int x3), some (.int x4)]) (st' := []) (σ' := (S, M, O)) (rfl) ?_
  refine Ex_br (fun hc => ?_) (fun hc => ?_)
  · rw [if_pos hc] at hF
    cases hF
    exact Ex_fin rfl
  · rw [if_neg hc] at hF
    refine Ex_go 2 (pc' := 12) (L' := [some (.int x0), some (.ref p1), some (.ref p2), some (.int x3), some (.int x4)]) (st' := [.ref p1, .int x4]) (σ' := (S, M, O)) (rfl) ?_
    refine Ex_step (pc' := 13) (L' := [some (.int x0), some (.ref p1), some (.ref p2), some (.int x3), some (.int x4)]) (st' := [.int (nI 60), .int x4]) (σ' := (S, M, O)) (stW_len rfl hp1) ?_
    refine Ex_go 1 (pc' := if (nI 60) ≤ x4 then 45 else 16) (L' := [some (.int x0), some (.ref p1), some (.ref p2), some (.int x3), some (.int x4)]) (st' := []) (σ' := (S, M, O)) (rfl) ?_
    refine Ex_br (fun hc => ?_) (fun hc => ?_)
    · rw [if_pos hc] at hF
      cases hF
      exact Ex_fin rfl
    · rw [if_neg hc] at hF
      refine Ex_go 2 (pc' := 19) (L' := [some (.int x0), some (.ref p1), some (.ref p2), some (.int x3), some (.int x4)]) (st' := [.ref p2, .int x4]) (σ' := (S, M, O)) (rfl) ?_
      refine Ex_step (pc' := 20) (L' := [some (.int x0), some (.ref p1), some (.ref p2), some (.int x3), some (.int x4)]) (st' := [.int (nI 60), .int x4]) (σ' := (S, M, O)) (stW_len rfl hp2) ?_
      refine Ex_go 1 (pc' := if (nI 60) ≤ x4 then 45 else 23) (L' := [some (.int x0), some (.ref p1), some (.ref p2), some (.int x3), some (.int x4)]) (st' := []) (σ' := (S, M, O)) (rfl) ?_
      refine Ex_br (fun hc => ?_) (fun hc => ?_)
      · rw [if_pos hc] at hF
        cases hF
        exact Ex_fin rfl
      · rw [if_neg hc] at hF
        refine Ex_go 5 (pc' := 30) (L' := [some (.int x0), some (.ref p1), some (.ref p2), some (.int x3), some (.int x4)]) (st' := [.int x4, .ref p1, .int x0, .int x4, .ref p1]) (σ' := (S, M, O)) (rfl) ?_
        obtain ⟨hc1, hF⟩ := ck_i hF
        refine Ex_chk (b := ib x4 60) (pc' := 31) (L' := [some (.int x0), some (.ref p1), some (.ref p2), some (.int x3), some (.int x4)]) (st' := [.int (ai S p1 (Int32.toNatClampNeg x4)), .int x0, .int x4, .ref p1]) (σ' := (S, M, O)) (stW_ld rfl hp1) hc1 ?_
        refine Ex_go 2 (pc' := 34) (L' := [some (.int x0), some (.ref p1), some (.ref p2), some (.int x3), some (.int x4)]) (st' := [.int x4, .ref p2, .int (ai S p1 (Int32.toNatClampNeg x4)), .int x0, .int x4, .ref p1]) (σ' := (S, M, O)) (rfl) ?_
        obtain ⟨hc2, hF⟩ := ck_i hF
        refine Ex_chk (b := ib x4 60) (pc' := 35) (L' := [some (.int x0), some (.ref p1), some (.ref p2), some (.int x3), some (.int x4)]) (st' := [.int (ai S p2 (Int32.toNatClampNeg x4)), .int (ai S p1 (Int32.toNatClampNeg x4)), .int x0, .int x4, .ref p1]) (σ' := (S, M, O)) (stW_ld rfl hp2) hc2 ?_
        obtain ⟨r3, hx4, hF⟩ := b1_i hF
        refine Ex_call (kind := 0) (y := 110) (as := [.int x0, .int (ai S p1 (Int32.toNatClampNeg x4)), .int (ai S p2 (Int32.toNatClampNeg x4))]) (rest := [.int x4, .ref p1]) (L0 := [some (.int x0), some (.int (ai S p1 (Int32.toNatClampNeg x4))), some (.int (ai S p2 (Int32.toNatClampNeg x4)))]) (d' := 1) (v := some (.int r3)) (σ1 := (S, M, O)) rfl rfl mt_110 rfl rfl (by omega) (X_Po_joined (Nat.le_refl _) _ _ _ _ hx4) (Ex_st (st2 := [.int r3, .int x4, .ref p1]) rfl ?_)
        obtain ⟨hc5, hF⟩ := ck_i hF
        refine Ex_chk (b := ib x4 60) (pc' := 39) (L' := [some (.int x0), some (.ref p1), some (.ref p2), some (.int x3), some (.int x4)]) (st' := []) (σ' := ((ui S p1 (upd (ai S p1) (Int32.toNatClampNeg x4) r3)), M, O)) (stW_st rfl hp1) hc5 ?_
        refine Ex_go 2 (pc' := 3) (L' := [some (.int x0), some (.ref p1), some (.ref p2), some (.int x3), some (.int (x4 + (1 : Int32)))]) (st' := []) (σ' := ((ui S p1 (upd (ai S p1) (Int32.toNatClampNeg x4) r3)), M, O)) (rfl) ?_
        exact Ex_mono (L := [some (.int x0), some (.ref p1), some (.ref p2), some (.int x3), some (.int (x4 + (1 : Int32)))]) (Le_s (Le_s (Le_s (Le_s (Le_s (Le_0)))))) (ih _ _ _ _ _ _ _ _ hp1 hp2 hF) (Nat.le_refl _) (by omega)
def F_Po_join (x0 : Int32) (p1 : Nat) (p2 : Nat) (x3 : Int32) (S : Sto) : Option (Unit × Sto) := F_Po_join_3 FU x0 p1 p2 x3 (0 : Int32) S
set_option maxRecDepth 100000 in
theorem X_Po_join {nL : Nat} {xs : Nat → Int32} {M : Sto} {O : Sto} {d : Nat} (hd : 2 ≤ d) : ∀ (x0 : Int32) (p1 : Nat) (p2 : Nat) (x3 : Int32) (S : Sto) (r : Unit) (S' : Sto), isW p1 → isW p2 → F_Po_join x0 p1 p2 x3 S = some (r, S') → EX nL xs 0 MI_111 d 0 [some (.int x0), some (.ref p1), some (.ref p2), some (.int x3), none] [] (S, M, O) (.inl none) (S', M, O) := by
  intro x0 p1 p2 x3 S r S' hp1 hp2 hF
  unfold F_Po_join at hF
  refine Ex_go 2 (pc' := 3) (L' := [some (.int x0), some (.ref p1), some (.ref p2), some (.int x3), some (.int (0 : Int32))]) (st' := []) (σ' := (S, M, O)) (rfl) ?_
  exact Ex_mono (L := [some (.int x0), some (.ref p1), some (.ref p2), some (.int x3), some (.int (0 : Int32))]) (Le_s (Le_s (Le_s (Le_s (Le_s (Le_0)))))) (X_Po_join_3 hd FU _ _ _ _ _ _ _ _ hp1 hp2 hF) (Nat.le_refl _) (by omega)
def F_j_bitCountJ (x0 : Int64) : Option Int32 := nm (x0 - (((Int64.toUInt64 x0 >>> (Int64.toUInt64 (Int32.toInt64 (1 : Int32)) &&& Int64.toUInt64 63)).toInt64) &&& (6148914691236517205 : Int64))) (fun t1 => nm ((t1 &&& (3689348814741910323 : Int64)) + (((Int64.toUInt64 t1 >>> (Int64.toUInt64 (Int32.toInt64 (2 : Int32)) &&& Int64.toUInt64 63)).toInt64) &&& (3689348814741910323 : Int64))) (fun t3 => nm ((t3 + ((Int64.toUInt64 t3 >>> (Int64.toUInt64 (Int32.toInt64 (4 : Int32)) &&& Int64.toUInt64 63)).toInt64)) &&& (1085102592571150095 : Int64)) (fun t5 => nm (t5 + ((Int64.toUInt64 t5 >>> (Int64.toUInt64 (Int32.toInt64 (8 : Int32)) &&& Int64.toUInt64 63)).toInt64)) (fun t7 => nm (t7 + ((Int64.toUInt64 t7 >>> (Int64.toUInt64 (Int32.toInt64 (16 : Int32)) &&& Int64.toUInt64 63)).toInt64)) (fun t9 => nm (t9 + ((Int64.toUInt64 t9 >>> (Int64.toUInt64 (Int32.toInt64 (32 : Int32)) &&& Int64.toUInt64 63)).toInt64)) (fun t11 => some ((Int64.toInt32 t11) &&& (127 : Int32))))))))
set_option maxRecDepth 100000 in
theorem X_j_bitCountJ {nL : Nat} {xs : Nat → Int32} {S : Sto} {M : Sto} {O : Sto} {d : Nat} (hd : 1 ≤ d) : ∀ (x0 : Int64) (r : Int32), F_j_bitCountJ x0 = some r → EX nL xs 0 MI_80 d 0 [some (.long x0), none] [] (S, M, O) (.inl (some (.int r))) (S, M, O) := by
  intro x0 r hF
  unfold F_j_bitCountJ at hF
  obtain ⟨t1, ht2, hF⟩ := nm_i hF
  refine Ex_go 8 (pc' := 10) (L' := [some (.long t1), none]) (st' := []) (σ' := (S, M, O)) (by rw [ht2]; rfl) ?_
  obtain ⟨t3, ht4, hF⟩ := nm_i hF
  refine Ex_go 10 (pc' := 24) (L' := [some (.long t3), none]) (st' := []) (σ' := (S, M, O)) (by rw [ht4]; rfl) ?_
  obtain ⟨t5, ht6, hF⟩ := nm_i hF
  refine Ex_go 8 (pc' := 34) (L' := [some (.long t5), none]) (st' := []) (σ' := (S, M, O)) (by rw [ht6]; rfl) ?_
  obtain ⟨t7, ht8, hF⟩ := nm_i hF
  refine Ex_go 6 (pc' := 41) (L' := [some (.long t7), none]) (st' := []) (σ' := (S, M, O)) (by rw [ht8]; rfl) ?_
  obtain ⟨t9, ht10, hF⟩ := nm_i hF
  refine Ex_go 6 (pc' := 48) (L' := [some (.long t9), none]) (st' := []) (σ' := (S, M, O)) (by rw [ht10]; rfl) ?_
  obtain ⟨t11, ht12, hF⟩ := nm_i hF
  refine Ex_go 6 (pc' := 55) (L' := [some (.long t11), none]) (st' := []) (σ' := (S, M, O)) (by rw [ht12]; rfl) ?_
  refine Ex_go 4 (pc' := 60) (L' := [some (.long t11), none]) (st' := [.int ((Int64.toInt32 t11) &&& (127 : Int32))]) (σ' := (S, M, O)) (rfl) ?_
  cases hF
  exact Ex_fin rfl
def F_Po_put_180 (k10 : Nat → Int32 → Int32 → Int32 → Int64 → Int32 → Int32 → Sto → Option (Unit × Sto)) (p1 : Nat) (x2 : Int32) (x3 : Int32) (x4 : Int32) (x5 : Int64) (x7 : Int32) (x8 : Int32) (S : Sto) : Option (Unit × Sto) := k10 p1 x2 x3 x4 x5 x7 (x8 + (1 : Int32)) S
set_option maxRecDepth 100000 in
theorem X_Po_put_180 {nL : Nat} {xs : Nat → Int32} {M : Sto} {O : Sto} {d : Nat} (hd : 2 ≤ d) {k10 : Nat → Int32 → Int32 → Int32 → Int64 → Int32 → Int32 → Sto → Option (Unit × Sto)} (hk10 : ∀ (p1 : Nat) (x2 : Int32) (x3 : Int32) (x4 : Int32) (x5 : Int64) (x7 : Int32) (x8 : Int32) (S : Sto) (r : Unit) (S' : Sto), isW p1 → k10 p1 x2 x3 x4 x5 x7 x8 S = some (r, S') → EX nL xs 0 MI_109 d 10 [some (.ref 43), some (.ref p1), some (.int x2), some (.int x3), some (.int x4), some (.long x5), none, some (.int x7), some (.int x8)] [] (S, M, O) (.inl none) (S', M, O)) : ∀ (p1 : Nat) (x2 : Int32) (x3 : Int32) (x4 : Int32) (x5 : Int64) (x7 : Int32) (x8 : Int32) (S : Sto) (r : Unit) (S' : Sto), isW p1 → F_Po_put_180 k10 p1 x2 x3 x4 x5 x7 x8 S = some (r, S') → EX nL xs 0 MI_109 d 180 [some (.ref 43), some (.ref p1), some (.int x2), some (.int x3), some (.int x4), some (.long x5), none, some (.int x7), some (.int x8)] [] (S, M, O) (.inl none) (S', M, O) := by
  intro p1 x2 x3 x4 x5 x7 x8 S r S' hp1 hF
  unfold F_Po_put_180 at hF
  refine Ex_go 2 (pc' := 10) (L' := [some (.ref 43), some (.ref p1), some (.int x2), some (.int x3), some (.int x4), some (.long x5), none, some (.int x7), some (.int (x8 + (1 : Int32)))]) (st' := []) (σ' := (S, M, O)) (rfl) ?_
  exact Ex_mono (L := [some (.ref 43), some (.ref p1), some (.int x2), some (.int x3), some (.int x4), some (.long x5), none, some (.int x7), some (.int (x8 + (1 : Int32)))]) (Le_s (Le_s (Le_s (Le_s (Le_s (Le_s (Le_n (Le_s (Le_s (Le_0)))))))))) (hk10 _ _ _ _ _ _ _ _ _ _ hp1 hF) (Nat.le_refl _) (by omega)
def F_Po_put_116 (k10 : Nat → Int32 → Int32 → Int32 → Int64 → Int32 → Int32 → Sto → Option (Unit × Sto)) (p1 : Nat) (x2 : Int32) (x3 : Int32) (x4 : Int32) (x5 : Int64) (x7 : Int32) (x8 : Int32) (qs0 : Nat) (s1 : Int32) (s2 : Int64) (s3 : Int32) (S : Sto) : Option (Unit × Sto) := b1 (F_w_bit s2 s3) (fun r1 => ck (ib s1 60) (F_Po_put_180 k10 p1 x2 x3 x4 x5 x7 x8 (ui S qs0 (upd (ai S qs0) (Int32.toNatClampNeg s1) r1))))
set_option maxRecDepth 100000 in
theorem X_Po_put_116 {nL : Nat} {xs : Nat → Int32} {M : Sto} {O : Sto} {d : Nat} (hd : 2 ≤ d) {k10 : Nat → Int32 → Int32 → Int32 → Int64 → Int32 → Int32 → Sto → Option (Unit × Sto)} (hk10 : ∀ (p1 : Nat) (x2 : Int32) (x3 : Int32) (x4 : Int32) (x5 : Int64) (x7 : Int32) (x8 : Int32) (S : Sto) (r : Unit) (S' : Sto), isW p1 → k10 p1 x2 x3 x4 x5 x7 x8 S = some (r, S') → EX nL xs 0 MI_109 d 10 [some (.ref 43), some (.ref p1), some (.int x2), some (.int x3), some (.int x4), some (.long x5), none, some (.int x7), some (.int x8)] [] (S, M, O) (.inl none) (S', M, O)) : ∀ (p1 : Nat) (x2 : Int32) (x3 : Int32) (x4 : Int32) (x5 : Int64) (x7 : Int32) (x8 : Int32) (qs0 : Nat) (s1 : Int32) (s2 : Int64) (s3 : Int32) (S : Sto) (r : Unit) (S' : Sto), isW p1 → isW qs0 → F_Po_put_116 k10 p1 x2 x3 x4 x5 x7 x8 qs0 s1 s2 s3 S = some (r, S') → EX nL xs 0 MI_109 d 116 [some (.ref 43), some (.ref p1), some (.int x2), some (.int x3), some (.int x4), some (.long x5), none, some (.int x7), some (.int x8)] [.int s3, .long s2, .int s1, .ref qs0] (S, M, O) (.inl none) (S', M, O) := by
  intro p1 x2 x3 x4 x5 x7 x8 qs0 s1 s2 s3 S r S' hp1 hqs0 hF
  unfold F_Po_put_116 at hF
  obtain ⟨r1, hx2, hF⟩ := b1_i hF
  refine Ex_call (kind := 1) (y := 15) (as := [.long s2, .int s3]) (rest := [.int s1, .ref qs0]) (L0 := [some (.long s2), none, some (.int s3)]) (d' := 1) (v := some (.int r1)) (σ1 := (S, M, O)) rfl rfl mt_15 rfl rfl (by omega) (X_w_bit (Nat.le_refl _) _ _ _ hx2) (Ex_st (st2 := [.int r1, .int s1, .ref qs0]) rfl ?_)
  obtain ⟨hc3, hF⟩ := ck_i hF
  refine Ex_chk (b := ib s1 60) (pc' := 120) (L' := [some (.ref 43), some (.ref p1), some (.int x2), some (.int x3), some (.int x4), some (.long x5), none, some (.int x7), some (.int x8)]) (st' := []) (σ' := ((ui S qs0 (upd (ai S qs0) (Int32.toNatClampNeg s1) r1)), M, O)) (stW_st rfl hqs0) hc3 ?_
  refine Ex_go 1 (pc' := 180) (L' := [some (.ref 43), some (.ref p1), some (.int x2), some (.int x3), some (.int x4), some (.long x5), none, some (.int x7), some (.int x8)]) (st' := []) (σ' := ((ui S qs0 (upd (ai S qs0) (Int32.toNatClampNeg s1) r1)), M, O)) (rfl) ?_
  exact Ex_mono (L := [some (.ref 43), some (.ref p1), some (.int x2), some (.int x3), some (.int x4), some (.long x5), none, some (.int x7), some (.int x8)]) (Le_s (Le_s (Le_s (Le_s (Le_s (Le_s (Le_n (Le_s (Le_s (Le_0)))))))))) (X_Po_put_180 hd hk10 _ _ _ _ _ _ _ _ _ _ hp1 hF) (Nat.le_refl _) (by omega)
def F_Po_put_145 (k10 : Nat → Int32 → Int32 → Int32 → Int64 → Int32 → Int32 → Sto → Option (Unit × Sto)) (p1 : Nat) (x2 : Int32) (x3 : Int32) (x4 : Int32) (x5 : Int64) (x7 : Int32) (x8 : Int32) (qs0 : Nat) (s1 : Int32) (s2 : Int64) (s3 : Int32) (S : Sto) : Option (Unit × Sto) := b1 (F_w_bit s2 s3) (fun r1 => ck (ib s1 60) (F_Po_put_180 k10 p1 x2 x3 x4 x5 x7 x8 (ui S qs0 (upd (ai S qs0) (Int32.toNatClampNeg s1) r1))))
set_option maxRecDepth 100000 in
theorem X_Po_put_145 {nL : Nat} {xs : Nat → Int32} {M : Sto} {O : Sto} {d : Nat} (hd : 2 ≤ d) {k10 : Nat → Int32 → Int32 → Int32 → Int64 → Int32 → Int32 → Sto → Option (Unit × Sto)} (hk10 : ∀ (p1 : Nat) (x2 : Int32) (x3 : Int32) (x4 : Int32) (x5 : Int64) (x7 : Int32) (x8 : Int32) (S : Sto) (r : Unit) (S' : Sto), isW p1 → k10 p1 x2 x3 x4 x5 x7 x8 S = some (r, S') → EX nL xs 0 MI_109 d 10 [some (.ref 43), some (.ref p1), some (.int x2), some (.int x3), some (.int x4), some (.long x5), none, some (.int x7), some (.int x8)] [] (S, M, O) (.inl none) (S', M, O)) : ∀ (p1 : Nat) (x2 : Int32) (x3 : Int32) (x4 : Int32) (x5 : Int64) (x7 : Int32) (x8 : Int32) (qs0 : Nat) (s1 : Int32) (s2 : Int64) (s3 : Int32) (S : Sto) (r : Unit) (S' : Sto), isW p1 → isW qs0 → F_Po_put_145 k10 p1 x2 x3 x4 x5 x7 x8 qs0 s1 s2 s3 S = some (r, S') → EX nL xs 0 MI_109 d 145 [some (.ref 43), some (.ref p1), some (.int x2), some (.int x3), some (.int x4), some (.long x5), none, some (.int x7), some (.int x8)] [.int s3, .long s2, .int s1, .ref qs0] (S, M, O) (.inl none) (S', M, O) := by
  intro p1 x2 x3 x4 x5 x7 x8 qs0 s1 s2 s3 S r S' hp1 hqs0 hF
  unfold F_Po_put_145 at hF
  obtain ⟨r1, hx2, hF⟩ := b1_i hF
  refine Ex_call (kind := 1) (y := 15) (as := [.long s2, .int s3]) (rest := [.int s1, .ref qs0]) (L0 := [some (.long s2), none, some (.int s3)]) (d' := 1) (v := some (.int r1)) (σ1 := (S, M, O)) rfl rfl mt_15 rfl rfl (by omega) (X_w_bit (Nat.le_refl _) _ _ _ hx2) (Ex_st (st2 := [.int r1, .int s1, .ref qs0]) rfl ?_)
  obtain ⟨hc3, hF⟩ := ck_i hF
  refine Ex_chk (b := ib s1 60) (pc' := 149) (L' := [some (.ref 43), some (.ref p1), some (.int x2), some (.int x3), some (.int x4), some (.long x5), none, some (.int x7), some (.int x8)]) (st' := []) (σ' := ((ui S qs0 (upd (ai S qs0) (Int32.toNatClampNeg s1) r1)), M, O)) (stW_st rfl hqs0) hc3 ?_
  refine Ex_go 1 (pc' := 180) (L' := [some (.ref 43), some (.ref p1), some (.int x2), some (.int x3), some (.int x4), some (.long x5), none, some (.int x7), some (.int x8)]) (st' := []) (σ' := ((ui S qs0 (upd (ai S qs0) (Int32.toNatClampNeg s1) r1)), M, O)) (rfl) ?_
  exact Ex_mono (L := [some (.ref 43), some (.ref p1), some (.int x2), some (.int x3), some (.int x4), some (.long x5), none, some (.int x7), some (.int x8)]) (Le_s (Le_s (Le_s (Le_s (Le_s (Le_s (Le_n (Le_s (Le_s (Le_0)))))))))) (X_Po_put_180 hd hk10 _ _ _ _ _ _ _ _ _ _ hp1 hF) (Nat.le_refl _) (by omega)
def F_Po_put_10 : Nat → Nat → Int32 → Int32 → Int32 → Int64 → Int32 → Int32 → Sto → Option (Unit × Sto)
  | 0, _, _, _, _, _, _, _, _ => none
  | n + 1, p1, x2, x3, x4, x5, x7, x8, S => if x4 ≤ x8 then some ((), S) else if (60 : Int32) ≤ x8 then some ((), S) else if (nI 60) ≤ x8 then some ((), S) else if x2 = 1 then ck (ib x8 60) (F_Po_put_180 (F_Po_put_10 n) p1 x2 x3 x4 x5 x7 x8 (ui S p1 (upd (ai S p1) (Int32.toNatClampNeg x8) x8))) else (if x2 = 2 then b1 (F_w_bit x5 x8) (fun r2 => ck (ib x8 60) (F_Po_put_180 (F_Po_put_10 n) p1 x2 x3 x4 x5 x7 x8 (ui S p1 (upd (ai S p1) (Int32.toNatClampNeg x8) r2)))) else (if x2 = 3 then if x8 = 0 then F_Po_put_116 (F_Po_put_10 n) p1 x2 x3 x4 x5 x7 x8 p1 x8 x5 (x4 - (1 : Int32)) S else F_Po_put_116 (F_Po_put_10 n) p1 x2 x3 x4 x5 x7 x8 p1 x8 x5 (x8 - (1 : Int32)) S else (if x2 = 4 then if x8 = (x4 - (1 : Int32)) then F_Po_put_145 (F_Po_put_10 n) p1 x2 x3 x4 x5 x7 x8 p1 x8 x5 (0 : Int32) S else F_Po_put_145 (F_Po_put_10 n) p1 x2 x3 x4 x5 x7 x8 p1 x8 x5 (x8 + (1 : Int32)) S else (if x2 = 5 then ck (ib x8 60) (ck (ib x8 60) (F_Po_put_180 (F_Po_put_10 n) p1 x2 x3 x4 x5 x7 x8 (ui S p1 (upd (ai S p1) (Int32.toNatClampNeg x8) (ai S 45 (Int32.toNatClampNeg x8)))))) else (if x2 = 6 then ck (ib x8 60) (F_Po_put_180 (F_Po_put_10 n) p1 x2 x3 x4 x5 x7 x8 (ui S p1 (upd (ai S p1) (Int32.toNatClampNeg x8) x7))) else (ck (ib x8 60) (F_Po_put_180 (F_Po_put_10 n) p1 x2 x3 x4 x5 x7 x8 (ui S p1 (upd (ai S p1) (Int32.toNatClampNeg x8) x3)))))))))
set_option maxRecDepth 100000 in
theorem X_Po_put_10 {nL : Nat} {xs : Nat → Int32} {M : Sto} {O : Sto} {d : Nat} (hd : 2 ≤ d) : ∀ n : Nat, ∀ (p1 : Nat) (x2 : Int32) (x3 : Int32) (x4 : Int32) (x5 : Int64) (x7 : Int32) (x8 : Int32) (S : Sto) (r : Unit) (S' : Sto), isW p1 → F_Po_put_10 n p1 x2 x3 x4 x5 x7 x8 S = some (r, S') → EX nL xs 0 MI_109 d 10 [some (.ref 43), some (.ref p1), some (.int x2), some (.int x3), some (.int x4), some (.long x5), none, some (.int x7), some (.int x8)] [] (S, M, O) (.inl none) (S', M, O) := by
  intro n
  induction n with
  | zero => intro p1 x2 x3 x4 x5 x7 x8 S r S' hp1 hF; cases hF
  | succ n ih =>
  intro p1 x2 x3 x4 x5 x7 x8 S r S' hp1 hF
  unfold F_Po_put_10 at hF
  refine Ex_go 3 (pc' := if x4 ≤ x8 then 186 else 17) (L' := [some (.ref 43), some (.ref p1), some (.int x2), some (.int x3), some (.int x4), some (.long x5), none, some (.int x7), some (.int x8)]) (st' := []) (σ' := (S, M, O)) (rfl) ?_
  refine Ex_br (fun hc => ?_) (fun hc => ?_)
  · rw [if_pos hc] at hF
    cases hF
    exact Ex_fin rfl
  · rw [if_neg hc] at hF
    refine Ex_go 3 (pc' := if (60 : Int32) ≤ x8 then 186 else 24) (L' := [some (.ref 43), some (.ref p1), some (.int x2), some (.int x3), some (.int x4), some (.long x5), none, some (.int x7), some (.int x8)]) (st' := []) (σ' := (S, M, O)) (rfl) ?_
    refine Ex_br (fun hc => ?_) (fun hc => ?_)
    · rw [if_pos hc] at hF
      cases hF
      exact Ex_fin rfl
    · rw [if_neg hc] at hF
      refine Ex_go 2 (pc' := 27) (L' := [some (.ref 43), some (.ref p1), some (.int x2), some (.int x3), some (.int x4), some (.long x5), none, some (.int x7), some (.int x8)]) (st' := [.ref p1, .int x8]) (σ' := (S, M, O)) (rfl) ?_
      refine Ex_step (pc' := 28) (L' := [some (.ref 43), some (.ref p1), some (.int x2), some (.int x3), some (.int x4), some (.long x5), none, some (.int x7), some (.int x8)]) (st' := [.int (nI 60), .int x8]) (σ' := (S, M, O)) (stW_len rfl hp1) ?_
      refine Ex_go 1 (pc' := if (nI 60) ≤ x8 then 186 else 31) (L' := [some (.ref 43), some (.ref p1), some (.int x2), some (.int x3), some (.int x4), some (.long x5), none, some (.int x7), some (.int x8)]) (st' := []) (σ' := (S, M, O)) (rfl) ?_
      refine Ex_br (fun hc => ?_) (fun hc => ?_)
      · rw [if_pos hc] at hF
        cases hF
        exact Ex_fin rfl
      · rw [if_neg hc] at hF
        refine Ex_go 2 (pc' := swp x2 [(1, 72), (2, 81), (3, 95), (4, 123), (5, 152), (6, 166)] 175) (L' := [some (.ref 43), some (.ref p1), some (.int x2), some (.int x3), some (.int x4), some (.long x5), none, some (.int x7), some (.int x8)]) (st' := []) (σ' := (S, M, O)) (rfl) ?_
        refine Ex_br (c := x2 = 1) (fun hc => ?_) (fun hc => ?_)
        · rw [if_pos hc] at hF
          refine Ex_go 3 (pc' := 77) (L' := [some (.ref 43), some (.ref p1), some (.int x2), some (.int x3), some (.int x4), some (.long x5), none, some (.int x7), some (.int x8)]) (st' := [.int x8, .int x8, .ref p1]) (σ' := (S, M, O)) (rfl) ?_
          obtain ⟨hc1, hF⟩ := ck_i hF
          refine Ex_chk (b := ib x8 60) (pc' := 78) (L' := [some (.ref 43), some (.ref p1), some (.int x2), some (.int x3), some (.int x4), some (.long x5), none, some (.int x7), some (.int x8)]) (st' := []) (σ' := ((ui S p1 (upd (ai S p1) (Int32.toNatClampNeg x8) x8)), M, O)) (stW_st rfl hp1) hc1 ?_
          refine Ex_go 1 (pc' := 180) (L' := [some (.ref 43), some (.ref p1), some (.int x2), some (.int x3), some (.int x4), some (.long x5), none, some (.int x7), some (.int x8)]) (st' := []) (σ' := ((ui S p1 (upd (ai S p1) (Int32.toNatClampNeg x8) x8)), M, O)) (rfl) ?_
          exact Ex_mono (L := [some (.ref 43), some (.ref p1), some (.int x2), some (.int x3), some (.int x4), some (.long x5), none, some (.int x7), some (.int x8)]) (Le_s (Le_s (Le_s (Le_s (Le_s (Le_s (Le_n (Le_s (Le_s (Le_0)))))))))) (X_Po_put_180 hd ih _ _ _ _ _ _ _ _ _ _ hp1 hF) (Nat.le_refl _) (by omega)
        rw [if_neg hc] at hF
        refine Ex_br (c := x2 = 2) (fun hc => ?_) (fun hc => ?_)
        · rw [if_pos hc] at hF
          refine Ex_go 4 (pc' := 88) (L' := [some (.ref 43), some (.ref p1), some (.int x2), some (.int x3), some (.int x4), some (.long x5), none, some (.int x7), some (.int x8)]) (st' := [.int x8, .long x5, .int x8, .ref p1]) (σ' := (S, M, O)) (rfl) ?_
          obtain ⟨r2, hx3, hF⟩ := b1_i hF
          refine Ex_call (kind := 1) (y := 15) (as := [.long x5, .int x8]) (rest := [.int x8, .ref p1]) (L0 := [some (.long x5), none, some (.int x8)]) (d' := 1) (v := some (.int r2)) (σ1 := (S, M, O)) rfl rfl mt_15 rfl rfl (by omega) (X_w_bit (Nat.le_refl _) _ _ _ hx3) (Ex_st (st2 := [.int r2, .int x8, .ref p1]) rfl ?_)
          obtain ⟨hc4, hF⟩ := ck_i hF
          refine Ex_chk (b := ib x8 60) (pc' := 92) (L' := [some (.ref 43), some (.ref p1), some (.int x2), some (.int x3), some (.int x4), some (.long x5), none, some (.int x7), some (.int x8)]) (st' := []) (σ' := ((ui S p1 (upd (ai S p1) (Int32.toNatClampNeg x8) r2)), M, O)) (stW_st rfl hp1) hc4 ?_
          refine Ex_go 1 (pc' := 180) (L' := [some (.ref 43), some (.ref p1), some (.int x2), some (.int x3), some (.int x4), some (.long x5), none, some (.int x7), some (.int x8)]) (st' := []) (σ' := ((ui S p1 (upd (ai S p1) (Int32.toNatClampNeg x8) r2)), M, O)) (rfl) ?_
          exact Ex_mono (L := [some (.ref 43), some (.ref p1), some (.int x2), some (.int x3), some (.int x4), some (.long x5), none, some (.int x7), some (.int x8)]) (Le_s (Le_s (Le_s (Le_s (Le_s (Le_s (Le_n (Le_s (Le_s (Le_0)))))))))) (X_Po_put_180 hd ih _ _ _ _ _ _ _ _ _ _ hp1 hF) (Nat.le_refl _) (by omega)
        rw [if_neg hc] at hF
        refine Ex_br (c := x2 = 3) (fun hc => ?_) (fun hc => ?_)
        · rw [if_pos hc] at hF
          refine Ex_go 5 (pc' := if ¬ x8 = 0 then 112 else 105) (L' := [some (.ref 43), some (.ref p1), some (.int x2), some (.int x3), some (.int x4), some (.long x5), none, some (.int x7), some (.int x8)]) (st' := [.long x5, .int x8, .ref p1]) (σ' := (S, M, O)) (rfl) ?_
          refine Ex_brN (fun hc => ?_) (fun hc => ?_)
          · rw [if_pos hc] at hF
            refine Ex_go 4 (pc' := 116) (L' := [some (.ref 43), some (.ref p1), some (.int x2), some (.int x3), some (.int x4), some (.long x5), none, some (.int x7), some (.int x8)]) (st' := [.int (x4 - (1 : Int32)), .long x5, .int x8, .ref p1]) (σ' := (S, M, O)) (rfl) ?_
            exact Ex_mono (L := [some (.ref 43), some (.ref p1), some (.int x2), some (.int x3), some (.int x4), some (.long x5), none, some (.int x7), some (.int x8)]) (Le_s (Le_s (Le_s (Le_s (Le_s (Le_s (Le_n (Le_s (Le_s (Le_0)))))))))) (X_Po_put_116 hd ih _ _ _ _ _ _ _ _ _ _ _ _ _ _ hp1 hp1 hF) (Nat.le_refl _) (by omega)
          · rw [if_neg hc] at hF
            refine Ex_go 3 (pc' := 116) (L' := [some (.ref 43), some (.ref p1), some (.int x2), some (.int x3), some (.int x4), some (.long x5), none, some (.int x7), some (.int x8)]) (st' := [.int (x8 - (1 : Int32)), .long x5, .int x8, .ref p1]) (σ' := (S, M, O)) (rfl) ?_
            exact Ex_mono (L := [some (.ref 43), some (.ref p1), some (.int x2), some (.int x3), some (.int x4), some (.long x5), none, some (.int x7), some (.int x8)]) (Le_s (Le_s (Le_s (Le_s (Le_s (Le_s (Le_n (Le_s (Le_s (Le_0)))))))))) (X_Po_put_116 hd ih _ _ _ _ _ _ _ _ _ _ _ _ _ _ hp1 hp1 hF) (Nat.le_refl _) (by omega)
        rw [if_neg hc] at hF
        refine Ex_br (c := x2 = 4) (fun hc => ?_) (fun hc => ?_)
        · rw [if_pos hc] at hF
          refine Ex_go 8 (pc' := if ¬ x8 = (x4 - (1 : Int32)) then 141 else 137) (L' := [some (.ref 43), some (.ref p1), some (.int x2), some (.int x3), some (.int x4), some (.long x5), none, some (.int x7), some (.int x8)]) (st' := [.long x5, .int x8, .ref p1]) (σ' := (S, M, O)) (rfl) ?_
          refine Ex_brN (fun hc => ?_) (fun hc => ?_)
          · rw [if_pos hc] at hF
            refine Ex_go 2 (pc' := 145) (L' := [some (.ref 43), some (.ref p1), some (.int x2), some (.int x3), some (.int x4), some (.long x5), none, some (.int x7), some (.int x8)]) (st' := [.int (0 : Int32), .long x5, .int x8, .ref p1]) (σ' := (S, M, O)) (rfl) ?_
            exact Ex_mono (L := [some (.ref 43), some (.ref p1), some (.int x2), some (.int x3), some (.int x4), some (.long x5), none, some (.int x7), some (.int x8)]) (Le_s (Le_s (Le_s (Le_s (Le_s (Le_s (Le_n (Le_s (Le_s (Le_0)))))))))) (X_Po_put_145 hd ih _ _ _ _ _ _ _ _ _ _ _ _ _ _ hp1 hp1 hF) (Nat.le_refl _) (by omega)
          · rw [if_neg hc] at hF
            refine Ex_go 3 (pc' := 145) (L' := [some (.ref 43), some (.ref p1), some (.int x2), some (.int x3), some (.int x4), some (.long x5), none, some (.int x7), some (.int x8)]) (st' := [.int (x8 + (1 : Int32)), .long x5, .int x8, .ref p1]) (σ' := (S, M, O)) (rfl) ?_
            exact Ex_mono (L := [some (.ref 43), some (.ref p1), some (.int x2), some (.int x3), some (.int x4), some (.long x5), none, some (.int x7), some (.int x8)]) (Le_s (Le_s (Le_s (Le_s (Le_s (Le_s (Le_n (Le_s (Le_s (Le_0)))))))))) (X_Po_put_145 hd ih _ _ _ _ _ _ _ _ _ _ _ _ _ _ hp1 hp1 hF) (Nat.le_refl _) (by omega)
        rw [if_neg hc] at hF
        refine Ex_br (c := x2 = 5) (fun hc => ?_) (fun hc => ?_)
        · rw [if_pos hc] at hF
          refine Ex_go 5 (pc' := 161) (L' := [some (.ref 43), some (.ref p1), some (.int x2), some (.int x3), some (.int x4), some (.long x5), none, some (.int x7), some (.int x8)]) (st' := [.int x8, .ref 45, .int x8, .ref p1]) (σ' := (S, M, O)) (rfl) ?_
          obtain ⟨hc5, hF⟩ := ck_i hF
          refine Ex_chk (b := ib x8 60) (pc' := 162) (L' := [some (.ref 43), some (.ref p1), some (.int x2), some (.int x3), some (.int x4), some (.long x5), none, some (.int x7), some (.int x8)]) (st' := [.int (ai S 45 (Int32.toNatClampNeg x8)), .int x8, .ref p1]) (σ' := (S, M, O)) rfl hc5 ?_
          obtain ⟨hc6, hF⟩ := ck_i hF
          refine Ex_chk (b := ib x8 60) (pc' := 163) (L' := [some (.ref 43), some (.ref p1), some (.int x2), some (.int x3), some (.int x4), some (.long x5), none, some (.int x7), some (.int x8)]) (st' := []) (σ' := ((ui S p1 (upd (ai S p1) (Int32.toNatClampNeg x8) (ai S 45 (Int32.toNatClampNeg x8)))), M, O)) (stW_st rfl hp1) hc6 ?_
          refine Ex_go 1 (pc' := 180) (L' := [some (.ref 43), some (.ref p1), some (.int x2), some (.int x3), some (.int x4), some (.long x5), none, some (.int x7), some (.int x8)]) (st' := []) (σ' := ((ui S p1 (upd (ai S p1) (Int32.toNatClampNeg x8) (ai S 45 (Int32.toNatClampNeg x8)))), M, O)) (rfl) ?_
          exact Ex_mono (L := [some (.ref 43), some (.ref p1), some (.int x2), some (.int x3), some (.int x4), some (.long x5), none, some (.int x7), some (.int x8)]) (Le_s (Le_s (Le_s (Le_s (Le_s (Le_s (Le_n (Le_s (Le_s (Le_0)))))))))) (X_Po_put_180 hd ih _ _ _ _ _ _ _ _ _ _ hp1 hF) (Nat.le_refl _) (by omega)
        rw [if_neg hc] at hF
        refine Ex_br (c := x2 = 6) (fun hc => ?_) (fun hc => ?_)
        · rw [if_pos hc] at hF
          refine Ex_go 3 (pc' := 171) (L' := [some (.ref 43), some (.ref p1), some (.int x2), some (.int x3), some (.int x4), some (.long x5), none, some (.int x7), some (.int x8)]) (st' := [.int x7, .int x8, .ref p1]) (σ' := (S, M, O)) (rfl) ?_
          obtain ⟨hc7, hF⟩ := ck_i hF
          refine Ex_chk (b := ib x8 60) (pc' := 172) (L' := [some (.ref 43), some (.ref p1), some (.int x2), some (.int x3), some (.int x4), some (.long x5), none, some (.int x7), some (.int x8)]) (st' := []) (σ' := ((ui S p1 (upd (ai S p1) (Int32.toNatClampNeg x8) x7)), M, O)) (stW_st rfl hp1) hc7 ?_
          refine Ex_go 1 (pc' := 180) (L' := [some (.ref 43), some (.ref p1), some (.int x2), some (.int x3), some (.int x4), some (.long x5), none, some (.int x7), some (.int x8)]) (st' := []) (σ' := ((ui S p1 (upd (ai S p1) (Int32.toNatClampNeg x8) x7)), M, O)) (rfl) ?_
          exact Ex_mono (L := [some (.ref 43), some (.ref p1), some (.int x2), some (.int x3), some (.int x4), some (.long x5), none, some (.int x7), some (.int x8)]) (Le_s (Le_s (Le_s (Le_s (Le_s (Le_s (Le_n (Le_s (Le_s (Le_0)))))))))) (X_Po_put_180 hd ih _ _ _ _ _ _ _ _ _ _ hp1 hF) (Nat.le_refl _) (by omega)
        rw [if_neg hc] at hF
        refine Ex_go 3 (pc' := 179) (L' := [some (.ref 43), some (.ref p1), some (.int x2), some (.int x3), some (.int x4), some (.long x5), none, some (.int x7), some (.int x8)]) (st' := [.int x3, .int x8, .ref p1]) (σ' := (S, M, O)) (rfl) ?_
        obtain ⟨hc8, hF⟩ := ck_i hF
        refine Ex_chk (b := ib x8 60) (pc' := 180) (L' := [some (.ref 43), some (.ref p1), some (.int x2), some (.int x3), some (.int x4), some (.long x5), none, some (.int x7), some (.int x8)]) (st' := []) (σ' := ((ui S p1 (upd (ai S p1) (Int32.toNatClampNeg x8) x3)), M, O)) (stW_st rfl hp1) hc8 ?_
        exact Ex_mono (L := [some (.ref 43), some (.ref p1), some (.int x2), some (.int x3), some (.int x4), some (.long x5), none, some (.int x7), some (.int x8)]) (Le_s (Le_s (Le_s (Le_s (Le_s (Le_s (Le_n (Le_s (Le_s (Le_0)))))))))) (X_Po_put_180 hd ih _ _ _ _ _ _ _ _ _ _ hp1 hF) (Nat.le_refl _) (by omega)
def F_Po_put (p1 : Nat) (x2 : Int32) (x3 : Int32) (x4 : Int32) (x5 : Int64) (S : Sto) : Option (Unit × Sto) := b1 (F_j_bitCountJ x5) (fun r1 => F_Po_put_10 FU p1 x2 x3 x4 x5 r1 (0 : Int32) S)
set_option maxRecDepth 100000 in
theorem X_Po_put {nL : Nat} {xs : Nat → Int32} {M : Sto} {O : Sto} {d : Nat} (hd : 2 ≤ d) : ∀ (p1 : Nat) (x2 : Int32) (x3 : Int32) (x4 : Int32) (x5 : Int64) (S : Sto) (r : Unit) (S' : Sto), isW p1 → F_Po_put p1 x2 x3 x4 x5 S = some (r, S') → EX nL xs 0 MI_109 d 0 [some (.ref 43), some (.ref p1), some (.int x2), some (.int x3), some (.int x4), some (.long x5), none, none, none] [] (S, M, O) (.inl none) (S', M, O) := by
  intro p1 x2 x3 x4 x5 S r S' hp1 hF
  unfold F_Po_put at hF
  refine Ex_go 1 (pc' := 2) (L' := [some (.ref 43), some (.ref p1), some (.int x2), some (.int x3), some (.int x4), some (.long x5), none, none, none]) (st' := [.long x5]) (σ' := (S, M, O)) (rfl) ?_
  obtain ⟨r1, hx2, hF⟩ := b1_i hF
  refine Ex_call (kind := 0) (y := 80) (as := [.long x5]) (rest := []) (L0 := [some (.long x5), none]) (d' := 1) (v := some (.int r1)) (σ1 := (S, M, O)) rfl rfl mt_80 rfl rfl (by omega) (X_j_bitCountJ (Nat.le_refl _) _ _ hx2) (Ex_st (st2 := [.int r1]) rfl ?_)
  refine Ex_go 3 (pc' := 10) (L' := [some (.ref 43), some (.ref p1), some (.int x2), some (.int x3), some (.int x4), some (.long x5), none, some (.int r1), some (.int (0 : Int32))]) (st' := []) (σ' := (S, M, O)) (rfl) ?_
  exact Ex_mono (L := [some (.ref 43), some (.ref p1), some (.int x2), some (.int x3), some (.int x4), some (.long x5), none, some (.int r1), some (.int (0 : Int32))]) (Le_s (Le_s (Le_s (Le_s (Le_s (Le_s (Le_n (Le_s (Le_s (Le_0)))))))))) (X_Po_put_10 hd FU _ _ _ _ _ _ _ _ _ _ hp1 hF) (Nat.le_refl _) (by omega)
def F_Po_addUp_113 (k27 : Int32 → Int64 → Int32 → Sto → Option (Unit × Sto)) (k53 : Int32 → Int64 → Int32 → Int32 → Sto → Option (Unit × Sto)) (x1 : Int32) (x2 : Int64) (x4 : Int32) (x5 : Int32) (S : Sto) : Option (Unit × Sto) := k53 x1 x2 x4 (x5 + (1 : Int32)) S
set_option maxRecDepth 100000 in
theorem X_Po_addUp_113 {nL : Nat} {xs : Nat → Int32} {M : Sto} {O : Sto} {d : Nat} (hd : 2 ≤ d) {k27 : Int32 → Int64 → Int32 → Sto → Option (Unit × Sto)} {k53 : Int32 → Int64 → Int32 → Int32 → Sto → Option (Unit × Sto)} (hk27 : ∀ (x1 : Int32) (x2 : Int64) (x4 : Int32) (S : Sto) (r : Unit) (S' : Sto), k27 x1 x2 x4 S = some (r, S') → EX nL xs 0 MI_108 d 27 [some (.ref 43), some (.int x1), some (.long x2), none, some (.int x4), none, none] [] (S, M, O) (.inl none) (S', M, O)) (hk53 : ∀ (x1 : Int32) (x2 : Int64) (x4 : Int32) (x5 : Int32) (S : Sto) (r : Unit) (S' : Sto), k53 x1 x2 x4 x5 S = some (r, S') → EX nL xs 0 MI_108 d 53 [some (.ref 43), some (.int x1), some (.long x2), none, some (.int x4), some (.int x5), none] [] (S, M, O) (.inl none) (S', M, O)) : ∀ (x1 : Int32) (x2 : Int64) (x4 : Int32) (x5 : Int32) (S : Sto) (r : Unit) (S' : Sto), F_Po_addUp_113 k27 k53 x1 x2 x4 x5 S = some (r, S') → EX nL xs 0 MI_108 d 113 [some (.ref 43), some (.int x1), some (.long x2), none, some (.int x4), some (.int x5), none] [] (S, M, O) (.inl none) (S', M, O) := by
  intro x1 x2 x4 x5 S r S' hF
  unfold F_Po_addUp_113 at hF
  refine Ex_go 2 (pc' := 53) (L' := [some (.ref 43), some (.int x1), some (.long x2), none, some (.int x4), some (.int (x5 + (1 : Int32))), none]) (st' := []) (σ' := (S, M, O)) (rfl) ?_
  exact Ex_mono (L := [some (.ref 43), some (.int x1), some (.long x2), none, some (.int x4), some (.int (x5 + (1 : Int32))), none]) (Le_s (Le_s (Le_s (Le_n (Le_s (Le_s (Le_n (Le_0)))))))) (hk53 _ _ _ _ _ _ _ hF) (Nat.le_refl _) (by omega)
def F_Po_addUp_83 (k27 : Int32 → Int64 → Int32 → Sto → Option (Unit × Sto)) (k53 : Int32 → Int64 → Int32 → Int32 → Sto → Option (Unit × Sto)) (x1 : Int32) (x2 : Int64) (x4 : Int32) (x5 : Int32) (s0 : Int32) (S : Sto) : Option (Unit × Sto) := if s0 < 0 then F_Po_addUp_113 k27 k53 x1 x2 x4 x5 S else if (60 : Int32) ≤ s0 then F_Po_addUp_113 k27 k53 x1 x2 x4 x5 S else ck (ib s0 60) (b1 (F_w_bit x2 x5) (fun r2 => ck (ib s0 60) (F_Po_addUp_113 k27 k53 x1 x2 x4 x5 (ui S 45 (upd (ai S 45) (Int32.toNatClampNeg s0) ((ai S 45 (Int32.toNatClampNeg s0)) + r2))))))
set_option maxRecDepth 100000 in
theorem X_Po_addUp_83 {nL : Nat} {xs : Nat → Int32} {M : Sto} {O : Sto} {d : Nat} (hd : 2 ≤ d) {k27 : Int32 → Int64 → Int32 → Sto → Option (Unit × Sto)} {k53 : Int32 → Int64 → Int32 → Int32 → Sto → Option (Unit × Sto)} (hk27 : ∀ (x1 : Int32) (x2 : Int64) (x4 : Int32) (S : Sto) (r : Unit) (S' : Sto), k27 x1 x2 x4 S = some (r, S') → EX nL xs 0 MI_108 d 27 [some (.ref 43), some (.int x1), some (.long x2), none, some (.int x4), none, none] [] (S, M, O) (.inl none) (S', M, O)) (hk53 : ∀ (x1 : Int32) (x2 : Int64) (x4 : Int32) (x5 : Int32) (S : Sto) (r : Unit) (S' : Sto), k53 x1 x2 x4 x5 S = some (r, S') → EX nL xs 0 MI_108 d 53 [some (.ref 43), some (.int x1), some (.long x2), none, some (.int x4), some (.int x5), none] [] (S, M, O) (.inl none) (S', M, O)) : ∀ (x1 : Int32) (x2 : Int64) (x4 : Int32) (x5 : Int32) (s0 : Int32) (S : Sto) (r : Unit) (S' : Sto), F_Po_addUp_83 k27 k53 x1 x2 x4 x5 s0 S = some (r, S') → EX nL xs 0 MI_108 d 83 [some (.ref 43), some (.int x1), some (.long x2), none, some (.int x4), some (.int x5), none] [.int s0] (S, M, O) (.inl none) (S', M, O) := by
  intro x1 x2 x4 x5 s0 S r S' hF
  unfold F_Po_addUp_83 at hF
  refine Ex_go 3 (pc' := if s0 < 0 then 113 else 90) (L' := [some (.ref 43), some (.int x1), some (.long x2), none, some (.int x4), some (.int x5), some (.int s0)]) (st' := []) (σ' := (S, M, O)) (rfl) ?_
  refine Ex_br (fun hc => ?_) (fun hc => ?_)
  · rw [if_pos hc] at hF
    exact Ex_mono (L := [some (.ref 43), some (.int x1), some (.long x2), none, some (.int x4), some (.int x5), none]) (Le_s (Le_s (Le_s (Le_n (Le_s (Le_s (Le_n (Le_0)))))))) (X_Po_addUp_113 hd hk27 hk53 _ _ _ _ _ _ _ hF) (Nat.le_refl _) (by omega)
  · rw [if_neg hc] at hF
    refine Ex_go 3 (pc' := if (60 : Int32) ≤ s0 then 113 else 97) (L' := [some (.ref 43), some (.int x1), some (.long x2), none, some (.int x4), some (.int x5), some (.int s0)]) (st' := []) (σ' := (S, M, O)) (rfl) ?_
    refine Ex_br (fun hc => ?_) (fun hc => ?_)
    · rw [if_pos hc] at hF
      exact Ex_mono (L := [some (.ref 43), some (.int x1), some (.long x2), none, some (.int x4), some (.int x5), none]) (Le_s (Le_s (Le_s (Le_n (Le_s (Le_s (Le_n (Le_0)))))))) (X_Po_addUp_113 hd hk27 hk53 _ _ _ _ _ _ _ hF) (Nat.le_refl _) (by omega)
    · rw [if_neg hc] at hF
      refine Ex_go 4 (pc' := 104) (L' := [some (.ref 43), some (.int x1), some (.long x2), none, some (.int x4), some (.int x5), some (.int s0)]) (st' := [.int s0, .ref 45, .int s0, .ref 45]) (σ' := (S, M, O)) (rfl) ?_
      obtain ⟨hc1, hF⟩ := ck_i hF
      refine Ex_chk (b := ib s0 60) (pc' := 105) (L' := [some (.ref 43), some (.int x1), some (.long x2), none, some (.int x4), some (.int x5), some (.int s0)]) (st' := [.int (ai S 45 (Int32.toNatClampNeg s0)), .int s0, .ref 45]) (σ' := (S, M, O)) rfl hc1 ?_
      refine Ex_go 2 (pc' := 108) (L' := [some (.ref 43), some (.int x1), some (.long x2), none, some (.int x4), some (.int x5), some (.int s0)]) (st' := [.int x5, .long x2, .int (ai S 45 (Int32.toNatClampNeg s0)), .int s0, .ref 45]) (σ' := (S, M, O)) (rfl) ?_
      obtain ⟨r2, hx3, hF⟩ := b1_i hF
      refine Ex_call (kind := 1) (y := 15) (as := [.long x2, .int x5]) (rest := [.int (ai S 45 (Int32.toNatClampNeg s0)), .int s0, .ref 45]) (L0 := [some (.long x2), none, some (.int x5)]) (d' := 1) (v := some (.int r2)) (σ1 := (S, M, O)) rfl rfl mt_15 rfl rfl (by omega) (X_w_bit (Nat.le_refl _) _ _ _ hx3) (Ex_st (st2 := [.int r2, .int (ai S 45 (Int32.toNatClampNeg s0)), .int s0, .ref 45]) rfl ?_)
      refine Ex_go 1 (pc' := 112) (L' := [some (.ref 43), some (.int x1), some (.long x2), none, some (.int x4), some (.int x5), some (.int s0)]) (st' := [.int ((ai S 45 (Int32.toNatClampNeg s0)) + r2), .int s0, .ref 45]) (σ' := (S, M, O)) (rfl) ?_
      obtain ⟨hc4, hF⟩ := ck_i hF
      refine Ex_chk (b := ib s0 60) (pc' := 113) (L' := [some (.ref 43), some (.int x1), some (.long x2), none, some (.int x4), some (.int x5), some (.int s0)]) (st' := []) (σ' := ((ui S 45 (upd (ai S 45) (Int32.toNatClampNeg s0) ((ai S 45 (Int32.toNatClampNeg s0)) + r2))), M, O)) rfl hc4 ?_
      exact Ex_mono (L := [some (.ref 43), some (.int x1), some (.long x2), none, some (.int x4), some (.int x5), none]) (Le_s (Le_s (Le_s (Le_n (Le_s (Le_s (Le_n (Le_0)))))))) (X_Po_addUp_113 hd hk27 hk53 _ _ _ _ _ _ _ hF) (Nat.le_refl _) (by omega)
def F_Po_addUp_53 (k27 : Int32 → Int64 → Int32 → Sto → Option (Unit × Sto)) : Nat → Int32 → Int64 → Int32 → Int32 → Sto → Option (Unit × Sto)
  | 0, _, _, _, _, _ => none
  | n + 1, x1, x2, x4, x5, S => if x1 ≤ x5 then k27 x1 x2 (x4 + (1 : Int32)) S else if (x4 + x5) < x1 then F_Po_addUp_83 k27 (F_Po_addUp_53 k27 n) x1 x2 x4 x5 (x4 + x5) S else F_Po_addUp_83 k27 (F_Po_addUp_53 k27 n) x1 x2 x4 x5 ((x4 + x5) - x1) S
set_option maxRecDepth 100000 in
theorem X_Po_addUp_53 {nL : Nat} {xs : Nat → Int32} {M : Sto} {O : Sto} {d : Nat} (hd : 2 ≤ d) {k27 : Int32 → Int64 → Int32 → Sto → Option (Unit × Sto)} (hk27 : ∀ (x1 : Int32) (x2 : Int64) (x4 : Int32) (S : Sto) (r : Unit) (S' : Sto), k27 x1 x2 x4 S = some (r, S') → EX nL xs 0 MI_108 d 27 [some (.ref 43), some (.int x1), some (.long x2), none, some (.int x4), none, none] [] (S, M, O) (.inl none) (S', M, O)) : ∀ n : Nat, ∀ (x1 : Int32) (x2 : Int64) (x4 : Int32) (x5 : Int32) (S : Sto) (r : Unit) (S' : Sto), F_Po_addUp_53 k27 n x1 x2 x4 x5 S = some (r, S') → EX nL xs 0 MI_108 d 53 [some (.ref 43), some (.int x1), some (.long x2), none, some (.int x4), some (.int x5), none] [] (S, M, O) (.inl none) (S', M, O) := by
  intro n
  induction n with
  | zero => intro x1 x2 x4 x5 S r S' hF; cases hF
  | succ n ih =>
  intro x1 x2 x4 x5 S r S' hF
  unfold F_Po_addUp_53 at hF
  refine Ex_go 3 (pc' := if x1 ≤ x5 then 119 else 59) (L' := [some (.ref 43), some (.int x1), some (.long x2), none, some (.int x4), some (.int x5), none]) (st' := []) (σ' := (S, M, O)) (rfl) ?_
  refine Ex_br (fun hc => ?_) (fun hc => ?_)
  · rw [if_pos hc] at hF
    refine Ex_go 2 (pc' := 27) (L' := [some (.ref 43), some (.int x1), some (.long x2), none, some (.int (x4 + (1 : Int32))), some (.int x5), none]) (st' := []) (σ' := (S, M, O)) (rfl) ?_
    exact Ex_mono (L := [some (.ref 43), some (.int x1), some (.long x2), none, some (.int (x4 + (1 : Int32))), none, none]) (Le_s (Le_s (Le_s (Le_n (Le_s (Le_n (Le_n (Le_0)))))))) (hk27 _ _ _ _ _ _ hF) (Nat.le_refl _) (by omega)
  · rw [if_neg hc] at hF
    refine Ex_go 5 (pc' := if (x4 + x5) < x1 then 78 else 68) (L' := [some (.ref 43), some (.int x1), some (.long x2), none, some (.int x4), some (.int x5), none]) (st' := []) (σ' := (S, M, O)) (rfl) ?_
    refine Ex_br (fun hc => ?_) (fun hc => ?_)
    · rw [if_pos hc] at hF
      refine Ex_go 3 (pc' := 83) (L' := [some (.ref 43), some (.int x1), some (.long x2), none, some (.int x4), some (.int x5), none]) (st' := [.int (x4 + x5)]) (σ' := (S, M, O)) (rfl) ?_
      exact Ex_mono (L := [some (.ref 43), some (.int x1), some (.long x2), none, some (.int x4), some (.int x5), none]) (Le_s (Le_s (Le_s (Le_n (Le_s (Le_s (Le_n (Le_0)))))))) (X_Po_addUp_83 hd hk27 ih _ _ _ _ _ _ _ _ hF) (Nat.le_refl _) (by omega)
    · rw [if_neg hc] at hF
      refine Ex_go 6 (pc' := 83) (L' := [some (.ref 43), some (.int x1), some (.long x2), none, some (.int x4), some (.int x5), none]) (st' := [.int ((x4 + x5) - x1)]) (σ' := (S, M, O)) (rfl) ?_
      exact Ex_mono (L := [some (.ref 43), some (.int x1), some (.long x2), none, some (.int x4), some (.int x5), none]) (Le_s (Le_s (Le_s (Le_n (Le_s (Le_s (Le_n (Le_0)))))))) (X_Po_addUp_83 hd hk27 ih _ _ _ _ _ _ _ _ hF) (Nat.le_refl _) (by omega)
def F_Po_addUp_51 (k27 : Int32 → Int64 → Int32 → Sto → Option (Unit × Sto)) (x1 : Int32) (x2 : Int64) (x4 : Int32) (s0 : Int32) (S : Sto) : Option (Unit × Sto) := F_Po_addUp_53 k27 FU x1 x2 x4 s0 S
set_option maxRecDepth 100000 in
theorem X_Po_addUp_51 {nL : Nat} {xs : Nat → Int32} {M : Sto} {O : Sto} {d : Nat} (hd : 2 ≤ d) {k27 : Int32 → Int64 → Int32 → Sto → Option (Unit × Sto)} (hk27 : ∀ (x1 : Int32) (x2 : Int64) (x4 : Int32) (S : Sto) (r : Unit) (S' : Sto), k27 x1 x2 x4 S = some (r, S') → EX nL xs 0 MI_108 d 27 [some (.ref 43), some (.int x1), some (.long x2), none, some (.int x4), none, none] [] (S, M, O) (.inl none) (S', M, O)) : ∀ (x1 : Int32) (x2 : Int64) (x4 : Int32) (s0 : Int32) (S : Sto) (r : Unit) (S' : Sto), F_Po_addUp_51 k27 x1 x2 x4 s0 S = some (r, S') → EX nL xs 0 MI_108 d 51 [some (.ref 43), some (.int x1), some (.long x2), none, some (.int x4), none, none] [.int s0] (S, M, O) (.inl none) (S', M, O) := by
  intro x1 x2 x4 s0 S r S' hF
  unfold F_Po_addUp_51 at hF
  refine Ex_go 1 (pc' := 53) (L' := [some (.ref 43), some (.int x1), some (.long x2), none, some (.int x4), some (.int s0), none]) (st' := []) (σ' := (S, M, O)) (rfl) ?_
  exact Ex_mono (L := [some (.ref 43), some (.int x1), some (.long x2), none, some (.int x4), some (.int s0), none]) (Le_s (Le_s (Le_s (Le_n (Le_s (Le_s (Le_n (Le_0)))))))) (X_Po_addUp_53 hd hk27 FU _ _ _ _ _ _ _ hF) (Nat.le_refl _) (by omega)
def F_Po_addUp_27 : Nat → Int32 → Int64 → Int32 → Sto → Option (Unit × Sto)
  | 0, _, _, _, _ => none
  | n + 1, x1, x2, x4, S => if x1 ≤ x4 then some ((), S) else b1 (F_w_bit x2 x4) (fun r1 => if r1 = (1 : Int32) then F_Po_addUp_51 (F_Po_addUp_27 n) x1 x2 x4 (x4 + (1 : Int32)) S else F_Po_addUp_51 (F_Po_addUp_27 n) x1 x2 x4 x1 S)
set_option maxRecDepth 100000 in
theorem X_Po_addUp_27 {nL : Nat} {xs : Nat → Int32} {M : Sto} {O : Sto} {d : Nat} (hd : 2 ≤ d) : ∀ n : Nat, ∀ (x1 : Int32) (x2 : Int64) (x4 : Int32) (S : Sto) (r : Unit) (S' : Sto), F_Po_addUp_27 n x1 x2 x4 S = some (r, S') → EX nL xs 0 MI_108 d 27 [some (.ref 43), some (.int x1), some (.long x2), none, some (.int x4), none, none] [] (S, M, O) (.inl none) (S', M, O) := by
  intro n
  induction n with
  | zero => intro x1 x2 x4 S r S' hF; cases hF
  | succ n ih =>
  intro x1 x2 x4 S r S' hF
  unfold F_Po_addUp_27 at hF
  refine Ex_go 3 (pc' := if x1 ≤ x4 then 125 else 33) (L' := [some (.ref 43), some (.int x1), some (.long x2), none, some (.int x4), none, none]) (st' := []) (σ' := (S, M, O)) (rfl) ?_
  refine Ex_br (fun hc => ?_) (fun hc => ?_)
  · rw [if_pos hc] at hF
    cases hF
    exact Ex_fin rfl
  · rw [if_neg hc] at hF
    refine Ex_go 2 (pc' := 36) (L' := [some (.ref 43), some (.int x1), some (.long x2), none, some (.int x4), none, none]) (st' := [.int x4, .long x2]) (σ' := (S, M, O)) (rfl) ?_
    obtain ⟨r1, hx2, hF⟩ := b1_i hF
    refine Ex_call (kind := 1) (y := 15) (as := [.long x2, .int x4]) (rest := []) (L0 := [some (.long x2), none, some (.int x4)]) (d' := 1) (v := some (.int r1)) (σ1 := (S, M, O)) rfl rfl mt_15 rfl rfl (by omega) (X_w_bit (Nat.le_refl _) _ _ _ hx2) (Ex_st (st2 := [.int r1]) rfl ?_)
    refine Ex_go 2 (pc' := if ¬ r1 = (1 : Int32) then 50 else 43) (L' := [some (.ref 43), some (.int x1), some (.long x2), none, some (.int x4), none, none]) (st' := []) (σ' := (S, M, O)) (rfl) ?_
    refine Ex_brN (fun hc => ?_) (fun hc => ?_)
    · rw [if_pos hc] at hF
      refine Ex_go 4 (pc' := 51) (L' := [some (.ref 43), some (.int x1), some (.long x2), none, some (.int x4), none, none]) (st' := [.int (x4 + (1 : Int32))]) (σ' := (S, M, O)) (rfl) ?_
      exact Ex_mono (L := [some (.ref 43), some (.int x1), some (.long x2), none, some (.int x4), none, none]) (Le_s (Le_s (Le_s (Le_n (Le_s (Le_n (Le_n (Le_0)))))))) (X_Po_addUp_51 hd ih _ _ _ _ _ _ _ hF) (Nat.le_refl _) (by omega)
    · rw [if_neg hc] at hF
      refine Ex_go 1 (pc' := 51) (L' := [some (.ref 43), some (.int x1), some (.long x2), none, some (.int x4), none, none]) (st' := [.int x1]) (σ' := (S, M, O)) (rfl) ?_
      exact Ex_mono (L := [some (.ref 43), some (.int x1), some (.long x2), none, some (.int x4), none, none]) (Le_s (Le_s (Le_s (Le_n (Le_s (Le_n (Le_n (Le_0)))))))) (X_Po_addUp_51 hd ih _ _ _ _ _ _ _ hF) (Nat.le_refl _) (by omega)
def F_Po_addUp_3 : Nat → Int32 → Int64 → Int32 → Sto → Option (Unit × Sto)
  | 0, _, _, _, _ => none
  | n + 1, x1, x2, x4, S => if (60 : Int32) ≤ x4 then F_Po_addUp_27 FU x1 x2 (0 : Int32) S else ck (ib x4 60) (F_Po_addUp_3 n x1 x2 (x4 + (1 : Int32)) (ui S 45 (upd (ai S 45) (Int32.toNatClampNeg x4) (0 : Int32))))
set_option maxRecDepth 100000 in
theorem X_Po_addUp_3 {nL : Nat} {xs : Nat → Int32} {M : Sto} {O : Sto} {d : Nat} (hd : 2 ≤ d) : ∀ n : Nat, ∀ (x1 : Int32) (x2 : Int64) (x4 : Int32) (S : Sto) (r : Unit) (S' : Sto), F_Po_addUp_3 n x1 x2 x4 S = some (r, S') → EX nL xs 0 MI_108 d 3 [some (.ref 43), some (.int x1), some (.long x2), none, some (.int x4), none, none] [] (S, M, O) (.inl none) (S', M, O) := by
  intro n
  induction n with
  | zero => intro x1 x2 x4 S r S' hF; cases hF
  | succ n ih =>
  intro x1 x2 x4 S r S' hF
  unfold F_Po_addUp_3 at hF
  refine Ex_go 3 (pc' := if (60 : Int32) ≤ x4 then 24 else 10) (L' := [some (.ref 43), some (.int x1), some (.long x2), none, some (.int x4), none, none]) (st' := []) (σ' := (S, M, O)) (rfl) ?_
  refine Ex_br (fun hc => ?_) (fun hc => ?_)
  · rw [if_pos hc] at hF
    refine Ex_go 2 (pc' := 27) (L' := [some (.ref 43), some (.int x1), some (.long x2), none, some (.int (0 : Int32)), none, none]) (st' := []) (σ' := (S, M, O)) (rfl) ?_
    exact Ex_mono (L := [some (.ref 43), some (.int x1), some (.long x2), none, some (.int (0 : Int32)), none, none]) (Le_s (Le_s (Le_s (Le_n (Le_s (Le_n (Le_n (Le_0)))))))) (X_Po_addUp_27 hd FU _ _ _ _ _ _ hF) (Nat.le_refl _) (by omega)
  · rw [if_neg hc] at hF
    refine Ex_go 4 (pc' := 17) (L' := [some (.ref 43), some (.int x1), some (.long x2), none, some (.int x4), none, none]) (st' := [.int (0 : Int32), .int x4, .ref 45]) (σ' := (S, M, O)) (rfl) ?_
    obtain ⟨hc1, hF⟩ := ck_i hF
    refine Ex_chk (b := ib x4 60) (pc' := 18) (L' := [some (.ref 43), some (.int x1), some (.long x2), none, some (.int x4), none, none]) (st' := []) (σ' := ((ui S 45 (upd (ai S 45) (Int32.toNatClampNeg x4) (0 : Int32))), M, O)) rfl hc1 ?_
    refine Ex_go 2 (pc' := 3) (L' := [some (.ref 43), some (.int x1), some (.long x2), none, some (.int (x4 + (1 : Int32))), none, none]) (st' := []) (σ' := ((ui S 45 (upd (ai S 45) (Int32.toNatClampNeg x4) (0 : Int32))), M, O)) (rfl) ?_
    exact Ex_mono (L := [some (.ref 43), some (.int x1), some (.long x2), none, some (.int (x4 + (1 : Int32))), none, none]) (Le_s (Le_s (Le_s (Le_n (Le_s (Le_n (Le_n (Le_0)))))))) (ih _ _ _ _ _ _ hF) (Nat.le_refl _) (by omega)
def F_Po_addUp (x1 : Int32) (x2 : Int64) (S : Sto) : Option (Unit × Sto) := F_Po_addUp_3 FU x1 x2 (0 : Int32) S
set_option maxRecDepth 100000 in
theorem X_Po_addUp {nL : Nat} {xs : Nat → Int32} {M : Sto} {O : Sto} {d : Nat} (hd : 2 ≤ d) : ∀ (x1 : Int32) (x2 : Int64) (S : Sto) (r : Unit) (S' : Sto), F_Po_addUp x1 x2 S = some (r, S') → EX nL xs 0 MI_108 d 0 [some (.ref 43), some (.int x1), some (.long x2), none, none, none, none] [] (S, M, O) (.inl none) (S', M, O) := by
  intro x1 x2 S r S' hF
  unfold F_Po_addUp at hF
  refine Ex_go 2 (pc' := 3) (L' := [some (.ref 43), some (.int x1), some (.long x2), none, some (.int (0 : Int32)), none, none]) (st' := []) (σ' := (S, M, O)) (rfl) ?_
  exact Ex_mono (L := [some (.ref 43), some (.int x1), some (.long x2), none, some (.int (0 : Int32)), none, none]) (Le_s (Le_s (Le_s (Le_n (Le_s (Le_n (Le_n (Le_0)))))))) (X_Po_addUp_3 hd FU _ _ _ _ _ _ hF) (Nat.le_refl _) (by omega)
def F_Po_behind_212 (k39 : Int64 → Int32 → Int32 → Int32 → Sto → Option (Int64 × Sto)) (x2 : Int64) (x4 : Int32) (x6 : Int32) (x7 : Int32) (S : Sto) : Option (Int64 × Sto) := k39 x2 x4 x6 (x7 + (1 : Int32)) S
set_option maxRecDepth 100000 in
theorem X_Po_behind_212 {nL : Nat} {xs : Nat → Int32} {M : Sto} {O : Sto} {d : Nat} (hd : 3 ≤ d) {k39 : Int64 → Int32 → Int32 → Int32 → Sto → Option (Int64 × Sto)} (hk39 : ∀ (x2 : Int64) (x4 : Int32) (x6 : Int32) (x7 : Int32) (S : Sto) (r : Int64) (S' : Sto), k39 x2 x4 x6 x7 S = some (r, S') → EX nL xs 0 MI_112 d 39 [some (.ref 43), some (.ref 12), some (.long x2), none, some (.int x4), some (.ref 18), some (.int x6), some (.int x7), none, none] [] (S, M, O) (.inl (some (.long r))) (S', M, O)) : ∀ (x2 : Int64) (x4 : Int32) (x6 : Int32) (x7 : Int32) (S : Sto) (r : Int64) (S' : Sto), F_Po_behind_212 k39 x2 x4 x6 x7 S = some (r, S') → EX nL xs 0 MI_112 d 212 [some (.ref 43), some (.ref 12), some (.long x2), none, some (.int x4), some (.ref 18), some (.int x6), some (.int x7), none, none] [] (S, M, O) (.inl (some (.long r))) (S', M, O) := by
  intro x2 x4 x6 x7 S r S' hF
  unfold F_Po_behind_212 at hF
  refine Ex_go 2 (pc' := 39) (L' := [some (.ref 43), some (.ref 12), some (.long x2), none, some (.int x4), some (.ref 18), some (.int x6), some (.int (x7 + (1 : Int32))), none, none]) (st' := []) (σ' := (S, M, O)) (rfl) ?_
  exact Ex_mono (L := [some (.ref 43), some (.ref 12), some (.long x2), none, some (.int x4), some (.ref 18), some (.int x6), some (.int (x7 + (1 : Int32))), none, none]) (Le_s (Le_s (Le_s (Le_n (Le_s (Le_s (Le_s (Le_s (Le_n (Le_n (Le_0))))))))))) (hk39 _ _ _ _ _ _ _ hF) (Nat.le_refl _) (by omega)
def F_Po_behind_101 (k39 : Int64 → Int32 → Int32 → Int32 → Sto → Option (Int64 × Sto)) (x2 : Int64) (x4 : Int32) (x6 : Int32) (x7 : Int32) (x8 : Int32) (s0 : Int32) (S : Sto) : Option (Int64 × Sto) := ck (ib x6 32) (b2 (F_Po_put (300 + (Int32.toNatClampNeg x6)) x8 s0 (gi S 23) x2 S) (fun r2 S4 => F_Po_behind_212 k39 x2 x4 (x6 + (1 : Int32)) x7 S4))
set_option maxRecDepth 100000 in
theorem X_Po_behind_101 {nL : Nat} {xs : Nat → Int32} {M : Sto} {O : Sto} {d : Nat} (hd : 3 ≤ d) {k39 : Int64 → Int32 → Int32 → Int32 → Sto → Option (Int64 × Sto)} (hk39 : ∀ (x2 : Int64) (x4 : Int32) (x6 : Int32) (x7 : Int32) (S : Sto) (r : Int64) (S' : Sto), k39 x2 x4 x6 x7 S = some (r, S') → EX nL xs 0 MI_112 d 39 [some (.ref 43), some (.ref 12), some (.long x2), none, some (.int x4), some (.ref 18), some (.int x6), some (.int x7), none, none] [] (S, M, O) (.inl (some (.long r))) (S', M, O)) : ∀ (x2 : Int64) (x4 : Int32) (x6 : Int32) (x7 : Int32) (x8 : Int32) (s0 : Int32) (S : Sto) (r : Int64) (S' : Sto), F_Po_behind_101 k39 x2 x4 x6 x7 x8 s0 S = some (r, S') → EX nL xs 0 MI_112 d 101 [some (.ref 43), some (.ref 12), some (.long x2), none, some (.int x4), some (.ref 18), some (.int x6), some (.int x7), some (.int x8), none] [.int s0] (S, M, O) (.inl (some (.long r))) (S', M, O) := by
  intro x2 x4 x6 x7 x8 s0 S r S' hF
  unfold F_Po_behind_101 at hF
  refine Ex_go 5 (pc' := 110) (L' := [some (.ref 43), some (.ref 12), some (.long x2), none, some (.int x4), some (.ref 18), some (.int x6), some (.int x7), some (.int x8), some (.int s0)]) (st' := [.int x6, .ref 44, .ref 43]) (σ' := (S, M, O)) (rfl) ?_
  obtain ⟨hc1, hF⟩ := ck_i hF
  refine Ex_chk (b := ib x6 32) (pc' := 111) (L' := [some (.ref 43), some (.ref 12), some (.long x2), none, some (.int x4), some (.ref 18), some (.int x6), some (.int x7), some (.int x8), some (.int s0)]) (st' := [.ref (300 + (Int32.toNatClampNeg x6)), .ref 43]) (σ' := (S, M, O)) rfl hc1 ?_
  refine Ex_go 5 (pc' := 120) (L' := [some (.ref 43), some (.ref 12), some (.long x2), none, some (.int x4), some (.ref 18), some (.int x6), some (.int x7), some (.int x8), some (.int s0)]) (st' := [.long x2, .int (gi S 23), .int s0, .int x8, .ref (300 + (Int32.toNatClampNeg x6)), .ref 43]) (σ' := (S, M, O)) (rfl) ?_
  obtain ⟨r2, S4, hx3, hF⟩ := b2_i hF
  refine Ex_call (kind := 2) (y := 109) (as := [.ref 43, .ref (300 + (Int32.toNatClampNeg x6)), .int x8, .int s0, .int (gi S 23), .long x2]) (rest := []) (L0 := [some (.ref 43), some (.ref (300 + (Int32.toNatClampNeg x6))), some (.int x8), some (.int s0), some (.int (gi S 23)), some (.long x2), none, none, none]) (d' := 2) (v := none) (σ1 := (S4, M, O)) rfl rfl mt_109 rfl rfl (by omega) (X_Po_put (Nat.le_refl _) _ _ _ _ _ _ _ _ (isW_32 hc1) hx3) (Ex_st (st2 := []) rfl ?_)
  refine Ex_go 2 (pc' := 212) (L' := [some (.ref 43), some (.ref 12), some (.long x2), none, some (.int x4), some (.ref 18), some (.int (x6 + (1 : Int32))), some (.int x7), some (.int x8), some (.int s0)]) (st' := []) (σ' := (S4, M, O)) (rfl) ?_
  exact Ex_mono (L := [some (.ref 43), some (.ref 12), some (.long x2), none, some (.int x4), some (.ref 18), some (.int (x6 + (1 : Int32))), some (.int x7), none, none]) (Le_s (Le_s (Le_s (Le_n (Le_s (Le_s (Le_s (Le_s (Le_n (Le_n (Le_0))))))))))) (X_Po_behind_212 hd hk39 _ _ _ _ _ _ _ hF) (Nat.le_refl _) (by omega)
def F_Po_behind_171 (k39 : Int64 → Int32 → Int32 → Int32 → Sto → Option (Int64 × Sto)) (x2 : Int64) (x4 : Int32) (x6 : Int32) (x7 : Int32) (x8 : Int32) (S : Sto) : Option (Int64 × Sto) := if x8 ≤ (8 : Int32) then F_Po_behind_212 k39 x2 x4 x6 x7 S else if x6 ≤ (1 : Int32) then F_Po_behind_212 k39 x2 x4 x6 x7 S else ck (ib ((x6 + (-1 : Int32)) - (1 : Int32)) 32) (ck (ib (x6 + (-1 : Int32)) 32) (b2 (F_Po_join x8 (300 + (Int32.toNatClampNeg ((x6 + (-1 : Int32)) - (1 : Int32)))) (300 + (Int32.toNatClampNeg (x6 + (-1 : Int32)))) (gi S 23) S) (fun r3 S5 => F_Po_behind_212 k39 x2 x4 (x6 + (-1 : Int32)) x7 S5)))
set_option maxRecDepth 100000 in
theorem X_Po_behind_171 {nL : Nat} {xs : Nat → Int32} {M : Sto} {O : Sto} {d : Nat} (hd : 3 ≤ d) {k39 : Int64 → Int32 → Int32 → Int32 → Sto → Option (Int64 × Sto)} (hk39 : ∀ (x2 : Int64) (x4 : Int32) (x6 : Int32) (x7 : Int32) (S : Sto) (r : Int64) (S' : Sto), k39 x2 x4 x6 x7 S = some (r, S') → EX nL xs 0 MI_112 d 39 [some (.ref 43), some (.ref 12), some (.long x2), none, some (.int x4), some (.ref 18), some (.int x6), some (.int x7), none, none] [] (S, M, O) (.inl (some (.long r))) (S', M, O)) : ∀ (x2 : Int64) (x4 : Int32) (x6 : Int32) (x7 : Int32) (x8 : Int32) (S : Sto) (r : Int64) (S' : Sto), F_Po_behind_171 k39 x2 x4 x6 x7 x8 S = some (r, S') → EX nL xs 0 MI_112 d 171 [some (.ref 43), some (.ref 12), some (.long x2), none, some (.int x4), some (.ref 18), some (.int x6), some (.int x7), some (.int x8), none] [] (S, M, O) (.inl (some (.long r))) (S', M, O) := by
  intro x2 x4 x6 x7 x8 S r S' hF
  unfold F_Po_behind_171 at hF
  refine Ex_go 3 (pc' := if x8 ≤ (8 : Int32) then 212 else 178) (L' := [some (.ref 43), some (.ref 12), some (.long x2), none, some (.int x4), some (.ref 18), some (.int x6), some (.int x7), some (.int x8), none]) (st' := []) (σ' := (S, M, O)) (rfl) ?_
  refine Ex_br (fun hc => ?_) (fun hc => ?_)
  · rw [if_pos hc] at hF
    exact Ex_mono (L := [some (.ref 43), some (.ref 12), some (.long x2), none, some (.int x4), some (.ref 18), some (.int x6), some (.int x7), none, none]) (Le_s (Le_s (Le_s (Le_n (Le_s (Le_s (Le_s (Le_s (Le_n (Le_n (Le_0))))))))))) (X_Po_behind_212 hd hk39 _ _ _ _ _ _ _ hF) (Nat.le_refl _) (by omega)
  · rw [if_neg hc] at hF
    refine Ex_go 3 (pc' := if x6 ≤ (1 : Int32) then 212 else 184) (L' := [some (.ref 43), some (.ref 12), some (.long x2), none, some (.int x4), some (.ref 18), some (.int x6), some (.int x7), some (.int x8), none]) (st' := []) (σ' := (S, M, O)) (rfl) ?_
    refine Ex_br (fun hc => ?_) (fun hc => ?_)
    · rw [if_pos hc] at hF
      exact Ex_mono (L := [some (.ref 43), some (.ref 12), some (.long x2), none, some (.int x4), some (.ref 18), some (.int x6), some (.int x7), none, none]) (Le_s (Le_s (Le_s (Le_n (Le_s (Le_s (Le_s (Le_s (Le_n (Le_n (Le_0))))))))))) (X_Po_behind_212 hd hk39 _ _ _ _ _ _ _ hF) (Nat.le_refl _) (by omega)
    · rw [if_neg hc] at hF
      refine Ex_go 7 (pc' := 197) (L' := [some (.ref 43), some (.ref 12), some (.long x2), none, some (.int x4), some (.ref 18), some (.int (x6 + (-1 : Int32))), some (.int x7), some (.int x8), none]) (st' := [.int ((x6 + (-1 : Int32)) - (1 : Int32)), .ref 44, .int x8]) (σ' := (S, M, O)) (rfl) ?_
      obtain ⟨hc1, hF⟩ := ck_i hF
      refine Ex_chk (b := ib ((x6 + (-1 : Int32)) - (1 : Int32)) 32) (pc' := 198) (L' := [some (.ref 43), some (.ref 12), some (.long x2), none, some (.int x4), some (.ref 18), some (.int (x6 + (-1 : Int32))), some (.int x7), some (.int x8), none]) (st' := [.ref (300 + (Int32.toNatClampNeg ((x6 + (-1 : Int32)) - (1 : Int32)))), .int x8]) (σ' := (S, M, O)) rfl hc1 ?_
      refine Ex_go 3 (pc' := 204) (L' := [some (.ref 43), some (.ref 12), some (.long x2), none, some (.int x4), some (.ref 18), some (.int (x6 + (-1 : Int32))), some (.int x7), some (.int x8), none]) (st' := [.int (x6 + (-1 : Int32)), .ref 44, .ref (300 + (Int32.toNatClampNeg ((x6 + (-1 : Int32)) - (1 : Int32)))), .int x8]) (σ' := (S, M, O)) (rfl) ?_
      obtain ⟨hc2, hF⟩ := ck_i hF
      refine Ex_chk (b := ib (x6 + (-1 : Int32)) 32) (pc' := 205) (L' := [some (.ref 43), some (.ref 12), some (.long x2), none, some (.int x4), some (.ref 18), some (.int (x6 + (-1 : Int32))), some (.int x7), some (.int x8), none]) (st' := [.ref (300 + (Int32.toNatClampNeg (x6 + (-1 : Int32)))), .ref (300 + (Int32.toNatClampNeg ((x6 + (-1 : Int32)) - (1 : Int32)))), .int x8]) (σ' := (S, M, O)) rfl hc2 ?_
      refine Ex_go 2 (pc' := 209) (L' := [some (.ref 43), some (.ref 12), some (.long x2), none, some (.int x4), some (.ref 18), some (.int (x6 + (-1 : Int32))), some (.int x7), some (.int x8), none]) (st' := [.int (gi S 23), .ref (300 + (Int32.toNatClampNeg (x6 + (-1 : Int32)))), .ref (300 + (Int32.toNatClampNeg ((x6 + (-1 : Int32)) - (1 : Int32)))), .int x8]) (σ' := (S, M, O)) (rfl) ?_
      obtain ⟨r3, S5, hx4, hF⟩ := b2_i hF
      refine Ex_call (kind := 0) (y := 111) (as := [.int x8, .ref (300 + (Int32.toNatClampNeg ((x6 + (-1 : Int32)) - (1 : Int32)))), .ref (300 + (Int32.toNatClampNeg (x6 + (-1 : Int32)))), .int (gi S 23)]) (rest := []) (L0 := [some (.int x8), some (.ref (300 + (Int32.toNatClampNeg ((x6 + (-1 : Int32)) - (1 : Int32))))), some (.ref (300 + (Int32.toNatClampNeg (x6 + (-1 : Int32))))), some (.int (gi S 23)), none]) (d' := 2) (v := none) (σ1 := (S5, M, O)) rfl rfl mt_111 rfl rfl (by omega) (X_Po_join (Nat.le_refl _) _ _ _ _ _ _ _ (isW_32 hc1) (isW_32 hc2) hx4) (Ex_st (st2 := []) rfl ?_)
      exact Ex_mono (L := [some (.ref 43), some (.ref 12), some (.long x2), none, some (.int x4), some (.ref 18), some (.int (x6 + (-1 : Int32))), some (.int x7), none, none]) (Le_s (Le_s (Le_s (Le_n (Le_s (Le_s (Le_s (Le_s (Le_n (Le_n (Le_0))))))))))) (X_Po_behind_212 hd hk39 _ _ _ _ _ _ _ hF) (Nat.le_refl _) (by omega)
def F_Po_behind_129 (k39 : Int64 → Int32 → Int32 → Int32 → Sto → Option (Int64 × Sto)) (x2 : Int64) (x4 : Int32) (x6 : Int32) (x7 : Int32) (x8 : Int32) (S : Sto) : Option (Int64 × Sto) := if x8 = (8 : Int32) then if x6 ≤ 0 then F_Po_behind_171 k39 x2 x4 x6 x7 x8 S else ck (ib (x6 - (1 : Int32)) 32) (ck (ib (x6 - (1 : Int32)) 32) (b2 (F_Po_join (8 : Int32) (300 + (Int32.toNatClampNeg (x6 - (1 : Int32)))) (300 + (Int32.toNatClampNeg (x6 - (1 : Int32)))) (gi S 23) S) (fun r3 S5 => F_Po_behind_212 k39 x2 x4 x6 x7 S5))) else F_Po_behind_171 k39 x2 x4 x6 x7 x8 S
set_option maxRecDepth 100000 in
theorem X_Po_behind_129 {nL : Nat} {xs : Nat → Int32} {M : Sto} {O : Sto} {d : Nat} (hd : 3 ≤ d) {k39 : Int64 → Int32 → Int32 → Int32 → Sto → Option (Int64 × Sto)} (hk39 : ∀ (x2 : Int64) (x4 : Int32) (x6 : Int32) (x7 : Int32) (S : Sto) (r : Int64) (S' : Sto), k39 x2 x4 x6 x7 S = some (r, S') → EX nL xs 0 MI_112 d 39 [some (.ref 43), some (.ref 12), some (.long x2), none, some (.int x4), some (.ref 18), some (.int x6), some (.int x7), none, none] [] (S, M, O) (.inl (some (.long r))) (S', M, O)) : ∀ (x2 : Int64) (x4 : Int32) (x6 : Int32) (x7 : Int32) (x8 : Int32) (S : Sto) (r : Int64) (S' : Sto), F_Po_behind_129 k39 x2 x4 x6 x7 x8 S = some (r, S') → EX nL xs 0 MI_112 d 129 [some (.ref 43), some (.ref 12), some (.long x2), none, some (.int x4), some (.ref 18), some (.int x6), some (.int x7), some (.int x8), none] [] (S, M, O) (.inl (some (.long r))) (S', M, O) := by
  intro x2 x4 x6 x7 x8 S r S' hF
  unfold F_Po_behind_129 at hF
  refine Ex_go 3 (pc' := if ¬ x8 = (8 : Int32) then 171 else 136) (L' := [some (.ref 43), some (.ref 12), some (.long x2), none, some (.int x4), some (.ref 18), some (.int x6), some (.int x7), some (.int x8), none]) (st' := []) (σ' := (S, M, O)) (rfl) ?_
  refine Ex_brN (fun hc => ?_) (fun hc => ?_)
  · rw [if_pos hc] at hF
    refine Ex_go 2 (pc' := if x6 ≤ 0 then 171 else 141) (L' := [some (.ref 43), some (.ref 12), some (.long x2), none, some (.int x4), some (.ref 18), some (.int x6), some (.int x7), some (.int x8), none]) (st' := []) (σ' := (S, M, O)) (rfl) ?_
    refine Ex_br (fun hc => ?_) (fun hc => ?_)
    · rw [if_pos hc] at hF
      exact Ex_mono (L := [some (.ref 43), some (.ref 12), some (.long x2), none, some (.int x4), some (.ref 18), some (.int x6), some (.int x7), some (.int x8), none]) (Le_s (Le_s (Le_s (Le_n (Le_s (Le_s (Le_s (Le_s (Le_s (Le_n (Le_0))))))))))) (X_Po_behind_171 hd hk39 _ _ _ _ _ _ _ _ hF) (Nat.le_refl _) (by omega)
    · rw [if_neg hc] at hF
      refine Ex_go 6 (pc' := 151) (L' := [some (.ref 43), some (.ref 12), some (.long x2), none, some (.int x4), some (.ref 18), some (.int x6), some (.int x7), some (.int x8), none]) (st' := [.int (x6 - (1 : Int32)), .ref 44, .int (8 : Int32)]) (σ' := (S, M, O)) (rfl) ?_
      obtain ⟨hc1, hF⟩ := ck_i hF
      refine Ex_chk (b := ib (x6 - (1 : Int32)) 32) (pc' := 152) (L' := [some (.ref 43), some (.ref 12), some (.long x2), none, some (.int x4), some (.ref 18), some (.int x6), some (.int x7), some (.int x8), none]) (st' := [.ref (300 + (Int32.toNatClampNeg (x6 - (1 : Int32)))), .int (8 : Int32)]) (σ' := (S, M, O)) rfl hc1 ?_
      refine Ex_go 5 (pc' := 160) (L' := [some (.ref 43), some (.ref 12), some (.long x2), none, some (.int x4), some (.ref 18), some (.int x6), some (.int x7), some (.int x8), none]) (st' := [.int (x6 - (1 : Int32)), .ref 44, .ref (300 + (Int32.toNatClampNeg (x6 - (1 : Int32)))), .int (8 : Int32)]) (σ' := (S, M, O)) (rfl) ?_
      obtain ⟨hc2, hF⟩ := ck_i hF
      refine Ex_chk (b := ib (x6 - (1 : Int32)) 32) (pc' := 161) (L' := [some (.ref 43), some (.ref 12), some (.long x2), none, some (.int x4), some (.ref 18), some (.int x6), some (.int x7), some (.int x8), none]) (st' := [.ref (300 + (Int32.toNatClampNeg (x6 - (1 : Int32)))), .ref (300 + (Int32.toNatClampNeg (x6 - (1 : Int32)))), .int (8 : Int32)]) (σ' := (S, M, O)) rfl hc2 ?_
      refine Ex_go 2 (pc' := 165) (L' := [some (.ref 43), some (.ref 12), some (.long x2), none, some (.int x4), some (.ref 18), some (.int x6), some (.int x7), some (.int x8), none]) (st' := [.int (gi S 23), .ref (300 + (Int32.toNatClampNeg (x6 - (1 : Int32)))), .ref (300 + (Int32.toNatClampNeg (x6 - (1 : Int32)))), .int (8 : Int32)]) (σ' := (S, M, O)) (rfl) ?_
      obtain ⟨r3, S5, hx4, hF⟩ := b2_i hF
      refine Ex_call (kind := 0) (y := 111) (as := [.int (8 : Int32), .ref (300 + (Int32.toNatClampNeg (x6 - (1 : Int32)))), .ref (300 + (Int32.toNatClampNeg (x6 - (1 : Int32)))), .int (gi S 23)]) (rest := []) (L0 := [some (.int (8 : Int32)), some (.ref (300 + (Int32.toNatClampNeg (x6 - (1 : Int32))))), some (.ref (300 + (Int32.toNatClampNeg (x6 - (1 : Int32))))), some (.int (gi S 23)), none]) (d' := 2) (v := none) (σ1 := (S5, M, O)) rfl rfl mt_111 rfl rfl (by omega) (X_Po_join (Nat.le_refl _) _ _ _ _ _ _ _ (isW_32 hc2) (isW_32 hc2) hx4) (Ex_st (st2 := []) rfl ?_)
      refine Ex_go 1 (pc' := 212) (L' := [some (.ref 43), some (.ref 12), some (.long x2), none, some (.int x4), some (.ref 18), some (.int x6), some (.int x7), some (.int x8), none]) (st' := []) (σ' := (S5, M, O)) (rfl) ?_
      exact Ex_mono (L := [some (.ref 43), some (.ref 12), some (.long x2), none, some (.int x4), some (.ref 18), some (.int x6), some (.int x7), none, none]) (Le_s (Le_s (Le_s (Le_n (Le_s (Le_s (Le_s (Le_s (Le_n (Le_n (Le_0))))))))))) (X_Po_behind_212 hd hk39 _ _ _ _ _ _ _ hF) (Nat.le_refl _) (by omega)
  · rw [if_neg hc] at hF
    exact Ex_mono (L := [some (.ref 43), some (.ref 12), some (.long x2), none, some (.int x4), some (.ref 18), some (.int x6), some (.int x7), some (.int x8), none]) (Le_s (Le_s (Le_s (Le_n (Le_s (Le_s (Le_s (Le_s (Le_s (Le_n (Le_0))))))))))) (X_Po_behind_171 hd hk39 _ _ _ _ _ _ _ _ hF) (Nat.le_refl _) (by omega)
def F_Po_behind_261 (k224 : Int64 → Int32 → Sto → Option (Int64 × Sto)) (x7 : Int64) (x9 : Int32) (S : Sto) : Option (Int64 × Sto) := k224 x7 (x9 + (1 : Int32)) S
set_option maxRecDepth 100000 in
theorem X_Po_behind_261 {nL : Nat} {xs : Nat → Int32} {M : Sto} {O : Sto} {d : Nat} (hd : 3 ≤ d) {k224 : Int64 → Int32 → Sto → Option (Int64 × Sto)} (hk224 : ∀ (x7 : Int64) (x9 : Int32) (S : Sto) (r : Int64) (S' : Sto), k224 x7 x9 S = some (r, S') → EX nL xs 0 MI_112 d 224 [some (.ref 43), some (.ref 12), none, none, none, none, none, some (.long x7), none, some (.int x9)] [] (S, M, O) (.inl (some (.long r))) (S', M, O)) : ∀ (x7 : Int64) (x9 : Int32) (S : Sto) (r : Int64) (S' : Sto), F_Po_behind_261 k224 x7 x9 S = some (r, S') → EX nL xs 0 MI_112 d 261 [some (.ref 43), some (.ref 12), none, none, none, none, none, some (.long x7), none, some (.int x9)] [] (S, M, O) (.inl (some (.long r))) (S', M, O) := by
  intro x7 x9 S r S' hF
  unfold F_Po_behind_261 at hF
  refine Ex_go 2 (pc' := 224) (L' := [some (.ref 43), some (.ref 12), none, none, none, none, none, some (.long x7), none, some (.int (x9 + (1 : Int32)))]) (st' := []) (σ' := (S, M, O)) (rfl) ?_
  exact Ex_mono (L := [some (.ref 43), some (.ref 12), none, none, none, none, none, some (.long x7), none, some (.int (x9 + (1 : Int32)))]) (Le_s (Le_s (Le_n (Le_n (Le_n (Le_n (Le_n (Le_s (Le_n (Le_s (Le_0))))))))))) (hk224 _ _ _ _ _ hF) (Nat.le_refl _) (by omega)
def F_Po_behind_224 : Nat → Int64 → Int32 → Sto → Option (Int64 × Sto)
  | 0, _, _, _ => none
  | n + 1, x7, x9, S => if (gi S 23) ≤ x9 then some (x7, S) else if (60 : Int32) ≤ x9 then some (x7, S) else ck (ib x9 60) (if (ai S (300 + (Int32.toNatClampNeg (0 : Int32))) (Int32.toNatClampNeg x9)) = 0 then F_Po_behind_261 (F_Po_behind_224 n) x7 x9 S else F_Po_behind_261 (F_Po_behind_224 n) (x7 ||| ((1 : Int64) <<< (Int32.toInt64 x9 &&& 63))) x9 S)
set_option maxRecDepth 100000 in
theorem X_Po_behind_224 {nL : Nat} {xs : Nat → Int32} {M : Sto} {O : Sto} {d : Nat} (hd : 3 ≤ d) : ∀ n : Nat, ∀ (x7 : Int64) (x9 : Int32) (S : Sto) (r : Int64) (S' : Sto), F_Po_behind_224 n x7 x9 S = some (r, S') → EX nL xs 0 MI_112 d 224 [some (.ref 43), some (.ref 12), none, none, none, none, none, some (.long x7), none, some (.int x9)] [] (S, M, O) (.inl (some (.long r))) (S', M, O) := by
  intro n
  induction n with
  | zero => intro x7 x9 S r S' hF; cases hF
  | succ n ih =>
  intro x7 x9 S r S' hF
  unfold F_Po_behind_224 at hF
  refine Ex_go 4 (pc' := if (gi S 23) ≤ x9 then 267 else 233) (L' := [some (.ref 43), some (.ref 12), none, none, none, none, none, some (.long x7), none, some (.int x9)]) (st' := []) (σ' := (S, M, O)) (rfl) ?_
  refine Ex_br (fun hc => ?_) (fun hc => ?_)
  · rw [if_pos hc] at hF
    refine Ex_go 1 (pc' := 269) (L' := [some (.ref 43), some (.ref 12), none, none, none, none, none, some (.long x7), none, some (.int x9)]) (st' := [.long x7]) (σ' := (S, M, O)) (rfl) ?_
    cases hF
    exact Ex_fin rfl
  · rw [if_neg hc] at hF
    refine Ex_go 3 (pc' := if (60 : Int32) ≤ x9 then 267 else 240) (L' := [some (.ref 43), some (.ref 12), none, none, none, none, none, some (.long x7), none, some (.int x9)]) (st' := []) (σ' := (S, M, O)) (rfl) ?_
    refine Ex_br (fun hc => ?_) (fun hc => ?_)
    · rw [if_pos hc] at hF
      refine Ex_go 1 (pc' := 269) (L' := [some (.ref 43), some (.ref 12), none, none, none, none, none, some (.long x7), none, some (.int x9)]) (st' := [.long x7]) (σ' := (S, M, O)) (rfl) ?_
      cases hF
      exact Ex_fin rfl
    · rw [if_neg hc] at hF
      refine Ex_go 3 (pc' := 245) (L' := [some (.ref 43), some (.ref 12), none, none, none, none, none, some (.long x7), none, some (.int x9)]) (st' := [.int (0 : Int32), .ref 44]) (σ' := (S, M, O)) (rfl) ?_
      refine Ex_chk (b := ib (0 : Int32) 32) (pc' := 246) (L' := [some (.ref 43), some (.ref 12), none, none, none, none, none, some (.long x7), none, some (.int x9)]) (st' := [.ref (300 + (Int32.toNatClampNeg (0 : Int32)))]) (σ' := (S, M, O)) rfl (by decide) ?_
      refine Ex_go 1 (pc' := 248) (L' := [some (.ref 43), some (.ref 12), none, none, none, none, none, some (.long x7), none, some (.int x9)]) (st' := [.int x9, .ref (300 + (Int32.toNatClampNeg (0 : Int32)))]) (σ' := (S, M, O)) (rfl) ?_
      obtain ⟨hc1, hF⟩ := ck_i hF
      refine Ex_chk (b := ib x9 60) (pc' := 249) (L' := [some (.ref 43), some (.ref 12), none, none, none, none, none, some (.long x7), none, some (.int x9)]) (st' := [.int (ai S (300 + (Int32.toNatClampNeg (0 : Int32))) (Int32.toNatClampNeg x9))]) (σ' := (S, M, O)) (stW_ld rfl (isW_32 (x := (0 : Int32)) (by decide))) hc1 ?_
      refine Ex_go 1 (pc' := if (ai S (300 + (Int32.toNatClampNeg (0 : Int32))) (Int32.toNatClampNeg x9)) = 0 then 261 else 252) (L' := [some (.ref 43), some (.ref 12), none, none, none, none, none, some (.long x7), none, some (.int x9)]) (st' := []) (σ' := (S, M, O)) (rfl) ?_
      refine Ex_br (fun hc => ?_) (fun hc => ?_)
      · rw [if_pos hc] at hF
        exact Ex_mono (L := [some (.ref 43), some (.ref 12), none, none, none, none, none, some (.long x7), none, some (.int x9)]) (Le_s (Le_s (Le_n (Le_n (Le_n (Le_n (Le_n (Le_s (Le_n (Le_s (Le_0))))))))))) (X_Po_behind_261 hd ih _ _ _ _ _ hF) (Nat.le_refl _) (by omega)
      · rw [if_neg hc] at hF
        refine Ex_go 6 (pc' := 261) (L' := [some (.ref 43), some (.ref 12), none, none, none, none, none, some (.long (x7 ||| ((1 : Int64) <<< (Int32.toInt64 x9 &&& 63)))), none, some (.int x9)]) (st' := []) (σ' := (S, M, O)) (rfl) ?_
        exact Ex_mono (L := [some (.ref 43), some (.ref 12), none, none, none, none, none, some (.long (x7 ||| ((1 : Int64) <<< (Int32.toInt64 x9 &&& 63)))), none, some (.int x9)]) (Le_s (Le_s (Le_n (Le_n (Le_n (Le_n (Le_n (Le_s (Le_n (Le_s (Le_0))))))))))) (X_Po_behind_261 hd ih _ _ _ _ _ hF) (Nat.le_refl _) (by omega)
def F_Po_behind_218 (S : Sto) : Option (Int64 × Sto) := F_Po_behind_224 FU (0 : Int64) (0 : Int32) S
set_option maxRecDepth 100000 in
theorem X_Po_behind_218 {nL : Nat} {xs : Nat → Int32} {M : Sto} {O : Sto} {d : Nat} (hd : 3 ≤ d) : ∀ (S : Sto) (r : Int64) (S' : Sto), F_Po_behind_218 S = some (r, S') → EX nL xs 0 MI_112 d 218 [some (.ref 43), some (.ref 12), none, none, none, none, none, none, none, none] [] (S, M, O) (.inl (some (.long r))) (S', M, O) := by
  intro S r S' hF
  unfold F_Po_behind_218 at hF
  refine Ex_go 4 (pc' := 224) (L' := [some (.ref 43), some (.ref 12), none, none, none, none, none, some (.long (0 : Int64)), none, some (.int (0 : Int32))]) (st' := []) (σ' := (S, M, O)) (rfl) ?_
  exact Ex_mono (L := [some (.ref 43), some (.ref 12), none, none, none, none, none, some (.long (0 : Int64)), none, some (.int (0 : Int32))]) (Le_s (Le_s (Le_n (Le_n (Le_n (Le_n (Le_n (Le_s (Le_n (Le_s (Le_0))))))))))) (X_Po_behind_224 hd FU _ _ _ _ _ hF) (Nat.le_refl _) (by omega)
def F_Po_behind_39 : Nat → Int64 → Int32 → Int32 → Int32 → Sto → Option (Int64 × Sto)
  | 0, _, _, _, _, _ => none
  | n + 1, x2, x4, x6, x7, S => if (gi S 19) ≤ x7 then F_Po_behind_218 S else if (500 : Int32) ≤ x7 then F_Po_behind_218 S else ck (ib x7 500) (if (8 : Int32) ≤ (ai S 19 (Int32.toNatClampNeg x7)) then F_Po_behind_129 (F_Po_behind_39 n) x2 x4 x6 x7 (ai S 19 (Int32.toNatClampNeg x7)) S else if (32 : Int32) ≤ x6 then F_Po_behind_129 (F_Po_behind_39 n) x2 x4 x6 x7 (ai S 19 (Int32.toNatClampNeg x7)) S else if (ai S 19 (Int32.toNatClampNeg x7)) = (7 : Int32) then F_Po_behind_101 (F_Po_behind_39 n) x2 x4 x6 x7 (ai S 19 (Int32.toNatClampNeg x7)) x4 S else ck (ib x7 500) (F_Po_behind_101 (F_Po_behind_39 n) x2 x4 x6 x7 (ai S 19 (Int32.toNatClampNeg x7)) (ai S 20 (Int32.toNatClampNeg x7)) S))
set_option maxRecDepth 100000 in
theorem X_Po_behind_39 {nL : Nat} {xs : Nat → Int32} {M : Sto} {O : Sto} {d : Nat} (hd : 3 ≤ d) : ∀ n : Nat, ∀ (x2 : Int64) (x4 : Int32) (x6 : Int32) (x7 : Int32) (S : Sto) (r : Int64) (S' : Sto), F_Po_behind_39 n x2 x4 x6 x7 S = some (r, S') → EX nL xs 0 MI_112 d 39 [some (.ref 43), some (.ref 12), some (.long x2), none, some (.int x4), some (.ref 18), some (.int x6), some (.int x7), none, none] [] (S, M, O) (.inl (some (.long r))) (S', M, O) := by
  intro n
  induction n with
  | zero => intro x2 x4 x6 x7 S r S' hF; cases hF
  | succ n ih =>
  intro x2 x4 x6 x7 S r S' hF
  unfold F_Po_behind_39 at hF
  refine Ex_go 4 (pc' := if (gi S 19) ≤ x7 then 218 else 49) (L' := [some (.ref 43), some (.ref 12), some (.long x2), none, some (.int x4), some (.ref 18), some (.int x6), some (.int x7), none, none]) (st' := []) (σ' := (S, M, O)) (rfl) ?_
  refine Ex_br (fun hc => ?_) (fun hc => ?_)
  · rw [if_pos hc] at hF
    exact Ex_mono (L := [some (.ref 43), some (.ref 12), none, none, none, none, none, none, none, none]) (Le_s (Le_s (Le_n (Le_n (Le_n (Le_n (Le_n (Le_n (Le_n (Le_n (Le_0))))))))))) (X_Po_behind_218 hd _ _ _ hF) (Nat.le_refl _) (by omega)
  · rw [if_neg hc] at hF
    refine Ex_go 3 (pc' := if (500 : Int32) ≤ x7 then 218 else 57) (L' := [some (.ref 43), some (.ref 12), some (.long x2), none, some (.int x4), some (.ref 18), some (.int x6), some (.int x7), none, none]) (st' := []) (σ' := (S, M, O)) (rfl) ?_
    refine Ex_br (fun hc => ?_) (fun hc => ?_)
    · rw [if_pos hc] at hF
      exact Ex_mono (L := [some (.ref 43), some (.ref 12), none, none, none, none, none, none, none, none]) (Le_s (Le_s (Le_n (Le_n (Le_n (Le_n (Le_n (Le_n (Le_n (Le_n (Le_0))))))))))) (X_Po_behind_218 hd _ _ _ hF) (Nat.le_refl _) (by omega)
    · rw [if_neg hc] at hF
      refine Ex_go 3 (pc' := 64) (L' := [some (.ref 43), some (.ref 12), some (.long x2), none, some (.int x4), some (.ref 18), some (.int x6), some (.int x7), none, none]) (st' := [.int x7, .ref 19]) (σ' := (S, M, O)) (rfl) ?_
      obtain ⟨hc1, hF⟩ := ck_i hF
      refine Ex_chk (b := ib x7 500) (pc' := 65) (L' := [some (.ref 43), some (.ref 12), some (.long x2), none, some (.int x4), some (.ref 18), some (.int x6), some (.int x7), none, none]) (st' := [.int (ai S 19 (Int32.toNatClampNeg x7))]) (σ' := (S, M, O)) rfl hc1 ?_
      refine Ex_go 4 (pc' := if (8 : Int32) ≤ (ai S 19 (Int32.toNatClampNeg x7)) then 129 else 74) (L' := [some (.ref 43), some (.ref 12), some (.long x2), none, some (.int x4), some (.ref 18), some (.int x6), some (.int x7), some (.int (ai S 19 (Int32.toNatClampNeg x7))), none]) (st' := []) (σ' := (S, M, O)) (rfl) ?_
      refine Ex_br (fun hc => ?_) (fun hc => ?_)
      · rw [if_pos hc] at hF
        exact Ex_mono (L := [some (.ref 43), some (.ref 12), some (.long x2), none, some (.int x4), some (.ref 18), some (.int x6), some (.int x7), some (.int (ai S 19 (Int32.toNatClampNeg x7))), none]) (Le_s (Le_s (Le_s (Le_n (Le_s (Le_s (Le_s (Le_s (Le_s (Le_n (Le_0))))))))))) (X_Po_behind_129 hd ih _ _ _ _ _ _ _ _ hF) (Nat.le_refl _) (by omega)
      · rw [if_neg hc] at hF
        refine Ex_go 3 (pc' := if (32 : Int32) ≤ x6 then 129 else 81) (L' := [some (.ref 43), some (.ref 12), some (.long x2), none, some (.int x4), some (.ref 18), some (.int x6), some (.int x7), some (.int (ai S 19 (Int32.toNatClampNeg x7))), none]) (st' := []) (σ' := (S, M, O)) (rfl) ?_
        refine Ex_br (fun hc => ?_) (fun hc => ?_)
        · rw [if_pos hc] at hF
          exact Ex_mono (L := [some (.ref 43), some (.ref 12), some (.long x2), none, some (.int x4), some (.ref 18), some (.int x6), some (.int x7), some (.int (ai S 19 (Int32.toNatClampNeg x7))), none]) (Le_s (Le_s (Le_s (Le_n (Le_s (Le_s (Le_s (Le_s (Le_s (Le_n (Le_0))))))))))) (X_Po_behind_129 hd ih _ _ _ _ _ _ _ _ hF) (Nat.le_refl _) (by omega)
        · rw [if_neg hc] at hF
          refine Ex_go 3 (pc' := if ¬ (ai S 19 (Int32.toNatClampNeg x7)) = (7 : Int32) then 93 else 88) (L' := [some (.ref 43), some (.ref 12), some (.long x2), none, some (.int x4), some (.ref 18), some (.int x6), some (.int x7), some (.int (ai S 19 (Int32.toNatClampNeg x7))), none]) (st' := []) (σ' := (S, M, O)) (rfl) ?_
          refine Ex_brN (fun hc => ?_) (fun hc => ?_)
          · rw [if_pos hc] at hF
            refine Ex_go 2 (pc' := 101) (L' := [some (.ref 43), some (.ref 12), some (.long x2), none, some (.int x4), some (.ref 18), some (.int x6), some (.int x7), some (.int (ai S 19 (Int32.toNatClampNeg x7))), none]) (st' := [.int x4]) (σ' := (S, M, O)) (rfl) ?_
            exact Ex_mono (L := [some (.ref 43), some (.ref 12), some (.long x2), none, some (.int x4), some (.ref 18), some (.int x6), some (.int x7), some (.int (ai S 19 (Int32.toNatClampNeg x7))), none]) (Le_s (Le_s (Le_s (Le_n (Le_s (Le_s (Le_s (Le_s (Le_s (Le_n (Le_0))))))))))) (X_Po_behind_101 hd ih _ _ _ _ _ _ _ _ _ hF) (Nat.le_refl _) (by omega)
          · rw [if_neg hc] at hF
            refine Ex_go 3 (pc' := 100) (L' := [some (.ref 43), some (.ref 12), some (.long x2), none, some (.int x4), some (.ref 18), some (.int x6), some (.int x7), some (.int (ai S 19 (Int32.toNatClampNeg x7))), none]) (st' := [.int x7, .ref 20]) (σ' := (S, M, O)) (rfl) ?_
            obtain ⟨hc2, hF⟩ := ck_i hF
            refine Ex_chk (b := ib x7 500) (pc' := 101) (L' := [some (.ref 43), some (.ref 12), some (.long x2), none, some (.int x4), some (.ref 18), some (.int x6), some (.int x7), some (.int (ai S 19 (Int32.toNatClampNeg x7))), none]) (st' := [.int (ai S 20 (Int32.toNatClampNeg x7))]) (σ' := (S, M, O)) rfl hc2 ?_
            exact Ex_mono (L := [some (.ref 43), some (.ref 12), some (.long x2), none, some (.int x4), some (.ref 18), some (.int x6), some (.int x7), some (.int (ai S 19 (Int32.toNatClampNeg x7))), none]) (Le_s (Le_s (Le_s (Le_n (Le_s (Le_s (Le_s (Le_s (Le_s (Le_n (Le_0))))))))))) (X_Po_behind_101 hd ih _ _ _ _ _ _ _ _ _ hF) (Nat.le_refl _) (by omega)
def F_Po_behind_33 (x2 : Int64) (x4 : Int32) (S : Sto) : Option (Int64 × Sto) := F_Po_behind_39 FU x2 x4 (0 : Int32) (0 : Int32) S
set_option maxRecDepth 100000 in
theorem X_Po_behind_33 {nL : Nat} {xs : Nat → Int32} {M : Sto} {O : Sto} {d : Nat} (hd : 3 ≤ d) : ∀ (x2 : Int64) (x4 : Int32) (S : Sto) (r : Int64) (S' : Sto), F_Po_behind_33 x2 x4 S = some (r, S') → EX nL xs 0 MI_112 d 33 [some (.ref 43), some (.ref 12), some (.long x2), none, some (.int x4), some (.ref 18), none, none, none, none] [] (S, M, O) (.inl (some (.long r))) (S', M, O) := by
  intro x2 x4 S r S' hF
  unfold F_Po_behind_33 at hF
  refine Ex_go 4 (pc' := 39) (L' := [some (.ref 43), some (.ref 12), some (.long x2), none, some (.int x4), some (.ref 18), some (.int (0 : Int32)), some (.int (0 : Int32)), none, none]) (st' := []) (σ' := (S, M, O)) (rfl) ?_
  exact Ex_mono (L := [some (.ref 43), some (.ref 12), some (.long x2), none, some (.int x4), some (.ref 18), some (.int (0 : Int32)), some (.int (0 : Int32)), none, none]) (Le_s (Le_s (Le_s (Le_n (Le_s (Le_s (Le_s (Le_s (Le_n (Le_n (Le_0))))))))))) (X_Po_behind_39 hd FU _ _ _ _ _ _ _ hF) (Nat.le_refl _) (by omega)
def F_Po_behind (x2 : Int64) (x4 : Int32) (S : Sto) : Option (Int64 × Sto) := if (gi S 20) = 0 then some (x2, S) else if (gi S 21) = 0 then F_Po_behind_33 x2 x4 S else b2 (F_Po_addUp (gi S 23) x2 S) (fun r1 S3 => F_Po_behind_33 x2 x4 S3)
set_option maxRecDepth 100000 in
theorem X_Po_behind {nL : Nat} {xs : Nat → Int32} {M : Sto} {O : Sto} {d : Nat} (hd : 3 ≤ d) : ∀ (x2 : Int64) (x4 : Int32) (S : Sto) (r : Int64) (S' : Sto), F_Po_behind x2 x4 S = some (r, S') → EX nL xs 0 MI_112 d 0 [some (.ref 43), some (.ref 12), some (.long x2), none, some (.int x4), none, none, none, none, none] [] (S, M, O) (.inl (some (.long r))) (S', M, O) := by
  intro x2 x4 S r S' hF
  unfold F_Po_behind at hF
  refine Ex_go 6 (pc' := if ¬ (gi S 20) = 0 then 16 else 14) (L' := [some (.ref 43), some (.ref 12), some (.long x2), none, some (.int x4), some (.ref 18), none, none, none, none]) (st' := []) (σ' := (S, M, O)) (rfl) ?_
  refine Ex_brN (fun hc => ?_) (fun hc => ?_)
  · rw [if_pos hc] at hF
    refine Ex_go 1 (pc' := 15) (L' := [some (.ref 43), some (.ref 12), some (.long x2), none, some (.int x4), some (.ref 18), none, none, none, none]) (st' := [.long x2]) (σ' := (S, M, O)) (rfl) ?_
    cases hF
    exact Ex_fin rfl
  · rw [if_neg hc] at hF
    refine Ex_go 3 (pc' := if (gi S 21) = 0 then 33 else 24) (L' := [some (.ref 43), some (.ref 12), some (.long x2), none, some (.int x4), some (.ref 18), none, none, none, none]) (st' := []) (σ' := (S, M, O)) (rfl) ?_
    refine Ex_br (fun hc => ?_) (fun hc => ?_)
    · rw [if_pos hc] at hF
      exact Ex_mono (L := [some (.ref 43), some (.ref 12), some (.long x2), none, some (.int x4), some (.ref 18), none, none, none, none]) (Le_s (Le_s (Le_s (Le_n (Le_s (Le_s (Le_n (Le_n (Le_n (Le_n (Le_0))))))))))) (X_Po_behind_33 hd _ _ _ _ _ hF) (Nat.le_refl _) (by omega)
    · rw [if_neg hc] at hF
      refine Ex_go 4 (pc' := 30) (L' := [some (.ref 43), some (.ref 12), some (.long x2), none, some (.int x4), some (.ref 18), none, none, none, none]) (st' := [.long x2, .int (gi S 23), .ref 43]) (σ' := (S, M, O)) (rfl) ?_
      obtain ⟨r1, S3, hx2, hF⟩ := b2_i hF
      refine Ex_call (kind := 2) (y := 108) (as := [.ref 43, .int (gi S 23), .long x2]) (rest := []) (L0 := [some (.ref 43), some (.int (gi S 23)), some (.long x2), none, none, none, none]) (d' := 2) (v := none) (σ1 := (S3, M, O)) rfl rfl mt_108 rfl rfl (by omega) (X_Po_addUp (Nat.le_refl _) _ _ _ _ _ hx2) (Ex_st (st2 := []) rfl ?_)
      exact Ex_mono (L := [some (.ref 43), some (.ref 12), some (.long x2), none, some (.int x4), some (.ref 18), none, none, none, none]) (Le_s (Le_s (Le_s (Le_n (Le_s (Le_s (Le_n (Le_n (Le_n (Le_n (Le_0))))))))))) (X_Po_behind_33 hd _ _ _ _ _ hF) (Nat.le_refl _) (by omega)
